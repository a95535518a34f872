/-! A SET OF SETS AS 64 WORDS -/
def FD (h : AH) (a : Nat) (f : Nat → Bool) : Prop := ∀ r, r < 64 → ah_l h a r = lN (msk 64 fun b => f (64 * r + b))
/-- how many below n -/
def cnt (f : Nat → Bool) : Nat → Nat
  | 0 => 0
  | n + 1 => cnt f n + (f n).toNat
theorem cnt_s (f : Nat → Bool) (n : Nat) : cnt f (n + 1) = cnt f n + (f n).toNat := rfl
theorem cnt_c {f g : Nat → Bool} : ∀ {n : Nat}, (∀ i, i < n → f i = g i) → cnt f n = cnt g n
  | 0, _ => rfl
  | n + 1, h => by rw [cnt_s, cnt_s, cnt_c fun i hi => h i (by omega), h n (by omega)]
theorem cnt_le (f : Nat → Bool) : ∀ n, cnt f n ≤ n
  | 0 => Nat.le_refl 0
  | n + 1 => by have := cnt_le f n; rw [cnt_s]; cases f n <;> simp <;> omega
theorem cnt_mono (f : Nat → Bool) {a b : Nat} (h : a ≤ b) : cnt f a ≤ cnt f b := by
  induction b with
  | zero => rw [Nat.le_zero.mp h]; exact Nat.le_refl _
  | succ b ih =>
    rcases Nat.lt_or_ge b a with q | q
    · rw [Nat.le_antisymm h q]; exact Nat.le_refl _
    · rw [cnt_s]; have := ih q; omega
theorem cnt_ex {f : Nat → Bool} {i : Nat} : ∀ {n : Nat}, i < cnt f n → ∃ s, s < n ∧ f s = true ∧ cnt f s = i
  | 0, h => (Nat.not_lt_zero _ h).elim
  | n + 1, h => by
    by_cases q : i < cnt f n
    · obtain ⟨s, h1, h2, h3⟩ := cnt_ex q
      exact ⟨s, by omega, h2, h3⟩
    · rw [cnt_s] at h
      refine ⟨n, by omega, ?_, ?_⟩ <;> cases e : f n <;> rw [e] at h <;> simp at h ⊢ <;> omega
theorem cnt_add {f : Nat → Bool} {v : Nat} (hv : f v = false) : ∀ {n : Nat}, v < n → cnt (fun x => decide (x = v) || f x) n = cnt f n + 1
  | 0, h => (Nat.not_lt_zero _ h).elim
  | n + 1, h => by
    rw [cnt_s, cnt_s]
    by_cases q : n = v
    · subst q
      rw [cnt_c (g := f) fun i hi => by simp [Nat.ne_of_lt hi], hv]
      simp
    · rw [cnt_add hv (by omega)]
      simp [q]
      omega
theorem cnt_z (n : Nat) : cnt (fun _ => false) n = 0 := by
  induction n with
  | zero => rfl
  | succ n ih => rw [cnt_s, ih]; rfl
theorem a63d {s : Nat} (h : s < 4096) : s / 64 &&& 63 = s / 64 := by rw [a63]; omega
def S46 : Nat → Nat → Prop := fun a k => a = 46 ∧ k = 2 ∨ a = 47
def S48 : Nat → Nat → Prop := fun a _ => a = 48
theorem fd_add {f : Nat → Bool} {s r : Nat} (hs : s < 4096) (hr : r < 64) : (if r = s / 64 then msk 64 (fun b => f (64 * r + b)) ||| 2 ^ (s % 64) else msk 64 (fun b => f (64 * r + b))) = msk 64 fun b => (fun x => decide (x = s) || f x) (64 * r + b) := by
  by_cases e : r = s / 64
  · subst e
    rw [if_pos rfl]
    refine msk_add (by omega) ?_ ?_
    · have : 64 * (s / 64) + s % 64 = s := by omega
      simp [this]
    · intro i hi ne
      have : ¬ 64 * (s / 64) + i = s := by omega
      simp [this]
  · rw [if_neg e]
    refine msk_c fun i hi => ?_
    have : ¬ 64 * r + i = s := by omega
    simp [this]
section CLS
variable {sc : (Nat → Int32) × Nat} {d : Nat} {h : AH} {Q : Rs → AH → Prop} {P : PG} {f : Nat → Bool}
theorem d_179 (hp : SHP h) (fd : FD h 47 f) {s : Nat} (hs : s < 4096) : TC sc (d + 1) 179 [.ref 46, .int (nI s)] h Q ↔ Q (.inl (some (.int (bI (f s))))) h := TC_of (fun Q hq => by
  have e := fd (s / 64) (by omega)
  have e2 : 64 * (s / 64) + s % 64 = s := by omega
  have e3 : (msk 64 fun b => f (64 * (s / 64) + b)).testBit (s % 64) = f s := by
    rw [msk_tb, e2]; simp; omega
  refine TC_e (ls := [.ref 46, .int (nI s)]) (Nat.le_of_ble_eq_true rfl) rfl (wx_sound (S := []) 40 true _ _ _ _ ?_)
  simp +contextual (disch := omega) only [K179, wx_t, wx_g, wJ_t, wJ_f, wI_s, CI, CL, C01, aftC_v, aftC_n, true_or, or_true, true_and, and_true, inS_n, inS_c, pI_c, pL_c, pA_c, pV_c, pE_c, pQ_s, pQ_n, pQ_r, cm_eq', cm_ne', cm_lt', cm_ge', cm_gt', cm_le', List.getD_cons_zero, List.getD_cons_succ, Nat.reduceAdd, Nat.reduceBEq, Bool.false_or, Bool.or_false, Bool.true_or, Int.reduceToNat, s_iload, s_lload, s_aload, s_istore, s_astore, s_lstore, s_iconst, s_sipush, s_aconst_null, s_iadd, s_isub, s_imul, s_iand, s_ior, s_ixor, s_idiv, s_irem, s_ishl, s_ishr, s_iushr, s_ladd, s_lsub, s_land, s_lor, s_lxor, s_lneg, s_lshl, s_lshr, s_lushr, s_i2l, s_l2i, s_lcmp, s_dup, s_pop, s_dup2, s_i2c, s_i2s, s_monitorenter, s_ifCond, s_if_icmp, s_ifnull, s_goto, s_iinc, s_tableswitch, s_ireturn, s_freturn, s_lreturn, s_areturn, s_return_, s_ldc, s_getfield, s_putfield, s_iaload, s_iastore, s_laload, s_lastore, s_baload, s_bastore, s_aaload, s_aastore, s_arraylength, s_newarray, s_anewarray, s_new, s_invokestatic, s_invokespecial, s_invokevirtual, fvl_0, fvl_1, fvl_2, fvl_3, fp_0, fp_1, fp_2, fp_3, rf_s, rf_n, isRf_b, knw_b, isLg_b, popA_0, popA_s, st1_0, st1_s, st2_e, set_0, set_s, aftC_e, hxP_s, hxP_n, iteF, iteT, bft, im_t, im_f, nt_f, nt_t, Nat.reduceDiv, Nat.reduceMod, Nat.reduceLeDiff, Nat.reduceLT, Nat.reduceEqDiff, List.length_cons, List.length_nil, Nat.zero_add, Nat.reduceSub, List.cons_append, List.nil_append, ak_i, az_i, ar_i, al_i, ai_i, ak_l, az_l, ar_l, al_l, ai_l, ak_r, az_r, ar_r, al_r, ai_r, pk_m1, reduceCtorEq, msk_tb, mskL, Bool.and_eq_true, decide_eq_true_eq, lg_0, lg_t, lg_g, lg_e, lg_l, tb_z, Nat.mod_eq_of_lt, lN_1s, and_ze, brT, brF, brN, vpT, a4095, a63, nI_e, nI_l', nI_t', dif_z, and_z, and_zr, lN_e, nI_clamp, nx_shr, Nat.reducePow, bI_0, bI_1, bI_z, bI_o, bI_or, n01, nI_add, pk_mul, nx_and, nx_or, nx_dif, lx_and, lx_or, lx_dif, Bool.not_eq_true, Bool.not_eq_false, Bool.true_eq_false, Bool.false_eq_true, ss_46 hp, e, a63d hs, lx_tb, e3]
  repeat' (first | exact hq | refine And.intro (fun _ => ?_) (fun _ => ?_))
  all_goals first | exact hq | exact lf1 hq (by simp_all) | exact lf0 hq (by simp_all)) Q
theorem d_180 (hp : SHP h) (fd : FD h 47 f) {s : Nat} (hs : s < 4096) : TC sc (d + 1) 180 [.ref 46, .int (nI s)] h fun q h' => q = .inl none ∧ FR h h' S46 ∧ FD h' 47 (fun x => decide (x = s) || f x) ∧ ah_i h' 46 2 = ah_i h 46 2 + nI 1 := by
  generalize hQ : (fun (q : Rs) (h' : AH) => q = .inl none ∧ FR h h' S46 ∧ FD h' 47 (fun x => decide (x = s) || f x) ∧ ah_i h' 46 2 = ah_i h 46 2 + nI 1) = Q
  have e := fd (s / 64) (by omega)
  refine TC_e (ls := [.ref 46, .int (nI s)]) (Nat.le_of_ble_eq_true rfl) rfl (wx_sound (S := []) 40 true _ _ _ _ ?_)
  simp +contextual (disch := omega) only [K180, wx_t, wx_g, wJ_t, wJ_f, wI_s, CI, CL, C01, aftC_v, aftC_n, true_or, or_true, true_and, and_true, inS_n, inS_c, pI_c, pL_c, pA_c, pV_c, pE_c, pQ_s, pQ_n, pQ_r, cm_eq', cm_ne', cm_lt', cm_ge', cm_gt', cm_le', List.getD_cons_zero, List.getD_cons_succ, Nat.reduceAdd, Nat.reduceBEq, Bool.false_or, Bool.or_false, Bool.true_or, Int.reduceToNat, s_iload, s_lload, s_aload, s_istore, s_astore, s_lstore, s_iconst, s_sipush, s_aconst_null, s_iadd, s_isub, s_imul, s_iand, s_ior, s_ixor, s_idiv, s_irem, s_ishl, s_ishr, s_iushr, s_ladd, s_lsub, s_land, s_lor, s_lxor, s_lneg, s_lshl, s_lshr, s_lushr, s_i2l, s_l2i, s_lcmp, s_dup, s_pop, s_dup2, s_i2c, s_i2s, s_monitorenter, s_ifCond, s_if_icmp, s_ifnull, s_goto, s_iinc, s_tableswitch, s_ireturn, s_freturn, s_lreturn, s_areturn, s_return_, s_ldc, s_getfield, s_putfield, s_iaload, s_iastore, s_laload, s_lastore, s_baload, s_bastore, s_aaload, s_aastore, s_arraylength, s_newarray, s_anewarray, s_new, s_invokestatic, s_invokespecial, s_invokevirtual, fvl_0, fvl_1, fvl_2, fvl_3, fp_0, fp_1, fp_2, fp_3, rf_s, rf_n, isRf_b, knw_b, isLg_b, popA_0, popA_s, st1_0, st1_s, st2_e, set_0, set_s, aftC_e, hxP_s, hxP_n, iteF, iteT, bft, im_t, im_f, nt_f, nt_t, Nat.reduceDiv, Nat.reduceMod, Nat.reduceLeDiff, Nat.reduceLT, Nat.reduceEqDiff, List.length_cons, List.length_nil, Nat.zero_add, Nat.reduceSub, List.cons_append, List.nil_append, ak_i, az_i, ar_i, al_i, ai_i, ak_l, az_l, ar_l, al_l, ai_l, ak_r, az_r, ar_r, al_r, ai_r, pk_m1, reduceCtorEq, msk_tb, mskL, Bool.and_eq_true, decide_eq_true_eq, lg_0, lg_t, lg_g, lg_e, lg_l, tb_z, Nat.mod_eq_of_lt, lN_1s, and_ze, brT, brF, brN, vpT, a4095, a63, nI_e, nI_l', nI_t', dif_z, and_z, and_zr, lN_e, nI_clamp, nx_shr, Nat.reducePow, bI_0, bI_1, bI_z, bI_o, bI_or, n01, nI_add, pk_mul, nx_and, nx_or, nx_dif, lx_and, lx_or, lx_dif, Bool.not_eq_true, Bool.not_eq_false, Bool.true_eq_false, Bool.false_eq_true, ss_46 hp, e, a63d hs, lx_bit, lx_or]
  rw [← hQ]
  refine ⟨rfl, ((FR.refl h S46).l (Or.inr rfl)).i (Or.inl ⟨rfl, rfl⟩), fun r hr => ?_, ?_⟩
  · have := fd_add (f := f) hs hr
    simp only [al_i, al_l, true_and]
    rw [← this]
    by_cases e5 : r = s / 64
    · subst e5; simp
    · rw [if_neg e5, if_neg e5]; exact fd r hr
  · simp [ai_i, ai_l]
theorem d_178 (hp : SHP h) : TC sc (d + 1) 178 [.ref 46] h fun q h' => q = .inl none ∧ FR h h' S46 ∧ FD h' 47 (fun _ => false) ∧ ah_i h' 46 2 = nI 0 := by
  generalize hQ : (fun (q : Rs) (h' : AH) => q = .inl none ∧ FR h h' S46 ∧ FD h' 47 (fun _ => false) ∧ ah_i h' 46 2 = nI 0) = Q
  have z : (msk 64 fun _ => false) = 0 := (msk_z _ _).mpr fun _ _ => rfl
  have lp : ∀ k, k ≤ 64 → ∀ h', FR h h' S46 → ah_i h' 46 2 = nI 0 → (∀ r, r < k → ah_l h' 47 r = lN 0) → TT sc d 178 Q 5 [.ref 46, .int (nI k)] [] h' := by
    refine up_to fun k hk ih => ?_
    intro h' fr e1 e2
    have hp' := hp.fr fr
    refine wx_sound (S := [5]) 40 true _ _ _ _ ?_
    simp +contextual (disch := omega) only [K178, wx_t, wx_g, wJ_t, wJ_f, wI_s, CI, CL, C01, aftC_v, aftC_n, true_or, or_true, true_and, and_true, inS_n, inS_c, pI_c, pL_c, pA_c, pV_c, pE_c, pQ_s, pQ_n, pQ_r, cm_eq', cm_ne', cm_lt', cm_ge', cm_gt', cm_le', List.getD_cons_zero, List.getD_cons_succ, Nat.reduceAdd, Nat.reduceBEq, Bool.false_or, Bool.or_false, Bool.true_or, Int.reduceToNat, s_iload, s_lload, s_aload, s_istore, s_astore, s_lstore, s_iconst, s_sipush, s_aconst_null, s_iadd, s_isub, s_imul, s_iand, s_ior, s_ixor, s_idiv, s_irem, s_ishl, s_ishr, s_iushr, s_ladd, s_lsub, s_land, s_lor, s_lxor, s_lneg, s_lshl, s_lshr, s_lushr, s_i2l, s_l2i, s_lcmp, s_dup, s_pop, s_dup2, s_i2c, s_i2s, s_monitorenter, s_ifCond, s_if_icmp, s_ifnull, s_goto, s_iinc, s_tableswitch, s_ireturn, s_freturn, s_lreturn, s_areturn, s_return_, s_ldc, s_getfield, s_putfield, s_iaload, s_iastore, s_laload, s_lastore, s_baload, s_bastore, s_aaload, s_aastore, s_arraylength, s_newarray, s_anewarray, s_new, s_invokestatic, s_invokespecial, s_invokevirtual, fvl_0, fvl_1, fvl_2, fvl_3, fp_0, fp_1, fp_2, fp_3, rf_s, rf_n, isRf_b, knw_b, isLg_b, popA_0, popA_s, st1_0, st1_s, st2_e, set_0, set_s, aftC_e, hxP_s, hxP_n, iteF, iteT, bft, im_t, im_f, nt_f, nt_t, Nat.reduceDiv, Nat.reduceMod, Nat.reduceLeDiff, Nat.reduceLT, Nat.reduceEqDiff, List.length_cons, List.length_nil, Nat.zero_add, Nat.reduceSub, List.cons_append, List.nil_append, ak_i, az_i, ar_i, al_i, ai_i, ak_l, az_l, ar_l, al_l, ai_l, ak_r, az_r, ar_r, al_r, ai_r, pk_m1, reduceCtorEq, msk_tb, mskL, Bool.and_eq_true, decide_eq_true_eq, lg_0, lg_t, lg_g, lg_e, lg_l, tb_z, Nat.mod_eq_of_lt, lN_1s, and_ze, brT, brF, brN, vpT, a4095, a63, nI_e, nI_l', nI_t', dif_z, and_z, and_zr, lN_e, nI_clamp, nx_shr, Nat.reducePow, bI_0, bI_1, bI_z, bI_o, bI_or, n01, nI_add, pk_mul, nx_and, nx_or, nx_dif, lx_and, lx_or, lx_dif, Bool.not_eq_true, Bool.not_eq_false, Bool.true_eq_false, Bool.false_eq_true, ss_46 hp']
    refine And.intro (fun e => ?_) fun e => ?_
    · rw [← hQ]
      refine ⟨rfl, fr, fun r hr => ?_, e1⟩
      rw [e2 r (by omega), z]
    · refine ih (by omega) _ (fr.l (Or.inr rfl)) (by rw [ai_l]; exact e1) fun r hr => ?_
      rw [al_l]
      by_cases q : r = k
      · simp [q]
      · simp [q, e2 r (by omega)]
  refine TC_e (ls := [.ref 46, unk]) (Nat.le_of_ble_eq_true rfl) rfl (wx_sound (S := [5]) 40 true _ _ _ _ ?_)
  simp +contextual (disch := omega) only [K178, wx_t, wx_g, wJ_t, wJ_f, wI_s, CI, CL, C01, aftC_v, aftC_n, true_or, or_true, true_and, and_true, inS_n, inS_c, pI_c, pL_c, pA_c, pV_c, pE_c, pQ_s, pQ_n, pQ_r, cm_eq', cm_ne', cm_lt', cm_ge', cm_gt', cm_le', List.getD_cons_zero, List.getD_cons_succ, Nat.reduceAdd, Nat.reduceBEq, Bool.false_or, Bool.or_false, Bool.true_or, Int.reduceToNat, s_iload, s_lload, s_aload, s_istore, s_astore, s_lstore, s_iconst, s_sipush, s_aconst_null, s_iadd, s_isub, s_imul, s_iand, s_ior, s_ixor, s_idiv, s_irem, s_ishl, s_ishr, s_iushr, s_ladd, s_lsub, s_land, s_lor, s_lxor, s_lneg, s_lshl, s_lshr, s_lushr, s_i2l, s_l2i, s_lcmp, s_dup, s_pop, s_dup2, s_i2c, s_i2s, s_monitorenter, s_ifCond, s_if_icmp, s_ifnull, s_goto, s_iinc, s_tableswitch, s_ireturn, s_freturn, s_lreturn, s_areturn, s_return_, s_ldc, s_getfield, s_putfield, s_iaload, s_iastore, s_laload, s_lastore, s_baload, s_bastore, s_aaload, s_aastore, s_arraylength, s_newarray, s_anewarray, s_new, s_invokestatic, s_invokespecial, s_invokevirtual, fvl_0, fvl_1, fvl_2, fvl_3, fp_0, fp_1, fp_2, fp_3, rf_s, rf_n, isRf_b, knw_b, isLg_b, popA_0, popA_s, st1_0, st1_s, st2_e, set_0, set_s, aftC_e, hxP_s, hxP_n, iteF, iteT, bft, im_t, im_f, nt_f, nt_t, Nat.reduceDiv, Nat.reduceMod, Nat.reduceLeDiff, Nat.reduceLT, Nat.reduceEqDiff, List.length_cons, List.length_nil, Nat.zero_add, Nat.reduceSub, List.cons_append, List.nil_append, ak_i, az_i, ar_i, al_i, ai_i, ak_l, az_l, ar_l, al_l, ai_l, ak_r, az_r, ar_r, al_r, ai_r, pk_m1, reduceCtorEq, msk_tb, mskL, Bool.and_eq_true, decide_eq_true_eq, lg_0, lg_t, lg_g, lg_e, lg_l, tb_z, Nat.mod_eq_of_lt, lN_1s, and_ze, brT, brF, brN, vpT, a4095, a63, nI_e, nI_l', nI_t', dif_z, and_z, and_zr, lN_e, nI_clamp, nx_shr, Nat.reducePow, bI_0, bI_1, bI_z, bI_o, bI_or, n01, nI_add, pk_mul, nx_and, nx_or, nx_dif, lx_and, lx_or, lx_dif, Bool.not_eq_true, Bool.not_eq_false, Bool.true_eq_false, Bool.false_eq_true, ss_46 hp]
  exact lp 0 (by omega) _ ((FR.refl h S46).i (Or.inl ⟨rfl, rfl⟩)) (by simp [ai_i]) fun r hr => absurd hr (by omega)
/-- the i-th of them -/
theorem d_181 (hp : SHP h) (fd : FD h 47 f) {s i : Nat} (hs : s < 4096) (hf : f s = true) (hi : cnt f s = i) : TC sc (d + 2) 181 [.ref 46, .int (nI i)] h Q ↔ Q (.inl (some (.int (nI s)))) h := TC_of (fun Q hq => by
  have il : i ≤ 4096 := by have := cnt_le f s; omega
  have lp : ∀ k, k ≤ s → cnt f k ≤ i → TT sc (d + 1) 181 Q 4 [.ref 46, .int (nI i), .int (nI (i - cnt f k)), .int (nI k)] [] h := by
    refine up_to fun k hk ih => ?_
    intro hc
    have mono := cnt_mono f (a := k + 1) (b := s)
    have k1 := cnt_s f k
    refine wx_sound (S := [4]) 40 true _ _ _ _ ?_
    simp +contextual (disch := omega) only [K181, wx_t, wx_g, wJ_t, wJ_f, wI_s, CI, CL, C01, aftC_v, aftC_n, true_or, or_true, true_and, and_true, inS_n, inS_c, pI_c, pL_c, pA_c, pV_c, pE_c, pQ_s, pQ_n, pQ_r, cm_eq', cm_ne', cm_lt', cm_ge', cm_gt', cm_le', List.getD_cons_zero, List.getD_cons_succ, Nat.reduceAdd, Nat.reduceBEq, Bool.false_or, Bool.or_false, Bool.true_or, Int.reduceToNat, s_iload, s_lload, s_aload, s_istore, s_astore, s_lstore, s_iconst, s_sipush, s_aconst_null, s_iadd, s_isub, s_imul, s_iand, s_ior, s_ixor, s_idiv, s_irem, s_ishl, s_ishr, s_iushr, s_ladd, s_lsub, s_land, s_lor, s_lxor, s_lneg, s_lshl, s_lshr, s_lushr, s_i2l, s_l2i, s_lcmp, s_dup, s_pop, s_dup2, s_i2c, s_i2s, s_monitorenter, s_ifCond, s_if_icmp, s_ifnull, s_goto, s_iinc, s_tableswitch, s_ireturn, s_freturn, s_lreturn, s_areturn, s_return_, s_ldc, s_getfield, s_putfield, s_iaload, s_iastore, s_laload, s_lastore, s_baload, s_bastore, s_aaload, s_aastore, s_arraylength, s_newarray, s_anewarray, s_new, s_invokestatic, s_invokespecial, s_invokevirtual, fvl_0, fvl_1, fvl_2, fvl_3, fp_0, fp_1, fp_2, fp_3, rf_s, rf_n, isRf_b, knw_b, isLg_b, popA_0, popA_s, st1_0, st1_s, st2_e, set_0, set_s, aftC_e, hxP_s, hxP_n, iteF, iteT, bft, im_t, im_f, nt_f, nt_t, Nat.reduceDiv, Nat.reduceMod, Nat.reduceLeDiff, Nat.reduceLT, Nat.reduceEqDiff, List.length_cons, List.length_nil, Nat.zero_add, Nat.reduceSub, List.cons_append, List.nil_append, ak_i, az_i, ar_i, al_i, ai_i, ak_l, az_l, ar_l, al_l, ai_l, ak_r, az_r, ar_r, al_r, ai_r, pk_m1, reduceCtorEq, msk_tb, mskL, Bool.and_eq_true, decide_eq_true_eq, lg_0, lg_t, lg_g, lg_e, lg_l, tb_z, Nat.mod_eq_of_lt, lN_1s, and_ze, brT, brF, brN, vpT, a4095, a63, nI_e, nI_l', nI_t', dif_z, and_z, and_zr, lN_e, nI_clamp, nx_shr, Nat.reducePow, bI_0, bI_1, bI_z, bI_o, bI_or, n01, nI_add, pk_mul, nx_and, nx_or, nx_dif, lx_and, lx_or, lx_dif, Bool.not_eq_true, Bool.not_eq_false, Bool.true_eq_false, Bool.false_eq_true, ss_46 hp, d_179 hp fd (s := k) (by omega)]
    refine And.intro (fun e => ?_) fun e => And.intro (fun e2 => ?_) fun e2 => ?_
    · have ks : k ≠ s := by rintro rfl; rw [hf] at e; cases e
      rw [e] at k1
      have k2 : cnt f (k + 1) = cnt f k := k1
      have := ih (by omega) (by omega)
      rw [k2] at this
      exact this
    · rw [e] at k1
      have k2 : cnt f (k + 1) = cnt f k + 1 := k1
      have : k = s := by
        apply Classical.byContradiction
        intro ne
        have := mono (by omega)
        omega
      subst this
      exact hq
    · rw [e] at k1
      have k2 : cnt f (k + 1) = cnt f k + 1 := k1
      have ks : k ≠ s := by rintro rfl; omega
      have := ih (by omega) (by omega)
      have e7 : i - cnt f k = (i - cnt f (k + 1)) + 1 := by omega
      rw [e7, pk_m1]
      exact this
  refine TC_e (ls := [.ref 46, .int (nI i), unk, unk]) (Nat.le_of_ble_eq_true rfl) rfl (wx_sound (S := [4]) 40 true _ _ _ _ ?_)
  simp +contextual (disch := omega) only [K181, wx_t, wx_g, wJ_t, wJ_f, wI_s, CI, CL, C01, aftC_v, aftC_n, true_or, or_true, true_and, and_true, inS_n, inS_c, pI_c, pL_c, pA_c, pV_c, pE_c, pQ_s, pQ_n, pQ_r, cm_eq', cm_ne', cm_lt', cm_ge', cm_gt', cm_le', List.getD_cons_zero, List.getD_cons_succ, Nat.reduceAdd, Nat.reduceBEq, Bool.false_or, Bool.or_false, Bool.true_or, Int.reduceToNat, s_iload, s_lload, s_aload, s_istore, s_astore, s_lstore, s_iconst, s_sipush, s_aconst_null, s_iadd, s_isub, s_imul, s_iand, s_ior, s_ixor, s_idiv, s_irem, s_ishl, s_ishr, s_iushr, s_ladd, s_lsub, s_land, s_lor, s_lxor, s_lneg, s_lshl, s_lshr, s_lushr, s_i2l, s_l2i, s_lcmp, s_dup, s_pop, s_dup2, s_i2c, s_i2s, s_monitorenter, s_ifCond, s_if_icmp, s_ifnull, s_goto, s_iinc, s_tableswitch, s_ireturn, s_freturn, s_lreturn, s_areturn, s_return_, s_ldc, s_getfield, s_putfield, s_iaload, s_iastore, s_laload, s_lastore, s_baload, s_bastore, s_aaload, s_aastore, s_arraylength, s_newarray, s_anewarray, s_new, s_invokestatic, s_invokespecial, s_invokevirtual, fvl_0, fvl_1, fvl_2, fvl_3, fp_0, fp_1, fp_2, fp_3, rf_s, rf_n, isRf_b, knw_b, isLg_b, popA_0, popA_s, st1_0, st1_s, st2_e, set_0, set_s, aftC_e, hxP_s, hxP_n, iteF, iteT, bft, im_t, im_f, nt_f, nt_t, Nat.reduceDiv, Nat.reduceMod, Nat.reduceLeDiff, Nat.reduceLT, Nat.reduceEqDiff, List.length_cons, List.length_nil, Nat.zero_add, Nat.reduceSub, List.cons_append, List.nil_append, ak_i, az_i, ar_i, al_i, ai_i, ak_l, az_l, ar_l, al_l, ai_l, ak_r, az_r, ar_r, al_r, ai_r, pk_m1, reduceCtorEq, msk_tb, mskL, Bool.and_eq_true, decide_eq_true_eq, lg_0, lg_t, lg_g, lg_e, lg_l, tb_z, Nat.mod_eq_of_lt, lN_1s, and_ze, brT, brF, brN, vpT, a4095, a63, nI_e, nI_l', nI_t', dif_z, and_z, and_zr, lN_e, nI_clamp, nx_shr, Nat.reducePow, bI_0, bI_1, bI_z, bI_o, bI_or, n01, nI_add, pk_mul, nx_and, nx_or, nx_dif, lx_and, lx_or, lx_dif, Bool.not_eq_true, Bool.not_eq_false, Bool.true_eq_false, Bool.false_eq_true, ss_46 hp]
  exact lp 0 (by omega) (by simp [cnt])) Q
/-- how many differ on the atoms of p -/
noncomputable def prj (f : Nat → Bool) (p k v : Nat) : Bool := bP (∃ s, s < k ∧ f s = true ∧ s &&& p = v)
theorem prj_z (f : Nat → Bool) (p : Nat) : prj f p 0 = fun _ => false := funext fun v => bP_no fun ⟨s, h, _⟩ => absurd h (by omega)
theorem prj_f {f : Nat → Bool} {p k : Nat} (h : f k = false) : prj f p (k + 1) = prj f p k := funext fun v => bP_c ⟨fun ⟨s, a, b, c⟩ => ⟨s, (by
    rcases Nat.lt_or_ge s k with q | q
    · exact q
    · have : s = k := by omega
      rw [this, h] at b
      cases b), b, c⟩, fun ⟨s, a, b, c⟩ => ⟨s, by omega, b, c⟩⟩
theorem prj_t {f : Nat → Bool} {p k : Nat} (h : f k = true) : prj f p (k + 1) = fun v => decide (v = k &&& p) || prj f p k v := funext fun v => by
  unfold prj
  rw [← bP_b (decide (v = k &&& p) || _)]
  refine bP_c ?_
  rw [Bool.or_eq_true, bP_t, decide_eq_true_eq]
  constructor
  · rintro ⟨s, a, b, c⟩
    by_cases e : s = k
    · exact Or.inl (e ▸ c.symm)
    · exact Or.inr ⟨s, by omega, b, c⟩
  · rintro (e | ⟨s, a, b, c⟩)
    · exact ⟨k, by omega, h, e.symm⟩
    · exact ⟨s, by omega, b, c⟩
theorem d_182 (hp : SHP h) (fd : FD h 47 f) {p : Nat} (hpp : p < 4096) : TC sc (d + 2) 182 [.ref 46, .int (nI p)] h fun q h' => q = .inl (some (.int (nI (cnt (prj f p 4096) 4096)))) ∧ FR h h' S48 := by
  generalize hQ : (fun (q : Rs) (h' : AH) => q = .inl (some (.int (nI (cnt (prj f p 4096) 4096)))) ∧ FR h h' S48) = Q
  have z : (msk 64 fun _ => false) = 0 := (msk_z _ _).mpr fun _ _ => rfl
  have fd' : ∀ h', FR h h' S48 → FD h' 47 f := fun h' fr r hr => by rw [fr.kl fun _ e => absurd (show 47 = 48 from e) (by decide)]; exact fd r hr
  have lp2 : ∀ k, k ≤ 4096 → ∀ h' x, FR h h' S48 → FD h' 48 (prj f p k) → TT sc (d + 1) 182 Q 16 [.ref 46, .int (nI p), .int (nI (cnt (prj f p k) 4096)), .int (nI k), x] [] h' := by
    refine up_to fun k hk ih => ?_
    intro h' x fr g
    have hp' := hp.fr fr
    have cl := cnt_le (prj f p k) 4096
    by_cases e : k < 4096
    · have vl : k &&& p < 4096 := and_lt (n := 12) e
      have e5 := g ((k &&& p) / 64) (by omega)
      have e2 : 64 * ((k &&& p) / 64) + (k &&& p) % 64 = k &&& p := by omega
      have e3 : (msk 64 fun b => prj f p k (64 * ((k &&& p) / 64) + b)).testBit ((k &&& p) % 64) = prj f p k (k &&& p) := by
        rw [msk_tb, e2]; simp; omega
      refine wx_sound (S := [16]) 60 true _ _ _ _ ?_
      simp +contextual (disch := omega) only [K182, wx_t, wx_g, wJ_t, wJ_f, wI_s, CI, CL, C01, aftC_v, aftC_n, true_or, or_true, true_and, and_true, inS_n, inS_c, pI_c, pL_c, pA_c, pV_c, pE_c, pQ_s, pQ_n, pQ_r, cm_eq', cm_ne', cm_lt', cm_ge', cm_gt', cm_le', List.getD_cons_zero, List.getD_cons_succ, Nat.reduceAdd, Nat.reduceBEq, Bool.false_or, Bool.or_false, Bool.true_or, Int.reduceToNat, s_iload, s_lload, s_aload, s_istore, s_astore, s_lstore, s_iconst, s_sipush, s_aconst_null, s_iadd, s_isub, s_imul, s_iand, s_ior, s_ixor, s_idiv, s_irem, s_ishl, s_ishr, s_iushr, s_ladd, s_lsub, s_land, s_lor, s_lxor, s_lneg, s_lshl, s_lshr, s_lushr, s_i2l, s_l2i, s_lcmp, s_dup, s_pop, s_dup2, s_i2c, s_i2s, s_monitorenter, s_ifCond, s_if_icmp, s_ifnull, s_goto, s_iinc, s_tableswitch, s_ireturn, s_freturn, s_lreturn, s_areturn, s_return_, s_ldc, s_getfield, s_putfield, s_iaload, s_iastore, s_laload, s_lastore, s_baload, s_bastore, s_aaload, s_aastore, s_arraylength, s_newarray, s_anewarray, s_new, s_invokestatic, s_invokespecial, s_invokevirtual, fvl_0, fvl_1, fvl_2, fvl_3, fp_0, fp_1, fp_2, fp_3, rf_s, rf_n, isRf_b, knw_b, isLg_b, popA_0, popA_s, st1_0, st1_s, st2_e, set_0, set_s, aftC_e, hxP_s, hxP_n, iteF, iteT, bft, im_t, im_f, nt_f, nt_t, Nat.reduceDiv, Nat.reduceMod, Nat.reduceLeDiff, Nat.reduceLT, Nat.reduceEqDiff, List.length_cons, List.length_nil, Nat.zero_add, Nat.reduceSub, List.cons_append, List.nil_append, ak_i, az_i, ar_i, al_i, ai_i, ak_l, az_l, ar_l, al_l, ai_l, ak_r, az_r, ar_r, al_r, ai_r, pk_m1, reduceCtorEq, msk_tb, mskL, Bool.and_eq_true, decide_eq_true_eq, lg_0, lg_t, lg_g, lg_e, lg_l, tb_z, Nat.mod_eq_of_lt, lN_1s, and_ze, brT, brF, brN, vpT, a4095, a63, nI_e, nI_l', nI_t', dif_z, and_z, and_zr, lN_e, nI_clamp, nx_shr, Nat.reducePow, bI_0, bI_1, bI_z, bI_o, bI_or, n01, nI_add, pk_mul, nx_and, nx_or, nx_dif, lx_and, lx_or, lx_dif, Bool.not_eq_true, Bool.not_eq_false, Bool.true_eq_false, Bool.false_eq_true, ss_46 hp', d_179 hp' (fd' _ fr) (s := k) e, e5, a63d vl, lx_tb, e3, lx_bit, lx_or]
      have nf : ∀ r, r < 64 → ah_l (ap_l h' 48 ((k &&& p) / 64) (lN ((msk 64 fun b => prj f p k (64 * ((k &&& p) / 64) + b)) ||| 2 ^ ((k &&& p) % 64)))) 48 r = lN (msk 64 fun b => (fun x => decide (x = k &&& p) || prj f p k x) (64 * r + b)) := fun r hr => by
        rw [al_l, ← fd_add vl hr]
        by_cases q : r = (k &&& p) / 64
        · subst q; simp
        · rw [if_neg q, if_neg fun z => q z.2]; exact g r hr
      have fr2 : FR h (ap_l h' 48 ((k &&& p) / 64) (lN ((msk 64 fun b => prj f p k (64 * ((k &&& p) / 64) + b)) ||| 2 ^ ((k &&& p) % 64)))) S48 := fr.l rfl
      refine And.intro (fun e6 => ?_) fun e6 => And.intro (fun e7 => ?_) fun e7 => ?_
      · have := ih e h' x fr (by rw [prj_f e6]; exact g)
        rw [prj_f e6] at this
        exact this
      · have := ih e _ (.int (nI (k &&& p))) fr2 (by rw [prj_t e6]; exact nf)
        rw [prj_t e6, cnt_add e7 vl] at this
        exact this
      · have e8 : prj f p (k + 1) = prj f p k := by
          rw [prj_t e6]
          funext v
          by_cases q : v = k &&& p
          · subst q; rw [e7, Bool.or_true]
          · simp [q]
        have := ih e _ (.int (nI (k &&& p))) fr2 (by rw [prj_t e6]; exact nf)
        rw [e8] at this
        rw [Nat.add_zero (cnt (prj f p k) 4096)]
        exact this
    · have : k = 4096 := by omega
      subst this
      refine wx_sound (S := [16]) 60 true _ _ _ _ ?_
      simp +contextual (disch := omega) only [K182, wx_t, wx_g, wJ_t, wJ_f, wI_s, CI, CL, C01, aftC_v, aftC_n, true_or, or_true, true_and, and_true, inS_n, inS_c, pI_c, pL_c, pA_c, pV_c, pE_c, pQ_s, pQ_n, pQ_r, cm_eq', cm_ne', cm_lt', cm_ge', cm_gt', cm_le', List.getD_cons_zero, List.getD_cons_succ, Nat.reduceAdd, Nat.reduceBEq, Bool.false_or, Bool.or_false, Bool.true_or, Int.reduceToNat, s_iload, s_lload, s_aload, s_istore, s_astore, s_lstore, s_iconst, s_sipush, s_aconst_null, s_iadd, s_isub, s_imul, s_iand, s_ior, s_ixor, s_idiv, s_irem, s_ishl, s_ishr, s_iushr, s_ladd, s_lsub, s_land, s_lor, s_lxor, s_lneg, s_lshl, s_lshr, s_lushr, s_i2l, s_l2i, s_lcmp, s_dup, s_pop, s_dup2, s_i2c, s_i2s, s_monitorenter, s_ifCond, s_if_icmp, s_ifnull, s_goto, s_iinc, s_tableswitch, s_ireturn, s_freturn, s_lreturn, s_areturn, s_return_, s_ldc, s_getfield, s_putfield, s_iaload, s_iastore, s_laload, s_lastore, s_baload, s_bastore, s_aaload, s_aastore, s_arraylength, s_newarray, s_anewarray, s_new, s_invokestatic, s_invokespecial, s_invokevirtual, fvl_0, fvl_1, fvl_2, fvl_3, fp_0, fp_1, fp_2, fp_3, rf_s, rf_n, isRf_b, knw_b, isLg_b, popA_0, popA_s, st1_0, st1_s, st2_e, set_0, set_s, aftC_e, hxP_s, hxP_n, iteF, iteT, bft, im_t, im_f, nt_f, nt_t, Nat.reduceDiv, Nat.reduceMod, Nat.reduceLeDiff, Nat.reduceLT, Nat.reduceEqDiff, List.length_cons, List.length_nil, Nat.zero_add, Nat.reduceSub, List.cons_append, List.nil_append, ak_i, az_i, ar_i, al_i, ai_i, ak_l, az_l, ar_l, al_l, ai_l, ak_r, az_r, ar_r, al_r, ai_r, pk_m1, reduceCtorEq, msk_tb, mskL, Bool.and_eq_true, decide_eq_true_eq, lg_0, lg_t, lg_g, lg_e, lg_l, tb_z, Nat.mod_eq_of_lt, lN_1s, and_ze, brT, brF, brN, vpT, a4095, a63, nI_e, nI_l', nI_t', dif_z, and_z, and_zr, lN_e, nI_clamp, nx_shr, Nat.reducePow, bI_0, bI_1, bI_z, bI_o, bI_or, n01, nI_add, pk_mul, nx_and, nx_or, nx_dif, lx_and, lx_or, lx_dif, Bool.not_eq_true, Bool.not_eq_false, Bool.true_eq_false, Bool.false_eq_true, ss_46 hp']
      rw [← hQ]
      exact ⟨rfl, fr⟩
  have lp : ∀ k, k ≤ 64 → ∀ h', FR h h' S48 → (∀ r, r < k → ah_l h' 48 r = lN 0) → TT sc (d + 1) 182 Q 2 [.ref 46, .int (nI p), .int (nI k), unk, unk] [] h' := by
    refine up_to fun k hk ih => ?_
    intro h' fr e2
    have hp' := hp.fr fr
    refine wx_sound (S := [2, 16]) 40 true _ _ _ _ ?_
    simp +contextual (disch := omega) only [K182, wx_t, wx_g, wJ_t, wJ_f, wI_s, CI, CL, C01, aftC_v, aftC_n, true_or, or_true, true_and, and_true, inS_n, inS_c, pI_c, pL_c, pA_c, pV_c, pE_c, pQ_s, pQ_n, pQ_r, cm_eq', cm_ne', cm_lt', cm_ge', cm_gt', cm_le', List.getD_cons_zero, List.getD_cons_succ, Nat.reduceAdd, Nat.reduceBEq, Bool.false_or, Bool.or_false, Bool.true_or, Int.reduceToNat, s_iload, s_lload, s_aload, s_istore, s_astore, s_lstore, s_iconst, s_sipush, s_aconst_null, s_iadd, s_isub, s_imul, s_iand, s_ior, s_ixor, s_idiv, s_irem, s_ishl, s_ishr, s_iushr, s_ladd, s_lsub, s_land, s_lor, s_lxor, s_lneg, s_lshl, s_lshr, s_lushr, s_i2l, s_l2i, s_lcmp, s_dup, s_pop, s_dup2, s_i2c, s_i2s, s_monitorenter, s_ifCond, s_if_icmp, s_ifnull, s_goto, s_iinc, s_tableswitch, s_ireturn, s_freturn, s_lreturn, s_areturn, s_return_, s_ldc, s_getfield, s_putfield, s_iaload, s_iastore, s_laload, s_lastore, s_baload, s_bastore, s_aaload, s_aastore, s_arraylength, s_newarray, s_anewarray, s_new, s_invokestatic, s_invokespecial, s_invokevirtual, fvl_0, fvl_1, fvl_2, fvl_3, fp_0, fp_1, fp_2, fp_3, rf_s, rf_n, isRf_b, knw_b, isLg_b, popA_0, popA_s, st1_0, st1_s, st2_e, set_0, set_s, aftC_e, hxP_s, hxP_n, iteF, iteT, bft, im_t, im_f, nt_f, nt_t, Nat.reduceDiv, Nat.reduceMod, Nat.reduceLeDiff, Nat.reduceLT, Nat.reduceEqDiff, List.length_cons, List.length_nil, Nat.zero_add, Nat.reduceSub, List.cons_append, List.nil_append, ak_i, az_i, ar_i, al_i, ai_i, ak_l, az_l, ar_l, al_l, ai_l, ak_r, az_r, ar_r, al_r, ai_r, pk_m1, reduceCtorEq, msk_tb, mskL, Bool.and_eq_true, decide_eq_true_eq, lg_0, lg_t, lg_g, lg_e, lg_l, tb_z, Nat.mod_eq_of_lt, lN_1s, and_ze, brT, brF, brN, vpT, a4095, a63, nI_e, nI_l', nI_t', dif_z, and_z, and_zr, lN_e, nI_clamp, nx_shr, Nat.reducePow, bI_0, bI_1, bI_z, bI_o, bI_or, n01, nI_add, pk_mul, nx_and, nx_or, nx_dif, lx_and, lx_or, lx_dif, Bool.not_eq_true, Bool.not_eq_false, Bool.true_eq_false, Bool.false_eq_true, ss_46 hp']
    refine And.intro (fun e => ?_) fun e => ?_
    · have g : FD h' 48 (prj f p 0) := by
        rw [prj_z]
        intro r hr
        rw [e2 r (by omega), z]
      have := lp2 0 (by omega) h' unk fr g
      rw [prj_z, cnt_z] at this
      exact this
    · refine ih (by omega) _ (fr.l rfl) fun r hr => ?_
      rw [al_l]
      by_cases q : r = k
      · simp [q]
      · simp [q, e2 r (by omega)]
  refine TC_e (ls := [.ref 46, .int (nI p), unk, unk, unk]) (Nat.le_of_ble_eq_true rfl) rfl (wx_sound (S := [2]) 40 true _ _ _ _ ?_)
  simp +contextual (disch := omega) only [K182, wx_t, wx_g, wJ_t, wJ_f, wI_s, CI, CL, C01, aftC_v, aftC_n, true_or, or_true, true_and, and_true, inS_n, inS_c, pI_c, pL_c, pA_c, pV_c, pE_c, pQ_s, pQ_n, pQ_r, cm_eq', cm_ne', cm_lt', cm_ge', cm_gt', cm_le', List.getD_cons_zero, List.getD_cons_succ, Nat.reduceAdd, Nat.reduceBEq, Bool.false_or, Bool.or_false, Bool.true_or, Int.reduceToNat, s_iload, s_lload, s_aload, s_istore, s_astore, s_lstore, s_iconst, s_sipush, s_aconst_null, s_iadd, s_isub, s_imul, s_iand, s_ior, s_ixor, s_idiv, s_irem, s_ishl, s_ishr, s_iushr, s_ladd, s_lsub, s_land, s_lor, s_lxor, s_lneg, s_lshl, s_lshr, s_lushr, s_i2l, s_l2i, s_lcmp, s_dup, s_pop, s_dup2, s_i2c, s_i2s, s_monitorenter, s_ifCond, s_if_icmp, s_ifnull, s_goto, s_iinc, s_tableswitch, s_ireturn, s_freturn, s_lreturn, s_areturn, s_return_, s_ldc, s_getfield, s_putfield, s_iaload, s_iastore, s_laload, s_lastore, s_baload, s_bastore, s_aaload, s_aastore, s_arraylength, s_newarray, s_anewarray, s_new, s_invokestatic, s_invokespecial, s_invokevirtual, fvl_0, fvl_1, fvl_2, fvl_3, fp_0, fp_1, fp_2, fp_3, rf_s, rf_n, isRf_b, knw_b, isLg_b, popA_0, popA_s, st1_0, st1_s, st2_e, set_0, set_s, aftC_e, hxP_s, hxP_n, iteF, iteT, bft, im_t, im_f, nt_f, nt_t, Nat.reduceDiv, Nat.reduceMod, Nat.reduceLeDiff, Nat.reduceLT, Nat.reduceEqDiff, List.length_cons, List.length_nil, Nat.zero_add, Nat.reduceSub, List.cons_append, List.nil_append, ak_i, az_i, ar_i, al_i, ai_i, ak_l, az_l, ar_l, al_l, ai_l, ak_r, az_r, ar_r, al_r, ai_r, pk_m1, reduceCtorEq, msk_tb, mskL, Bool.and_eq_true, decide_eq_true_eq, lg_0, lg_t, lg_g, lg_e, lg_l, tb_z, Nat.mod_eq_of_lt, lN_1s, and_ze, brT, brF, brN, vpT, a4095, a63, nI_e, nI_l', nI_t', dif_z, and_z, and_zr, lN_e, nI_clamp, nx_shr, Nat.reducePow, bI_0, bI_1, bI_z, bI_o, bI_or, n01, nI_add, pk_mul, nx_and, nx_or, nx_dif, lx_and, lx_or, lx_dif, Bool.not_eq_true, Bool.not_eq_false, Bool.true_eq_false, Bool.false_eq_true, ss_46 hp]
  exact lp 0 (by omega) _ (FR.refl h S48) fun r hr => absurd hr (by omega)
end CLS
