/-! THE CLASS LAYS ITS INSTANCES: MASKS -/
/-- what changes: numbers in S, references in V -/
def FV (h h' : AH) (S V : Nat → Nat → Prop) : Prop := ah_n h' = ah_n h ∧ ah_u h' = ah_u h ∧ (∀ a, ah_k h' a = ah_k h a) ∧ (∀ a, ah_z h' a = ah_z h a) ∧ (∀ a k, ¬ V a k → ah_r h' a k = ah_r h a k) ∧ ∀ a k, ¬ S a k → ah_i h' a k = ah_i h a k ∧ ah_l h' a k = ah_l h a k
theorem FV.refl (h : AH) (S V : Nat → Nat → Prop) : FV h h S V := ⟨rfl, rfl, fun _ => rfl, fun _ => rfl, fun _ _ _ => rfl, fun _ _ _ => ⟨rfl, rfl⟩⟩
theorem FR.v {h h' : AH} {S : Nat → Nat → Prop} (f : FR h h' S) (V : Nat → Nat → Prop) : FV h h' S V := ⟨f.1, f.2.1, f.2.2.1, f.2.2.2.1, fun a k _ => f.2.2.2.2.1 a k, f.2.2.2.2.2⟩
theorem FV.trans {h h' h'' : AH} {S V S' V' : Nat → Nat → Prop} (a : FV h h' S V) (b : FV h' h'' S' V') (m : ∀ x k, S' x k → S x k) (n : ∀ x k, V' x k → V x k) : FV h h'' S V :=
  ⟨b.1.trans a.1, b.2.1.trans a.2.1, fun x => (b.2.2.1 x).trans (a.2.2.1 x), fun x => (b.2.2.2.1 x).trans (a.2.2.2.1 x), fun x k hx => (b.2.2.2.2.1 x k (fun q => hx (n x k q))).trans (a.2.2.2.2.1 x k hx),
    fun x k hx => ⟨(b.2.2.2.2.2 x k (fun q => hx (m x k q))).1.trans (a.2.2.2.2.2 x k hx).1, (b.2.2.2.2.2 x k (fun q => hx (m x k q))).2.trans (a.2.2.2.2.2 x k hx).2⟩⟩
theorem FV.mono {h h' : AH} {S V S' V' : Nat → Nat → Prop} (a : FV h h' S V) (m : ∀ x k, S x k → S' x k) (n : ∀ x k, V x k → V' x k) : FV h h' S' V' := ⟨a.1, a.2.1, a.2.2.1, a.2.2.2.1, fun x k hx => a.2.2.2.2.1 x k fun q => hx (n x k q), fun x k hx => a.2.2.2.2.2 x k fun q => hx (m x k q)⟩
theorem FV.i {h h' : AH} {S V : Nat → Nat → Prop} (a : FV h h' S V) {b k : Nat} {v : Int32} (hb : S b k) : FV h (ap_i h' b k v) S V := a.trans ((FR.refl h' S).i hb |>.v V) (fun _ _ q => q) fun _ _ q => q
theorem FV.l {h h' : AH} {S V : Nat → Nat → Prop} (a : FV h h' S V) {b k : Nat} {v : Int64} (hb : S b k) : FV h (ap_l h' b k v) S V := a.trans ((FR.refl h' S).l hb |>.v V) (fun _ _ q => q) fun _ _ q => q
theorem FV.r {h h' : AH} {S V : Nat → Nat → Prop} (a : FV h h' S V) {b k : Nat} {v : Option Nat} (hb : V b k) : FV h (ap_r h' b k v) S V := ⟨a.1, a.2.1, a.2.2.1, a.2.2.2.1, fun x j hx => by
  have : ¬ (x = b ∧ j = k) := fun q => hx (q.1 ▸ q.2 ▸ hb)
  rw [ar_r, if_neg this]
  exact a.2.2.2.2.1 x j hx, a.2.2.2.2.2⟩
theorem FV.ci {h h' : AH} {S V : Nat → Nat → Prop} (f : FV h h' S V) {a k : Nat} (ha : ¬ S a k) : ah_i h' a k = ah_i h a k := (f.2.2.2.2.2 a k ha).1
theorem FV.cl {h h' : AH} {S V : Nat → Nat → Prop} (f : FV h h' S V) {a k : Nat} (ha : ¬ S a k) : ah_l h' a k = ah_l h a k := (f.2.2.2.2.2 a k ha).2
theorem FV.cr {h h' : AH} {S V : Nat → Nat → Prop} (f : FV h h' S V) {a k : Nat} (ha : ¬ V a k) : ah_r h' a k = ah_r h a k := f.2.2.2.2.1 a k ha
/-- references that no shape reads -/
def V0 : Nat → Nat → Prop := fun a k => a = 32 ∨ a = 2 ∨ a = 0 ∧ k = 4
theorem SHP.fv {h h' : AH} {S V : Nat → Nat → Prop} (s : SHP h) (f : FV h h' S V) (n : ∀ a k, V a k → V0 a k) : SHP h' := by
  have r : ∀ a k, a ≠ 32 → a ≠ 2 → ¬ (a = 0 ∧ k = 4) → ah_r h' a k = ah_r h a k := fun a k h1 h2 h3 => f.cr fun z => by have := n a k z; unfold V0 at this; omega
  unfold SHP SH0 SH19 SH23 SH27 SH28 SH31 SH43 SH45 SH46 SH49 at *
  simp (disch := omega) only [f.2.2.1, f.2.2.2.1, r]
  exact s
theorem RSh.fv {h h' : AH} {r : Nat} {S V : Nat → Nat → Prop} (s : RSh h r) (f : FV h h' S V) (n : ∀ a k, V a k → V0 a k) (p : rpl r) : RSh h' r := by
  have e : ∀ j k, j < 16 → ah_r h' (r + j) k = ah_r h (r + j) k := fun j k hj => by
    refine f.cr fun z => ?_
    have := n _ _ z
    unfold V0 at this
    unfold rpl at p
    omega
  have e0 := e 0
  simp only [Nat.add_zero] at e0
  unfold RSh at *
  obtain ⟨s1, s2, s3, s4, s5, s6, s7, s8, s9, s10, s11, s12, s13, s14, s15, s16, s17, s18, s19, s20⟩ := s
  simp (disch := omega) only [f.2.2.1, f.2.2.2.1, e, e0]
  refine ⟨s1, s2, s3, s4, s5, s6, s7, s8, s9, s10, s11, s12, s13, s14, s15, s16, s17, s18, s19, fun l hl => ?_⟩
  have el : eO l < 16 := by
    have : l = 0 ∨ l = 1 ∨ l = 2 ∨ l = 3 ∨ l = 4 := by omega
    rcases this with rfl | rfl | rfl | rfl | rfl <;> decide
  have := s20 l hl
  unfold ESh at *
  rw [f.2.2.1, f.2.2.1, f.2.2.2.1, e _ _ el]
  exact this
theorem RCo.fv {h h' : AH} {r : Nat} {R : RW} {S V : Nat → Nat → Prop} (c : RCo h r R) (f : FV h h' S V) (w : ∀ j k, j < 16 → ¬ S (r + j) k) : RCo h' r R := by
  have e : ∀ j k, j < 16 → ah_i h' (r + j) k = ah_i h (r + j) k := fun j k hj => f.ci (w j k hj)
  have e0 := e 0
  simp only [Nat.add_zero] at e0
  unfold RCo at *
  obtain ⟨c1, c2, c3, c4, c5, c6, c7, c8, c9, c10⟩ := c
  refine ⟨by rw [e 1 _ (by omega)]; exact c1, ?_, ?_, ?_, ?_, by rw [e 10 _ (by omega)]; exact c6, ?_, ?_, by rw [e0 _ (by omega)]; exact c9, ?_⟩
  · rw [e 1 _ (by omega), e 1 _ (by omega)]; exact c2
  · rw [e 1 _ (by omega), e 1 _ (by omega)]; exact c3
  · rw [e 1 _ (by omega), e 1 _ (by omega), e 1 _ (by omega)]; exact c4
  · intro l hl
    have el : eO l + 1 < 16 := by
      have : l = 0 ∨ l = 1 ∨ l = 2 ∨ l = 3 ∨ l = 4 := by omega
      rcases this with rfl | rfl | rfl | rfl | rfl <;> decide
    rw [e (eO l) _ (by omega), e (eO l) _ (by omega)]
    refine ⟨(c5 l hl).1, (c5 l hl).2.1, fun k hk => ?_⟩
    rw [Nat.add_assoc, e (eO l + 1) _ el]
    exact (c5 l hl).2.2 k hk
  · rw [e 10 _ (by omega), e 10 _ (by omega)]; exact c7
  · intro k hk
    rw [e 13 _ (by omega)]; exact c8 k hk
  · intro v hv q
    rw [e 14 _ (by omega), e 15 _ (by omega)]; exact c10 v hv q
theorem RU.fv {h h' : AH} {r : Nat} {R : RW} {S V : Nat → Nat → Prop} (c : RU h r R) (f : FV h h' S V) (n : ∀ a k, V a k → V0 a k) (w : ∀ j k, j < 16 → ¬ S (r + j) k) (p : rpl r) : RU h' r R := by
  refine ⟨c.1.fv f n p, c.2.1.fv f w, ?_, c.2.2.2⟩
  have := c.2.2.1
  unfold LKD at *
  rw [f.ci (show ¬ S r 8 from w 0 8 (by omega)), f.ci (show ¬ S r 9 from w 0 9 (by omega))]
  exact this
theorem CA.fv {h h' : AH} {a : Nat} {c : Nat → Nat} {S V : Nat → Nat → Prop} (m : CA h a c) (f : FV h h' S V) (w : ∀ k, ¬ S a k) : CA h' a c := by
  have e : ∀ k, ah_i h' a k = ah_i h a k := fun k => f.ci (w k)
  unfold CA at *
  simp only [e, f.2.2.1, f.2.2.2.1]
  exact m
theorem GC.fv {h h' : AH} {g : Nat} {T : gS} {S V : Nat → Nat → Prop} (c : GC h g T) (f : FV h h' S V) (w : ∀ a k, SG g a k → ¬ S a k) : GC h' g T := by
  obtain ⟨⟨a1, a2, a3⟩, ⟨i1, i2, i3⟩, o⟩ := c
  refine ⟨⟨?_, a2, fun a ha => ?_⟩, ⟨?_, i2, fun i hi => ?_⟩, ?_⟩
  · rw [f.ci (w _ _ ⟨by omega, by omega⟩)]; exact a1
  · rw [f.ci (w _ _ ⟨by omega, by omega⟩)]; exact a3 a ha
  · rw [f.ci (w _ _ ⟨by omega, by omega⟩)]; exact i1
  · rw [f.ci (w _ _ ⟨by omega, by omega⟩)]; exact i3 i hi
  · rw [f.ci (w _ _ ⟨by omega, by omega⟩)]; exact o
section CLS
variable {sc : (Nat → Int32) × Nat} {d i q : Nat} {h : AH} {Q : Rs → AH → Prop} {R : RW} {c : Nat → Nat} {A I : List Nat} {bo : Bool} {r : Nat}
theorem c_212 (hp : SHP h) {i a : Nat} (hi : i < 60) (ha : a < 12) : TC sc (d + 1) 212 [.ref 31, .int (nI i), .int (nI a)] h Q ↔ Q (.inl (some (.long (ah_l h 36 (i * 12 + a))))) h := TC_of (fun Q hq => by
  refine TC_e (ls := [.ref 31, .int (nI i), .int (nI a), unk]) (Nat.le_of_ble_eq_true rfl) rfl (wx_sound (S := []) 30 true _ _ _ _ ?_)
  simp +contextual (disch := omega) only [K212, wx_t, wx_g, wJ_t, wJ_f, wI_s, CI, CL, C01, aftC_v, aftC_n, true_or, or_true, true_and, and_true, inS_n, inS_c, pI_c, pL_c, pA_c, pV_c, pE_c, pQ_s, pQ_n, pQ_r, cm_eq', cm_ne', cm_lt', cm_ge', cm_gt', cm_le', List.getD_cons_zero, List.getD_cons_succ, Nat.reduceAdd, Nat.reduceBEq, Bool.false_or, Bool.or_false, Bool.true_or, Int.reduceToNat, s_iload, s_lload, s_aload, s_istore, s_astore, s_lstore, s_iconst, s_sipush, s_aconst_null, s_iadd, s_isub, s_imul, s_iand, s_ior, s_ixor, s_idiv, s_irem, s_ishl, s_ishr, s_iushr, s_ladd, s_lsub, s_land, s_lor, s_lxor, s_lneg, s_lshl, s_lshr, s_lushr, s_i2l, s_l2i, s_lcmp, s_dup, s_pop, s_dup2, s_i2c, s_i2s, s_monitorenter, s_ifCond, s_if_icmp, s_ifnull, s_goto, s_iinc, s_tableswitch, s_ireturn, s_freturn, s_lreturn, s_areturn, s_return_, s_ldc, s_getfield, s_putfield, s_iaload, s_iastore, s_laload, s_lastore, s_baload, s_bastore, s_aaload, s_aastore, s_arraylength, s_newarray, s_anewarray, s_new, s_invokestatic, s_invokespecial, s_invokevirtual, fvl_0, fvl_1, fvl_2, fvl_3, fp_0, fp_1, fp_2, fp_3, rf_s, rf_n, isRf_b, knw_b, isLg_b, popA_0, popA_s, st1_0, st1_s, st2_e, set_0, set_s, aftC_e, hxP_s, hxP_n, iteF, iteT, bft, im_t, im_f, nt_f, nt_t, Nat.reduceDiv, Nat.reduceMod, Nat.reduceLeDiff, Nat.reduceLT, Nat.reduceEqDiff, List.length_cons, List.length_nil, Nat.zero_add, Nat.reduceSub, List.cons_append, List.nil_append, ak_i, az_i, ar_i, al_i, ai_i, ak_l, az_l, ar_l, al_l, ai_l, ak_r, az_r, ar_r, al_r, ai_r, pk_m1, reduceCtorEq, msk_tb, mskL, Bool.and_eq_true, decide_eq_true_eq, lg_0, lg_t, lg_g, lg_e, lg_l, tb_z, Nat.mod_eq_of_lt, lN_1s, and_ze, brT, brF, brN, vpT, a4095, a63, nI_e, nI_l', nI_t', dif_z, and_z, and_zr, lN_e, nI_clamp, nx_shr, Nat.reducePow, bI_0, bI_1, bI_z, bI_o, bI_or, n01, nI_add, pk_mul, nx_and, nx_or, nx_dif, lx_and, lx_or, lx_dif, Bool.not_eq_true, Bool.not_eq_false, Bool.true_eq_false, Bool.false_eq_true, ss_31 hp, ofN]
  exact hq) Q
theorem c_211n (hp : SHP h) (w : Int64) : TC sc (d + 1) 211 [.ref 31, .int (-1), .long w] h Q ↔ Q (.inl none) h := TC_of (fun Q hq => by
  refine TC_e (ls := [.ref 31, .int (-1), .long w, unk, unk]) (Nat.le_of_ble_eq_true rfl) rfl (wx_sound (S := []) 30 true _ _ _ _ ?_)
  simp +contextual (disch := omega) only [K211, wx_t, wx_g, wJ_t, wJ_f, wI_s, CI, CL, C01, aftC_v, aftC_n, true_or, or_true, true_and, and_true, inS_n, inS_c, pI_c, pL_c, pA_c, pV_c, pE_c, pQ_s, pQ_n, pQ_r, cm_eq', cm_ne', cm_lt', cm_ge', cm_gt', cm_le', List.getD_cons_zero, List.getD_cons_succ, Nat.reduceAdd, Nat.reduceBEq, Bool.false_or, Bool.or_false, Bool.true_or, Int.reduceToNat, s_iload, s_lload, s_aload, s_istore, s_astore, s_lstore, s_iconst, s_sipush, s_aconst_null, s_iadd, s_isub, s_imul, s_iand, s_ior, s_ixor, s_idiv, s_irem, s_ishl, s_ishr, s_iushr, s_ladd, s_lsub, s_land, s_lor, s_lxor, s_lneg, s_lshl, s_lshr, s_lushr, s_i2l, s_l2i, s_lcmp, s_dup, s_pop, s_dup2, s_i2c, s_i2s, s_monitorenter, s_ifCond, s_if_icmp, s_ifnull, s_goto, s_iinc, s_tableswitch, s_ireturn, s_freturn, s_lreturn, s_areturn, s_return_, s_ldc, s_getfield, s_putfield, s_iaload, s_iastore, s_laload, s_lastore, s_baload, s_bastore, s_aaload, s_aastore, s_arraylength, s_newarray, s_anewarray, s_new, s_invokestatic, s_invokespecial, s_invokevirtual, fvl_0, fvl_1, fvl_2, fvl_3, fp_0, fp_1, fp_2, fp_3, rf_s, rf_n, isRf_b, knw_b, isLg_b, popA_0, popA_s, st1_0, st1_s, st2_e, set_0, set_s, aftC_e, hxP_s, hxP_n, iteF, iteT, bft, im_t, im_f, nt_f, nt_t, Nat.reduceDiv, Nat.reduceMod, Nat.reduceLeDiff, Nat.reduceLT, Nat.reduceEqDiff, List.length_cons, List.length_nil, Nat.zero_add, Nat.reduceSub, List.cons_append, List.nil_append, ak_i, az_i, ar_i, al_i, ai_i, ak_l, az_l, ar_l, al_l, ai_l, ak_r, az_r, ar_r, al_r, ai_r, pk_m1, reduceCtorEq, msk_tb, mskL, Bool.and_eq_true, decide_eq_true_eq, lg_0, lg_t, lg_g, lg_e, lg_l, tb_z, Nat.mod_eq_of_lt, lN_1s, and_ze, brT, brF, brN, vpT, a4095, a63, nI_e, nI_l', nI_t', dif_z, and_z, and_zr, lN_e, nI_clamp, nx_shr, Nat.reducePow, bI_0, bI_1, bI_z, bI_o, bI_or, n01, nI_add, pk_mul, nx_and, nx_or, nx_dif, lx_and, lx_or, lx_dif, Bool.not_eq_true, Bool.not_eq_false, Bool.true_eq_false, Bool.false_eq_true, ss_31 hp, m5_c, ofN]
  exact hq) Q
theorem c_211 (hp : SHP h) (hq2 : ah_i h 31 12 = nI q) (hq60 : q < 60) {a : Nat} (ha : a < 12) (w : Int64) : TC sc (d + 1) 211 [.ref 31, .int (nI a), .long w] h Q ↔ Q (.inl none) (ap_l h 36 (q * 12 + a) (ah_l h 36 (q * 12 + a) + w)) := TC_of (fun Q hq => by
  refine TC_e (ls := [.ref 31, .int (nI a), .long w, unk, unk]) (Nat.le_of_ble_eq_true rfl) rfl (wx_sound (S := []) 40 true _ _ _ _ ?_)
  simp +contextual (disch := omega) only [K211, wx_t, wx_g, wJ_t, wJ_f, wI_s, CI, CL, C01, aftC_v, aftC_n, true_or, or_true, true_and, and_true, inS_n, inS_c, pI_c, pL_c, pA_c, pV_c, pE_c, pQ_s, pQ_n, pQ_r, cm_eq', cm_ne', cm_lt', cm_ge', cm_gt', cm_le', List.getD_cons_zero, List.getD_cons_succ, Nat.reduceAdd, Nat.reduceBEq, Bool.false_or, Bool.or_false, Bool.true_or, Int.reduceToNat, s_iload, s_lload, s_aload, s_istore, s_astore, s_lstore, s_iconst, s_sipush, s_aconst_null, s_iadd, s_isub, s_imul, s_iand, s_ior, s_ixor, s_idiv, s_irem, s_ishl, s_ishr, s_iushr, s_ladd, s_lsub, s_land, s_lor, s_lxor, s_lneg, s_lshl, s_lshr, s_lushr, s_i2l, s_l2i, s_lcmp, s_dup, s_pop, s_dup2, s_i2c, s_i2s, s_monitorenter, s_ifCond, s_if_icmp, s_ifnull, s_goto, s_iinc, s_tableswitch, s_ireturn, s_freturn, s_lreturn, s_areturn, s_return_, s_ldc, s_getfield, s_putfield, s_iaload, s_iastore, s_laload, s_lastore, s_baload, s_bastore, s_aaload, s_aastore, s_arraylength, s_newarray, s_anewarray, s_new, s_invokestatic, s_invokespecial, s_invokevirtual, fvl_0, fvl_1, fvl_2, fvl_3, fp_0, fp_1, fp_2, fp_3, rf_s, rf_n, isRf_b, knw_b, isLg_b, popA_0, popA_s, st1_0, st1_s, st2_e, set_0, set_s, aftC_e, hxP_s, hxP_n, iteF, iteT, bft, im_t, im_f, nt_f, nt_t, Nat.reduceDiv, Nat.reduceMod, Nat.reduceLeDiff, Nat.reduceLT, Nat.reduceEqDiff, List.length_cons, List.length_nil, Nat.zero_add, Nat.reduceSub, List.cons_append, List.nil_append, ak_i, az_i, ar_i, al_i, ai_i, ak_l, az_l, ar_l, al_l, ai_l, ak_r, az_r, ar_r, al_r, ai_r, pk_m1, reduceCtorEq, msk_tb, mskL, Bool.and_eq_true, decide_eq_true_eq, lg_0, lg_t, lg_g, lg_e, lg_l, tb_z, Nat.mod_eq_of_lt, lN_1s, and_ze, brT, brF, brN, vpT, a4095, a63, nI_e, nI_l', nI_t', dif_z, and_z, and_zr, lN_e, nI_clamp, nx_shr, Nat.reducePow, bI_0, bI_1, bI_z, bI_o, bI_or, n01, nI_add, pk_mul, nx_and, nx_or, nx_dif, lx_and, lx_or, lx_dif, Bool.not_eq_true, Bool.not_eq_false, Bool.true_eq_false, Bool.false_eq_true, ss_31 hp, hq2, ofN]
  exact hq) Q
theorem c_164 {p a b : Nat} (hp : p < 100) (ha : VZ a) (hb : VZ b) : TC sc (d + 2) 164 [.int (nI (cd3 p a b))] h Q ↔ Q (.inl (some (.int (bI (decide (a = 0) || decide (b = 0)))))) h := TC_of (fun Q hq => by
  have ta := tm_m5 ha
  have tb := tm_m5 hb
  by_cases qa : a = 0
  · have ta := ta.trans (eq_true qa)
    rw [decide_eq_true qa, Bool.true_or] at hq
    refine TC_e (ls := [.int (nI (cd3 p a b))]) (Nat.le_of_ble_eq_true rfl) rfl (wx_sound (S := []) 30 true _ _ _ _ ?_)
    simp +contextual (disch := omega) only [K164, wx_t, wx_g, wJ_t, wJ_f, wI_s, CI, CL, C01, aftC_v, aftC_n, true_or, or_true, true_and, and_true, inS_n, inS_c, pI_c, pL_c, pA_c, pV_c, pE_c, pQ_s, pQ_n, pQ_r, cm_eq', cm_ne', cm_lt', cm_ge', cm_gt', cm_le', List.getD_cons_zero, List.getD_cons_succ, Nat.reduceAdd, Nat.reduceBEq, Bool.false_or, Bool.or_false, Bool.true_or, Int.reduceToNat, s_iload, s_lload, s_aload, s_istore, s_astore, s_lstore, s_iconst, s_sipush, s_aconst_null, s_iadd, s_isub, s_imul, s_iand, s_ior, s_ixor, s_idiv, s_irem, s_ishl, s_ishr, s_iushr, s_ladd, s_lsub, s_land, s_lor, s_lxor, s_lneg, s_lshl, s_lshr, s_lushr, s_i2l, s_l2i, s_lcmp, s_dup, s_pop, s_dup2, s_i2c, s_i2s, s_monitorenter, s_ifCond, s_if_icmp, s_ifnull, s_goto, s_iinc, s_tableswitch, s_ireturn, s_freturn, s_lreturn, s_areturn, s_return_, s_ldc, s_getfield, s_putfield, s_iaload, s_iastore, s_laload, s_lastore, s_baload, s_bastore, s_aaload, s_aastore, s_arraylength, s_newarray, s_anewarray, s_new, s_invokestatic, s_invokespecial, s_invokevirtual, fvl_0, fvl_1, fvl_2, fvl_3, fp_0, fp_1, fp_2, fp_3, rf_s, rf_n, isRf_b, knw_b, isLg_b, popA_0, popA_s, st1_0, st1_s, st2_e, set_0, set_s, aftC_e, hxP_s, hxP_n, iteF, iteT, bft, im_t, im_f, nt_f, nt_t, Nat.reduceDiv, Nat.reduceMod, Nat.reduceLeDiff, Nat.reduceLT, Nat.reduceEqDiff, List.length_cons, List.length_nil, Nat.zero_add, Nat.reduceSub, List.cons_append, List.nil_append, ak_i, az_i, ar_i, al_i, ai_i, ak_l, az_l, ar_l, al_l, ai_l, ak_r, az_r, ar_r, al_r, ai_r, pk_m1, reduceCtorEq, msk_tb, mskL, Bool.and_eq_true, decide_eq_true_eq, lg_0, lg_t, lg_g, lg_e, lg_l, tb_z, Nat.mod_eq_of_lt, lN_1s, and_ze, brT, brF, brN, vpT, a4095, a63, nI_e, nI_l', nI_t', dif_z, and_z, and_zr, lN_e, nI_clamp, nx_shr, Nat.reducePow, bI_0, bI_1, bI_z, bI_o, bI_or, n01, nI_add, pk_mul, nx_and, nx_or, nx_dif, lx_and, lx_or, lx_dif, Bool.not_eq_true, Bool.not_eq_false, Bool.true_eq_false, Bool.false_eq_true, c_162 hp ha.lt hb.lt, c_163 hb.lt, ta]
    exact hq
  · have ta := ta.trans (eq_false qa)
    rw [decide_eq_false qa, Bool.false_or] at hq
    by_cases qb : b = 0
    · have tb := tb.trans (eq_true qb)
      rw [decide_eq_true qb] at hq
      refine TC_e (ls := [.int (nI (cd3 p a b))]) (Nat.le_of_ble_eq_true rfl) rfl (wx_sound (S := []) 30 true _ _ _ _ ?_)
      simp +contextual (disch := omega) only [K164, wx_t, wx_g, wJ_t, wJ_f, wI_s, CI, CL, C01, aftC_v, aftC_n, true_or, or_true, true_and, and_true, inS_n, inS_c, pI_c, pL_c, pA_c, pV_c, pE_c, pQ_s, pQ_n, pQ_r, cm_eq', cm_ne', cm_lt', cm_ge', cm_gt', cm_le', List.getD_cons_zero, List.getD_cons_succ, Nat.reduceAdd, Nat.reduceBEq, Bool.false_or, Bool.or_false, Bool.true_or, Int.reduceToNat, s_iload, s_lload, s_aload, s_istore, s_astore, s_lstore, s_iconst, s_sipush, s_aconst_null, s_iadd, s_isub, s_imul, s_iand, s_ior, s_ixor, s_idiv, s_irem, s_ishl, s_ishr, s_iushr, s_ladd, s_lsub, s_land, s_lor, s_lxor, s_lneg, s_lshl, s_lshr, s_lushr, s_i2l, s_l2i, s_lcmp, s_dup, s_pop, s_dup2, s_i2c, s_i2s, s_monitorenter, s_ifCond, s_if_icmp, s_ifnull, s_goto, s_iinc, s_tableswitch, s_ireturn, s_freturn, s_lreturn, s_areturn, s_return_, s_ldc, s_getfield, s_putfield, s_iaload, s_iastore, s_laload, s_lastore, s_baload, s_bastore, s_aaload, s_aastore, s_arraylength, s_newarray, s_anewarray, s_new, s_invokestatic, s_invokespecial, s_invokevirtual, fvl_0, fvl_1, fvl_2, fvl_3, fp_0, fp_1, fp_2, fp_3, rf_s, rf_n, isRf_b, knw_b, isLg_b, popA_0, popA_s, st1_0, st1_s, st2_e, set_0, set_s, aftC_e, hxP_s, hxP_n, iteF, iteT, bft, im_t, im_f, nt_f, nt_t, Nat.reduceDiv, Nat.reduceMod, Nat.reduceLeDiff, Nat.reduceLT, Nat.reduceEqDiff, List.length_cons, List.length_nil, Nat.zero_add, Nat.reduceSub, List.cons_append, List.nil_append, ak_i, az_i, ar_i, al_i, ai_i, ak_l, az_l, ar_l, al_l, ai_l, ak_r, az_r, ar_r, al_r, ai_r, pk_m1, reduceCtorEq, msk_tb, mskL, Bool.and_eq_true, decide_eq_true_eq, lg_0, lg_t, lg_g, lg_e, lg_l, tb_z, Nat.mod_eq_of_lt, lN_1s, and_ze, brT, brF, brN, vpT, a4095, a63, nI_e, nI_l', nI_t', dif_z, and_z, and_zr, lN_e, nI_clamp, nx_shr, Nat.reducePow, bI_0, bI_1, bI_z, bI_o, bI_or, n01, nI_add, pk_mul, nx_and, nx_or, nx_dif, lx_and, lx_or, lx_dif, Bool.not_eq_true, Bool.not_eq_false, Bool.true_eq_false, Bool.false_eq_true, c_162 hp ha.lt hb.lt, c_163 hb.lt, ta, tb]
      exact hq
    · have tb := tb.trans (eq_false qb)
      rw [decide_eq_false qb] at hq
      refine TC_e (ls := [.int (nI (cd3 p a b))]) (Nat.le_of_ble_eq_true rfl) rfl (wx_sound (S := []) 30 true _ _ _ _ ?_)
      simp +contextual (disch := omega) only [K164, wx_t, wx_g, wJ_t, wJ_f, wI_s, CI, CL, C01, aftC_v, aftC_n, true_or, or_true, true_and, and_true, inS_n, inS_c, pI_c, pL_c, pA_c, pV_c, pE_c, pQ_s, pQ_n, pQ_r, cm_eq', cm_ne', cm_lt', cm_ge', cm_gt', cm_le', List.getD_cons_zero, List.getD_cons_succ, Nat.reduceAdd, Nat.reduceBEq, Bool.false_or, Bool.or_false, Bool.true_or, Int.reduceToNat, s_iload, s_lload, s_aload, s_istore, s_astore, s_lstore, s_iconst, s_sipush, s_aconst_null, s_iadd, s_isub, s_imul, s_iand, s_ior, s_ixor, s_idiv, s_irem, s_ishl, s_ishr, s_iushr, s_ladd, s_lsub, s_land, s_lor, s_lxor, s_lneg, s_lshl, s_lshr, s_lushr, s_i2l, s_l2i, s_lcmp, s_dup, s_pop, s_dup2, s_i2c, s_i2s, s_monitorenter, s_ifCond, s_if_icmp, s_ifnull, s_goto, s_iinc, s_tableswitch, s_ireturn, s_freturn, s_lreturn, s_areturn, s_return_, s_ldc, s_getfield, s_putfield, s_iaload, s_iastore, s_laload, s_lastore, s_baload, s_bastore, s_aaload, s_aastore, s_arraylength, s_newarray, s_anewarray, s_new, s_invokestatic, s_invokespecial, s_invokevirtual, fvl_0, fvl_1, fvl_2, fvl_3, fp_0, fp_1, fp_2, fp_3, rf_s, rf_n, isRf_b, knw_b, isLg_b, popA_0, popA_s, st1_0, st1_s, st2_e, set_0, set_s, aftC_e, hxP_s, hxP_n, iteF, iteT, bft, im_t, im_f, nt_f, nt_t, Nat.reduceDiv, Nat.reduceMod, Nat.reduceLeDiff, Nat.reduceLT, Nat.reduceEqDiff, List.length_cons, List.length_nil, Nat.zero_add, Nat.reduceSub, List.cons_append, List.nil_append, ak_i, az_i, ar_i, al_i, ai_i, ak_l, az_l, ar_l, al_l, ai_l, ak_r, az_r, ar_r, al_r, ai_r, pk_m1, reduceCtorEq, msk_tb, mskL, Bool.and_eq_true, decide_eq_true_eq, lg_0, lg_t, lg_g, lg_e, lg_l, tb_z, Nat.mod_eq_of_lt, lN_1s, and_ze, brT, brF, brN, vpT, a4095, a63, nI_e, nI_l', nI_t', dif_z, and_z, and_zr, lN_e, nI_clamp, nx_shr, Nat.reducePow, bI_0, bI_1, bI_z, bI_o, bI_or, n01, nI_add, pk_mul, nx_and, nx_or, nx_dif, lx_and, lx_or, lx_dif, Bool.not_eq_true, Bool.not_eq_false, Bool.true_eq_false, Bool.false_eq_true, c_162 hp ha.lt hb.lt, c_163 hb.lt, ta, tb]
      exact hq) Q
theorem c_249 {s k : Nat} {w : Int32} (k1 : ah_k h s = 10) (k2 : ah_r h s 4 = some (s + 3)) (k3 : ah_k h (s + 3) = 20) (k4 : ah_z h (s + 3) = 4) (hk : k < 4) (hw : ah_i h (s + 3) k = w) : TC sc (d + 1) 249 [.ref s, .int (nI k)] h Q ↔ Q (.inl (some (.int w))) h := TC_of (fun Q hq => by
  refine TC_e (ls := [.ref s, .int (nI k)]) (Nat.le_of_ble_eq_true rfl) rfl (wx_sound (S := []) 30 true _ _ _ _ ?_)
  simp +contextual (disch := omega) only [K249, wx_t, wx_g, wJ_t, wJ_f, wI_s, CI, CL, C01, aftC_v, aftC_n, true_or, or_true, true_and, and_true, inS_n, inS_c, pI_c, pL_c, pA_c, pV_c, pE_c, pQ_s, pQ_n, pQ_r, cm_eq', cm_ne', cm_lt', cm_ge', cm_gt', cm_le', List.getD_cons_zero, List.getD_cons_succ, Nat.reduceAdd, Nat.reduceBEq, Bool.false_or, Bool.or_false, Bool.true_or, Int.reduceToNat, s_iload, s_lload, s_aload, s_istore, s_astore, s_lstore, s_iconst, s_sipush, s_aconst_null, s_iadd, s_isub, s_imul, s_iand, s_ior, s_ixor, s_idiv, s_irem, s_ishl, s_ishr, s_iushr, s_ladd, s_lsub, s_land, s_lor, s_lxor, s_lneg, s_lshl, s_lshr, s_lushr, s_i2l, s_l2i, s_lcmp, s_dup, s_pop, s_dup2, s_i2c, s_i2s, s_monitorenter, s_ifCond, s_if_icmp, s_ifnull, s_goto, s_iinc, s_tableswitch, s_ireturn, s_freturn, s_lreturn, s_areturn, s_return_, s_ldc, s_getfield, s_putfield, s_iaload, s_iastore, s_laload, s_lastore, s_baload, s_bastore, s_aaload, s_aastore, s_arraylength, s_newarray, s_anewarray, s_new, s_invokestatic, s_invokespecial, s_invokevirtual, fvl_0, fvl_1, fvl_2, fvl_3, fp_0, fp_1, fp_2, fp_3, rf_s, rf_n, isRf_b, knw_b, isLg_b, popA_0, popA_s, st1_0, st1_s, st2_e, set_0, set_s, aftC_e, hxP_s, hxP_n, iteF, iteT, bft, im_t, im_f, nt_f, nt_t, Nat.reduceDiv, Nat.reduceMod, Nat.reduceLeDiff, Nat.reduceLT, Nat.reduceEqDiff, List.length_cons, List.length_nil, Nat.zero_add, Nat.reduceSub, List.cons_append, List.nil_append, ak_i, az_i, ar_i, al_i, ai_i, ak_l, az_l, ar_l, al_l, ai_l, ak_r, az_r, ar_r, al_r, ai_r, pk_m1, reduceCtorEq, msk_tb, mskL, Bool.and_eq_true, decide_eq_true_eq, lg_0, lg_t, lg_g, lg_e, lg_l, tb_z, Nat.mod_eq_of_lt, lN_1s, and_ze, brT, brF, brN, vpT, a4095, a63, nI_e, nI_l', nI_t', dif_z, and_z, and_zr, lN_e, nI_clamp, nx_shr, Nat.reducePow, bI_0, bI_1, bI_z, bI_o, bI_or, n01, nI_add, pk_mul, nx_and, nx_or, nx_dif, lx_and, lx_or, lx_dif, Bool.not_eq_true, Bool.not_eq_false, Bool.true_eq_false, Bool.false_eq_true, k1, k2, k3, k4, hw, ofN]
  exact hq) Q
/-- the mask of a list's atoms -/
theorem c_209 (hp : SHP h) (ru : RU h r R) (gc : GC h 19 (A, I, bo)) (ca : CA h 42 c) {l : Nat} (hl : l < 3) : TC sc (d + 4) 209 [.ref 31, .ref (r + eO l), .ref 19] h Q ↔ Q (.inl (some (.int (nI (lmk R l c A (R_n R l)))))) h := TC_of (fun Q hq => by
  obtain ⟨rs, rc, rl, ro⟩ := ru
  have es := rs.2.2.2.2.2.2.2.2.2.2.2.2.2.2.2.2.2.2.2 l (by omega)
  obtain ⟨e1, e2, e3⟩ := rc.2.2.2.2.1 l (by omega)
  have hn := ro.2.1 l (by omega)
  have a12 : A.length ≤ 12 := gc.1.2.1
  have lp : ∀ k, k ≤ R_n R l → ∀ x, TT sc (d + 3) 209 Q 4 [.ref 31, .ref (r + eO l), .ref 19, .int (nI (lmk R l c A k)), .int (nI k), x] [] h := by
    refine up_to fun k hk ih => ?_
    intro x
    by_cases e : k < R_n R l
    · obtain ⟨va, vb, vp⟩ := (ro.lok (by omega) l (by omega)).2 k e
      have cc := e3 k e
      rw [show ecd R l k = cd3 (R_p R l k) (R_a R l k) (R_b R l k) from rfl] at cc
      have p6 := ro.p (l := l) (by omega) (by omega) e
      have t1 := tv_le (z := 0) va (fun v hv => (ca.2.2 v hv).2) (show 0 ≤ 9 by omega)
      have t2 := tv_le (z := 0) vb (fun v hv => (ca.2.2 v hv).2) (show 0 ≤ 9 by omega)
      have gl : R_p R l k * 100 + tv (R_a R l k) 0 c * 10 + tv (R_b R l k) 0 c < 2000 := by omega
      have k158 := fun Q => c_158 (sc := sc) (d := d + 2) (Q := Q) es e2 (Nat.le_trans hn (by omega)) e cc
      have k160 := fun Q => c_160 (sc := sc) (d := d) (Q := Q) (z := 0) ca vp va vb
      have k188 := fun Q => c_188 (sc := sc) (d := d + 1) (Q := Q) (gs_19 hp) gc.1 gl
      have ih := ih e
      rw [lmk_s] at ih
      have il := idx_le A (lcd R l k 0 c)
      by_cases q : idx A (lcd R l k 0 c) = 0
      · rw [if_pos q] at ih
        have q : nof (lat A) (R_p R l k * 100 + tv (R_a R l k) 0 c * 10 + tv (R_b R l k) 0 c) 0 A.length = 0 := q
        simp only [q, if_true] at k188
        refine wx_sound (S := [4]) 30 true _ _ _ _ ?_
        simp +contextual (disch := omega) only [K209, wx_t, wx_g, wJ_t, wJ_f, wI_s, CI, CL, C01, aftC_v, aftC_n, true_or, or_true, true_and, and_true, inS_n, inS_c, pI_c, pL_c, pA_c, pV_c, pE_c, pQ_s, pQ_n, pQ_r, cm_eq', cm_ne', cm_lt', cm_ge', cm_gt', cm_le', List.getD_cons_zero, List.getD_cons_succ, Nat.reduceAdd, Nat.reduceBEq, Bool.false_or, Bool.or_false, Bool.true_or, Int.reduceToNat, s_iload, s_lload, s_aload, s_istore, s_astore, s_lstore, s_iconst, s_sipush, s_aconst_null, s_iadd, s_isub, s_imul, s_iand, s_ior, s_ixor, s_idiv, s_irem, s_ishl, s_ishr, s_iushr, s_ladd, s_lsub, s_land, s_lor, s_lxor, s_lneg, s_lshl, s_lshr, s_lushr, s_i2l, s_l2i, s_lcmp, s_dup, s_pop, s_dup2, s_i2c, s_i2s, s_monitorenter, s_ifCond, s_if_icmp, s_ifnull, s_goto, s_iinc, s_tableswitch, s_ireturn, s_freturn, s_lreturn, s_areturn, s_return_, s_ldc, s_getfield, s_putfield, s_iaload, s_iastore, s_laload, s_lastore, s_baload, s_bastore, s_aaload, s_aastore, s_arraylength, s_newarray, s_anewarray, s_new, s_invokestatic, s_invokespecial, s_invokevirtual, fvl_0, fvl_1, fvl_2, fvl_3, fp_0, fp_1, fp_2, fp_3, rf_s, rf_n, isRf_b, knw_b, isLg_b, popA_0, popA_s, st1_0, st1_s, st2_e, set_0, set_s, aftC_e, hxP_s, hxP_n, iteF, iteT, bft, im_t, im_f, nt_f, nt_t, Nat.reduceDiv, Nat.reduceMod, Nat.reduceLeDiff, Nat.reduceLT, Nat.reduceEqDiff, List.length_cons, List.length_nil, Nat.zero_add, Nat.reduceSub, List.cons_append, List.nil_append, ak_i, az_i, ar_i, al_i, ai_i, ak_l, az_l, ar_l, al_l, ai_l, ak_r, az_r, ar_r, al_r, ai_r, pk_m1, reduceCtorEq, msk_tb, mskL, Bool.and_eq_true, decide_eq_true_eq, lg_0, lg_t, lg_g, lg_e, lg_l, tb_z, Nat.mod_eq_of_lt, lN_1s, and_ze, brT, brF, brN, vpT, a4095, a63, nI_e, nI_l', nI_t', dif_z, and_z, and_zr, lN_e, nI_clamp, nx_shr, Nat.reducePow, bI_0, bI_1, bI_z, bI_o, bI_or, n01, nI_add, pk_mul, nx_and, nx_or, nx_dif, lx_and, lx_or, lx_dif, Bool.not_eq_true, Bool.not_eq_false, Bool.true_eq_false, Bool.false_eq_true, ss_31 hp, ss_19 hp, es.1, e2, k158, k160, k188, m5_c]
        exact ih _
      · rw [if_neg q] at ih
        have nm := n_m1e (x := idx A (lcd R l k 0 c) - 1) (by omega)
        have k188 : ∀ Q, TC sc (d + 3) 188 [.ref 19, .int (nI (R_p R l k * 100 + tv (R_a R l k) 0 c * 10 + tv (R_b R l k) 0 c))] h Q ↔ Q (.inl (some (.int (nI (idx A (lcd R l k 0 c) - 1))))) h := fun Q => by
          have q2 : ¬ nof (lat A) (R_p R l k * 100 + tv (R_a R l k) 0 c * 10 + tv (R_b R l k) 0 c) 0 A.length = 0 := q
          rw [k188, if_neg q2]; exact Iff.rfl
        refine wx_sound (S := [4]) 30 true _ _ _ _ ?_
        simp +contextual (disch := omega) only [K209, wx_t, wx_g, wJ_t, wJ_f, wI_s, CI, CL, C01, aftC_v, aftC_n, true_or, or_true, true_and, and_true, inS_n, inS_c, pI_c, pL_c, pA_c, pV_c, pE_c, pQ_s, pQ_n, pQ_r, cm_eq', cm_ne', cm_lt', cm_ge', cm_gt', cm_le', List.getD_cons_zero, List.getD_cons_succ, Nat.reduceAdd, Nat.reduceBEq, Bool.false_or, Bool.or_false, Bool.true_or, Int.reduceToNat, s_iload, s_lload, s_aload, s_istore, s_astore, s_lstore, s_iconst, s_sipush, s_aconst_null, s_iadd, s_isub, s_imul, s_iand, s_ior, s_ixor, s_idiv, s_irem, s_ishl, s_ishr, s_iushr, s_ladd, s_lsub, s_land, s_lor, s_lxor, s_lneg, s_lshl, s_lshr, s_lushr, s_i2l, s_l2i, s_lcmp, s_dup, s_pop, s_dup2, s_i2c, s_i2s, s_monitorenter, s_ifCond, s_if_icmp, s_ifnull, s_goto, s_iinc, s_tableswitch, s_ireturn, s_freturn, s_lreturn, s_areturn, s_return_, s_ldc, s_getfield, s_putfield, s_iaload, s_iastore, s_laload, s_lastore, s_baload, s_bastore, s_aaload, s_aastore, s_arraylength, s_newarray, s_anewarray, s_new, s_invokestatic, s_invokespecial, s_invokevirtual, fvl_0, fvl_1, fvl_2, fvl_3, fp_0, fp_1, fp_2, fp_3, rf_s, rf_n, isRf_b, knw_b, isLg_b, popA_0, popA_s, st1_0, st1_s, st2_e, set_0, set_s, aftC_e, hxP_s, hxP_n, iteF, iteT, bft, im_t, im_f, nt_f, nt_t, Nat.reduceDiv, Nat.reduceMod, Nat.reduceLeDiff, Nat.reduceLT, Nat.reduceEqDiff, List.length_cons, List.length_nil, Nat.zero_add, Nat.reduceSub, List.cons_append, List.nil_append, ak_i, az_i, ar_i, al_i, ai_i, ak_l, az_l, ar_l, al_l, ai_l, ak_r, az_r, ar_r, al_r, ai_r, pk_m1, reduceCtorEq, msk_tb, mskL, Bool.and_eq_true, decide_eq_true_eq, lg_0, lg_t, lg_g, lg_e, lg_l, tb_z, Nat.mod_eq_of_lt, lN_1s, and_ze, brT, brF, brN, vpT, a4095, a63, nI_e, nI_l', nI_t', dif_z, and_z, and_zr, lN_e, nI_clamp, nx_shr, Nat.reducePow, bI_0, bI_1, bI_z, bI_o, bI_or, n01, nI_add, pk_mul, nx_and, nx_or, nx_dif, lx_and, lx_or, lx_dif, Bool.not_eq_true, Bool.not_eq_false, Bool.true_eq_false, Bool.false_eq_true, ss_31 hp, ss_19 hp, es.1, e2, k158, k160, k188, nm, nx_bit, nx_or]
        exact ih _
    · have : k = R_n R l := by omega
      subst this
      refine wx_sound (S := [4]) 20 true _ _ _ _ ?_
      simp +contextual (disch := omega) only [K209, wx_t, wx_g, wJ_t, wJ_f, wI_s, CI, CL, C01, aftC_v, aftC_n, true_or, or_true, true_and, and_true, inS_n, inS_c, pI_c, pL_c, pA_c, pV_c, pE_c, pQ_s, pQ_n, pQ_r, cm_eq', cm_ne', cm_lt', cm_ge', cm_gt', cm_le', List.getD_cons_zero, List.getD_cons_succ, Nat.reduceAdd, Nat.reduceBEq, Bool.false_or, Bool.or_false, Bool.true_or, Int.reduceToNat, s_iload, s_lload, s_aload, s_istore, s_astore, s_lstore, s_iconst, s_sipush, s_aconst_null, s_iadd, s_isub, s_imul, s_iand, s_ior, s_ixor, s_idiv, s_irem, s_ishl, s_ishr, s_iushr, s_ladd, s_lsub, s_land, s_lor, s_lxor, s_lneg, s_lshl, s_lshr, s_lushr, s_i2l, s_l2i, s_lcmp, s_dup, s_pop, s_dup2, s_i2c, s_i2s, s_monitorenter, s_ifCond, s_if_icmp, s_ifnull, s_goto, s_iinc, s_tableswitch, s_ireturn, s_freturn, s_lreturn, s_areturn, s_return_, s_ldc, s_getfield, s_putfield, s_iaload, s_iastore, s_laload, s_lastore, s_baload, s_bastore, s_aaload, s_aastore, s_arraylength, s_newarray, s_anewarray, s_new, s_invokestatic, s_invokespecial, s_invokevirtual, fvl_0, fvl_1, fvl_2, fvl_3, fp_0, fp_1, fp_2, fp_3, rf_s, rf_n, isRf_b, knw_b, isLg_b, popA_0, popA_s, st1_0, st1_s, st2_e, set_0, set_s, aftC_e, hxP_s, hxP_n, iteF, iteT, bft, im_t, im_f, nt_f, nt_t, Nat.reduceDiv, Nat.reduceMod, Nat.reduceLeDiff, Nat.reduceLT, Nat.reduceEqDiff, List.length_cons, List.length_nil, Nat.zero_add, Nat.reduceSub, List.cons_append, List.nil_append, ak_i, az_i, ar_i, al_i, ai_i, ak_l, az_l, ar_l, al_l, ai_l, ak_r, az_r, ar_r, al_r, ai_r, pk_m1, reduceCtorEq, msk_tb, mskL, Bool.and_eq_true, decide_eq_true_eq, lg_0, lg_t, lg_g, lg_e, lg_l, tb_z, Nat.mod_eq_of_lt, lN_1s, and_ze, brT, brF, brN, vpT, a4095, a63, nI_e, nI_l', nI_t', dif_z, and_z, and_zr, lN_e, nI_clamp, nx_shr, Nat.reducePow, bI_0, bI_1, bI_z, bI_o, bI_or, n01, nI_add, pk_mul, nx_and, nx_or, nx_dif, lx_and, lx_or, lx_dif, Bool.not_eq_true, Bool.not_eq_false, Bool.true_eq_false, Bool.false_eq_true, es.1, e2]
      exact hq
  refine TC_e (ls := [.ref 31, .ref (r + eO l), .ref 19, unk, unk, unk]) (Nat.le_of_ble_eq_true rfl) rfl (wx_sound (S := [4]) 20 true _ _ _ _ ?_)
  simp +contextual (disch := omega) only [K209, wx_t, wx_g, wJ_t, wJ_f, wI_s, CI, CL, C01, aftC_v, aftC_n, true_or, or_true, true_and, and_true, inS_n, inS_c, pI_c, pL_c, pA_c, pV_c, pE_c, pQ_s, pQ_n, pQ_r, cm_eq', cm_ne', cm_lt', cm_ge', cm_gt', cm_le', List.getD_cons_zero, List.getD_cons_succ, Nat.reduceAdd, Nat.reduceBEq, Bool.false_or, Bool.or_false, Bool.true_or, Int.reduceToNat, s_iload, s_lload, s_aload, s_istore, s_astore, s_lstore, s_iconst, s_sipush, s_aconst_null, s_iadd, s_isub, s_imul, s_iand, s_ior, s_ixor, s_idiv, s_irem, s_ishl, s_ishr, s_iushr, s_ladd, s_lsub, s_land, s_lor, s_lxor, s_lneg, s_lshl, s_lshr, s_lushr, s_i2l, s_l2i, s_lcmp, s_dup, s_pop, s_dup2, s_i2c, s_i2s, s_monitorenter, s_ifCond, s_if_icmp, s_ifnull, s_goto, s_iinc, s_tableswitch, s_ireturn, s_freturn, s_lreturn, s_areturn, s_return_, s_ldc, s_getfield, s_putfield, s_iaload, s_iastore, s_laload, s_lastore, s_baload, s_bastore, s_aaload, s_aastore, s_arraylength, s_newarray, s_anewarray, s_new, s_invokestatic, s_invokespecial, s_invokevirtual, fvl_0, fvl_1, fvl_2, fvl_3, fp_0, fp_1, fp_2, fp_3, rf_s, rf_n, isRf_b, knw_b, isLg_b, popA_0, popA_s, st1_0, st1_s, st2_e, set_0, set_s, aftC_e, hxP_s, hxP_n, iteF, iteT, bft, im_t, im_f, nt_f, nt_t, Nat.reduceDiv, Nat.reduceMod, Nat.reduceLeDiff, Nat.reduceLT, Nat.reduceEqDiff, List.length_cons, List.length_nil, Nat.zero_add, Nat.reduceSub, List.cons_append, List.nil_append, ak_i, az_i, ar_i, al_i, ai_i, ak_l, az_l, ar_l, al_l, ai_l, ak_r, az_r, ar_r, al_r, ai_r, pk_m1, reduceCtorEq, msk_tb, mskL, Bool.and_eq_true, decide_eq_true_eq, lg_0, lg_t, lg_g, lg_e, lg_l, tb_z, Nat.mod_eq_of_lt, lN_1s, and_ze, brT, brF, brN, vpT, a4095, a63, nI_e, nI_l', nI_t', dif_z, and_z, and_zr, lN_e, nI_clamp, nx_shr, Nat.reducePow, bI_0, bI_1, bI_z, bI_o, bI_or, n01, nI_add, pk_mul, nx_and, nx_or, nx_dif, lx_and, lx_or, lx_dif, Bool.not_eq_true, Bool.not_eq_false, Bool.true_eq_false, Bool.false_eq_true]
  exact lp 0 (Nat.zero_le _) _) Q
end CLS
