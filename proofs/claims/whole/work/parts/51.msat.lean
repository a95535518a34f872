/-! THE REFERENCE: SATISFIED, STABLE -/
def SM : Nat → Nat → Prop := fun a k => a = 49 ∧ (k = 0 ∨ k = 26 ∨ k = 27 ∨ k = 28 ∨ k = 31) ∨ a = 65 ∨ a = 66 ∨ a = 67
def S67 : Nat → Nat → Prop := fun a k => a = 49 ∧ k = 31 ∨ a = 67
theorem sm_67 : ∀ a k, S67 a k → SM a k := fun a k e => by
  rcases e with e | e
  · exact Or.inl ⟨e.1, by simp [e.2]⟩
  · exact Or.inr (Or.inr (Or.inr e))
theorem sm_no {a : Nat} (h1 : a ≠ 49) (h2 : a ≠ 65) (h3 : a ≠ 66) (h4 : a ≠ 67) : ∀ k, ¬ SM a k := fun k e => by
  rcases e with e | e | e | e
  · exact h1 e.1
  · exact h2 e
  · exact h3 e
  · exact h4 e
theorem sm_49 {k : Nat} (h1 : k ≠ 0) (h2 : k ≠ 26) (h3 : k ≠ 27) (h4 : k ≠ 28) (h5 : k ≠ 31) : ¬ SM 49 k := fun e => by
  rcases e with e | e | e | e
  · omega
  · cases e
  · cases e
  · cases e
def wW (w : Int32) (i : Nat) : Bool := decide (nI i = w)
def lfg (P : PG) (w : Int32) (s : Nat) : Nat → Bool := fun i => !wW w i && (holds P i s && decide (P_kd P i ≤ 1))
def satW (P : PG) (T : Nat) (w : Int32) (s : Nat) : Prop := dif T s = 0 ∧ ∀ i, i < P_m P → wW w i = false → usat P s i = false
def lstW (P : PG) (T F : Nat) (w : Int32) (s : Nat) : Prop := ∀ t, t &&& s = t → t ≠ s → dif (T ||| F &&& s) t = 0 → ∃ i, i < P_m P ∧ wW w i = false ∧ usa2 P t s i = true
def LFT (h : AH) (g : Nat → Bool) (m : Nat) : Prop := ah_i h 49 31 = nI (cnt g m) ∧ ∀ i, i < m → g i = true → ah_i h 67 (cnt g i) = nI i
theorem and_dif {s T : Nat} : s &&& T = T ↔ dif T s = 0 := by
  constructor
  · intro h
    unfold dif
    rw [Nat.and_comm, h, Nat.xor_self]
  · intro h
    refine Nat.eq_of_testBit_eq fun i => ?_
    have := congrArg (fun z => z.testBit i) h
    simp only [dif_tb, Nat.zero_testBit] at this
    rw [Nat.testBit_and]
    cases h1 : T.testBit i <;> cases h2 : s.testBit i <;> simp_all
theorem pop_0 {x : Nat} : ∀ {n : Nat}, pop x n = 0 ↔ ∀ i, i < n → x.testBit i = false
  | 0 => ⟨fun _ i h => absurd h (by omega), fun _ => rfl⟩
  | n + 1 => by
    rw [pop_s]
    have ih := pop_0 (x := x) (n := n)
    constructor
    · intro h i hi
      cases e : x.testBit n
      · rw [e] at h
        by_cases q : i = n
        · rw [q]; exact e
        · exact ih.mp h i (by omega)
      · rw [e] at h; simp at h
    · intro h
      rw [h n (by omega), ih.mpr fun i hi => h i (by omega)]; rfl
theorem pop_z0 {x : Nat} (hx : x < 4096) : pop x 12 = 0 ↔ x = 0 := pop_0.trans (z_tb (n := 12) hx).symm
section MDL
variable {sc : (Nat → Int32) × Nat} {d : Nat} {h : AH} {Q : Rs → AH → Prop} {P : PG} {A T F : Nat}
theorem MP.fr {h' : AH} (c : MP h P) (f : FR h h' SM) : MP h' P := by
  refine ⟨c.1.fr f, ⟨?_, ?_, ?_⟩, c.2.2⟩
  · rw [f.ci (sm_49 (by decide) (by decide) (by decide) (by decide) (by decide))]; exact c.2.1.1
  · rw [f.ci (sm_49 (by decide) (by decide) (by decide) (by decide) (by decide))]; exact c.2.1.2.1
  · have := c.2.1.2.2
    unfold RMI at *
    simp only [f.ki (sm_no (a := 52) (by decide) (by decide) (by decide) (by decide)), f.ki (sm_no (a := 57) (by decide) (by decide) (by decide) (by decide)), f.ki (sm_no (a := 59) (by decide) (by decide) (by decide) (by decide)), f.ki (sm_no (a := 60) (by decide) (by decide) (by decide) (by decide)), f.ki (sm_no (a := 61) (by decide) (by decide) (by decide) (by decide)), f.ki (sm_no (a := 62) (by decide) (by decide) (by decide) (by decide)), f.kl (sm_no (a := 63) (by decide) (by decide) (by decide) (by decide))]
    exact this
theorem RMX.fr {h' : AH} {n : Nat} (c : RMX h n A T F) (f : FR h h' SM) : RMX h' n A T F := by
  unfold RMX at *
  simp only [f.ki (sm_no (a := 55) (by decide) (by decide) (by decide) (by decide)), f.ci (sm_49 (k := 9) (by decide) (by decide) (by decide) (by decide) (by decide))]
  exact c
theorem m_118 (c : MP h P) (x : RMX h (P_n P) A T F) (hT : T < 2 ^ P_n P) : TC sc (d + 1) 118 [.ref 49] h Q ↔ Q (.inl (some (.int (nI T)))) h := TC_of (fun Q hq => by
  have n12 := c.n
  have pn := c.pn
  obtain ⟨x1, x2, x3⟩ := x
  have eT : T = msk (P_n P) fun a => A.testBit a && decide (ah_i h 55 a = nI 1) := eq_msk hT fun i hi => (x3 i hi).1
  have lp : ∀ k, k ≤ P_n P → ∀ y, y = msk (P_n P) (fun a => decide (a < k) && (A.testBit a && decide (ah_i h 55 a = nI 1))) → TT sc d 118 Q 4 [.ref 49, .int (nI y), .int (nI k)] [] h := by
    refine up_to fun k hk ih => ?_
    intro y hy
    by_cases e : k < P_n P
    · refine wx_sound (S := [4]) 60 true _ _ _ _ ?_
      simp +contextual (disch := omega) only [K118, wx_t, wx_g, wJ_t, wJ_f, wI_s, CI, CL, C01, aftC_v, aftC_n, true_or, or_true, true_and, and_true, inS_n, inS_c, pI_c, pL_c, pA_c, pV_c, pE_c, pQ_s, pQ_n, pQ_r, cm_eq', cm_ne', cm_lt', cm_ge', cm_gt', cm_le', List.getD_cons_zero, List.getD_cons_succ, Nat.reduceAdd, Nat.reduceBEq, Bool.false_or, Bool.or_false, Bool.true_or, Int.reduceToNat, s_iload, s_lload, s_aload, s_istore, s_astore, s_lstore, s_iconst, s_sipush, s_aconst_null, s_iadd, s_isub, s_imul, s_iand, s_ior, s_ixor, s_idiv, s_irem, s_ishl, s_ishr, s_iushr, s_ladd, s_lsub, s_land, s_lor, s_lxor, s_lneg, s_lshl, s_lshr, s_lushr, s_i2l, s_l2i, s_lcmp, s_dup, s_pop, s_dup2, s_i2c, s_i2s, s_monitorenter, s_ifCond, s_if_icmp, s_ifnull, s_goto, s_iinc, s_tableswitch, s_ireturn, s_freturn, s_lreturn, s_areturn, s_return_, s_ldc, s_getfield, s_putfield, s_iaload, s_iastore, s_laload, s_lastore, s_baload, s_bastore, s_aaload, s_aastore, s_arraylength, s_newarray, s_anewarray, s_new, s_invokestatic, s_invokespecial, s_invokevirtual, fvl_0, fvl_1, fvl_2, fvl_3, fp_0, fp_1, fp_2, fp_3, rf_s, rf_n, isRf_b, knw_b, isLg_b, popA_0, popA_s, st1_0, st1_s, st2_e, set_0, set_s, aftC_e, hxP_s, hxP_n, iteF, iteT, bft, im_t, im_f, nt_f, nt_t, Nat.reduceDiv, Nat.reduceMod, Nat.reduceLeDiff, Nat.reduceLT, Nat.reduceEqDiff, List.length_cons, List.length_nil, Nat.zero_add, Nat.reduceSub, List.cons_append, List.nil_append, ak_i, az_i, ar_i, al_i, ai_i, ak_l, az_l, ar_l, al_l, ai_l, ak_r, az_r, ar_r, al_r, ai_r, pk_m1, reduceCtorEq, msk_tb, mskL, Bool.and_eq_true, decide_eq_true_eq, lg_0, lg_t, lg_g, lg_e, lg_l, tb_z, Nat.mod_eq_of_lt, lN_1s, and_ze, brT, brF, brN, vpT, a4095, a63, nI_e, nI_l', nI_t', dif_z, and_z, and_zr, lN_e, nI_clamp, nx_shr, Nat.reducePow, bI_0, bI_1, bI_z, bI_o, bI_or, n01, nI_add, pk_mul, nx_and, nx_or, nx_dif, lx_and, lx_or, lx_dif, Bool.not_eq_true, Bool.not_eq_false, Bool.true_eq_false, Bool.false_eq_true, ss_49 c.1, c.f.1, x1, tb_mod, nx_or, nx_bit]
      refine And.intro (fun e1 => And.intro (fun e2 => ih e _ ?_) fun e2 => ?_) fun e1 => ?_
      · rw [hy]; exact msk_nt e (by rw [(bI_1 _).mp e1, e2]; rfl)
      · rw [Nat.or_zero]; refine ih e _ ?_
        rw [hy]; exact msk_nf (by rw [decide_eq_false e2, Bool.and_false])
      · rw [Nat.or_zero]; refine ih e _ ?_
        have : A.testBit k = false := by
          cases q : A.testBit k
          · rfl
          · exact absurd ((bI_1 _).mpr q) e1
        rw [hy]; exact msk_nf (by rw [this, Bool.false_and])
    · have : k = P_n P := by omega
      subst this
      refine wx_sound (S := [4]) 60 true _ _ _ _ ?_
      simp +contextual (disch := omega) only [K118, wx_t, wx_g, wJ_t, wJ_f, wI_s, CI, CL, C01, aftC_v, aftC_n, true_or, or_true, true_and, and_true, inS_n, inS_c, pI_c, pL_c, pA_c, pV_c, pE_c, pQ_s, pQ_n, pQ_r, cm_eq', cm_ne', cm_lt', cm_ge', cm_gt', cm_le', List.getD_cons_zero, List.getD_cons_succ, Nat.reduceAdd, Nat.reduceBEq, Bool.false_or, Bool.or_false, Bool.true_or, Int.reduceToNat, s_iload, s_lload, s_aload, s_istore, s_astore, s_lstore, s_iconst, s_sipush, s_aconst_null, s_iadd, s_isub, s_imul, s_iand, s_ior, s_ixor, s_idiv, s_irem, s_ishl, s_ishr, s_iushr, s_ladd, s_lsub, s_land, s_lor, s_lxor, s_lneg, s_lshl, s_lshr, s_lushr, s_i2l, s_l2i, s_lcmp, s_dup, s_pop, s_dup2, s_i2c, s_i2s, s_monitorenter, s_ifCond, s_if_icmp, s_ifnull, s_goto, s_iinc, s_tableswitch, s_ireturn, s_freturn, s_lreturn, s_areturn, s_return_, s_ldc, s_getfield, s_putfield, s_iaload, s_iastore, s_laload, s_lastore, s_baload, s_bastore, s_aaload, s_aastore, s_arraylength, s_newarray, s_anewarray, s_new, s_invokestatic, s_invokespecial, s_invokevirtual, fvl_0, fvl_1, fvl_2, fvl_3, fp_0, fp_1, fp_2, fp_3, rf_s, rf_n, isRf_b, knw_b, isLg_b, popA_0, popA_s, st1_0, st1_s, st2_e, set_0, set_s, aftC_e, hxP_s, hxP_n, iteF, iteT, bft, im_t, im_f, nt_f, nt_t, Nat.reduceDiv, Nat.reduceMod, Nat.reduceLeDiff, Nat.reduceLT, Nat.reduceEqDiff, List.length_cons, List.length_nil, Nat.zero_add, Nat.reduceSub, List.cons_append, List.nil_append, ak_i, az_i, ar_i, al_i, ai_i, ak_l, az_l, ar_l, al_l, ai_l, ak_r, az_r, ar_r, al_r, ai_r, pk_m1, reduceCtorEq, msk_tb, mskL, Bool.and_eq_true, decide_eq_true_eq, lg_0, lg_t, lg_g, lg_e, lg_l, tb_z, Nat.mod_eq_of_lt, lN_1s, and_ze, brT, brF, brN, vpT, a4095, a63, nI_e, nI_l', nI_t', dif_z, and_z, and_zr, lN_e, nI_clamp, nx_shr, Nat.reducePow, bI_0, bI_1, bI_z, bI_o, bI_or, n01, nI_add, pk_mul, nx_and, nx_or, nx_dif, lx_and, lx_or, lx_dif, Bool.not_eq_true, Bool.not_eq_false, Bool.true_eq_false, Bool.false_eq_true, ss_49 c.1, c.f.1]
      rw [msk_nd (Nat.le_refl _), ← eT] at hy
      rw [hy]
      exact hq
  refine TC_e (ls := [.ref 49, unk, unk]) (Nat.le_of_ble_eq_true rfl) rfl (wx_sound (S := [4]) 60 true _ _ _ _ ?_)
  simp +contextual (disch := omega) only [K118, wx_t, wx_g, wJ_t, wJ_f, wI_s, CI, CL, C01, aftC_v, aftC_n, true_or, or_true, true_and, and_true, inS_n, inS_c, pI_c, pL_c, pA_c, pV_c, pE_c, pQ_s, pQ_n, pQ_r, cm_eq', cm_ne', cm_lt', cm_ge', cm_gt', cm_le', List.getD_cons_zero, List.getD_cons_succ, Nat.reduceAdd, Nat.reduceBEq, Bool.false_or, Bool.or_false, Bool.true_or, Int.reduceToNat, s_iload, s_lload, s_aload, s_istore, s_astore, s_lstore, s_iconst, s_sipush, s_aconst_null, s_iadd, s_isub, s_imul, s_iand, s_ior, s_ixor, s_idiv, s_irem, s_ishl, s_ishr, s_iushr, s_ladd, s_lsub, s_land, s_lor, s_lxor, s_lneg, s_lshl, s_lshr, s_lushr, s_i2l, s_l2i, s_lcmp, s_dup, s_pop, s_dup2, s_i2c, s_i2s, s_monitorenter, s_ifCond, s_if_icmp, s_ifnull, s_goto, s_iinc, s_tableswitch, s_ireturn, s_freturn, s_lreturn, s_areturn, s_return_, s_ldc, s_getfield, s_putfield, s_iaload, s_iastore, s_laload, s_lastore, s_baload, s_bastore, s_aaload, s_aastore, s_arraylength, s_newarray, s_anewarray, s_new, s_invokestatic, s_invokespecial, s_invokevirtual, fvl_0, fvl_1, fvl_2, fvl_3, fp_0, fp_1, fp_2, fp_3, rf_s, rf_n, isRf_b, knw_b, isLg_b, popA_0, popA_s, st1_0, st1_s, st2_e, set_0, set_s, aftC_e, hxP_s, hxP_n, iteF, iteT, bft, im_t, im_f, nt_f, nt_t, Nat.reduceDiv, Nat.reduceMod, Nat.reduceLeDiff, Nat.reduceLT, Nat.reduceEqDiff, List.length_cons, List.length_nil, Nat.zero_add, Nat.reduceSub, List.cons_append, List.nil_append, ak_i, az_i, ar_i, al_i, ai_i, ak_l, az_l, ar_l, al_l, ai_l, ak_r, az_r, ar_r, al_r, ai_r, pk_m1, reduceCtorEq, msk_tb, mskL, Bool.and_eq_true, decide_eq_true_eq, lg_0, lg_t, lg_g, lg_e, lg_l, tb_z, Nat.mod_eq_of_lt, lN_1s, and_ze, brT, brF, brN, vpT, a4095, a63, nI_e, nI_l', nI_t', dif_z, and_z, and_zr, lN_e, nI_clamp, nx_shr, Nat.reducePow, bI_0, bI_1, bI_z, bI_o, bI_or, n01, nI_add, pk_mul, nx_and, nx_or, nx_dif, lx_and, lx_or, lx_dif, Bool.not_eq_true, Bool.not_eq_false, Bool.true_eq_false, Bool.false_eq_true]
  exact lp 0 (Nat.zero_le _) _ msk_n0) Q
theorem m_120 (c : MP h P) (x : RMX h (P_n P) A T F) (hT : T < 2 ^ P_n P) {s : Nat} (hs : s < 2 ^ P_n P) : TC sc (d + 2) 120 [.ref 49, .int (nI s)] h fun q h' => q = .inl (some (.int (bI (bP (satW P T (ah_i h 49 28) s))))) ∧ FR h h' S67 ∧ (satW P T (ah_i h 49 28) s → LFT h' (lfg P (ah_i h 49 28) s) (P_m P)) := by
  have n12 := c.n
  have m60 := c.m
  have pn := c.pn
  generalize hw : ah_i h 49 28 = w
  generalize hQ : (fun (q : Rs) (h' : AH) => q = .inl (some (.int (bI (bP (satW P T w s))))) ∧ FR h h' S67 ∧ (satW P T w s → LFT h' (lfg P w s) (P_m P))) = Q
  have en : (nI (s &&& T) = nI T) = (s &&& T = T) := nI_e (Nat.lt_of_le_of_lt Nat.and_le_left (by omega)) (by omega)
  have no : ∀ h', FR h h' S67 → ¬ satW P T w s → Q (.inl (some (.int (nI 0)))) h' := fun h' f n => by
    rw [← hQ]
    exact ⟨by rw [bP_no n]; rfl, f, fun z => absurd z n⟩
  have lp : dif T s = 0 → ∀ k, k ≤ P_m P → (∀ i, i < k → wW w i = false → usat P s i = false) → ∀ h' u v, FR h h' S67 → ah_i h' 49 31 = nI (cnt (lfg P w s) k) → (∀ i, i < k → lfg P w s i = true → ah_i h' 67 (cnt (lfg P w s) i) = nI i) → TT sc (d + 1) 120 Q 15 [.ref 49, .int (nI s), .int (nI T), .int (nI k), u, v] [] h' := by
    intro e0
    refine up_to fun k hk ih => ?_
    intro H h' u v f g1 g2
    have c' := c.fr (f.mono sm_67)
    have w' : ah_i h' 49 28 = w := by rw [f.ci (fun z => by rcases z with z | z <;> simp at z)]; exact hw
    have cl := cnt_le (lfg P w s) k
    by_cases e : k < P_m P
    · have hd := c.hd e
      have hx : P_hd P k &&& s < 4096 := Nat.lt_of_le_of_lt Nat.and_le_left hd
      have pl := pop_le (P_hd P k &&& s) 12
      have pz := pop_z0 hx
      have H' : (wW w k = false → usat P s k = false) → ∀ i, i < k + 1 → wW w i = false → usat P s i = false := fun n i hi hw => by
        rcases Nat.lt_or_ge i k with z | z
        · exact H i z hw
        · have : i = k := by omega
          rw [this] at hw ⊢; exact n hw
      have skip : lfg P w s k = false → (wW w k = false → usat P s k = false) → ∀ u v, TT sc (d + 1) 120 Q 15 [.ref 49, .int (nI s), .int (nI T), .int (nI (k + 1)), u, v] [] h' := fun n1 n2 u v => by
        refine ih e (H' n2) h' u v f (by rw [← cnt_f n1]; exact g1) fun i hi hl => ?_
        rcases Nat.lt_or_ge i k with z | z
        · exact g2 i z hl
        · have : i = k := by omega
          rw [this, n1] at hl; cases hl
      have push : lfg P w s k = true → usat P s k = false → ∀ u v, TT sc (d + 1) 120 Q 15 [.ref 49, .int (nI s), .int (nI T), .int (nI (k + 1)), u, v] [] (ap_i (ap_i h' 67 (cnt (lfg P w s) k) (nI k)) 49 31 (nI (cnt (lfg P w s) k + 1))) := fun n1 n2 u v => by
        refine ih e (H' fun _ => n2) _ u v ((f.i (Or.inr rfl)).i (Or.inl ⟨rfl, rfl⟩)) ?_ fun i hi hl => ?_
        · rw [ai_i, if_pos ⟨rfl, rfl⟩, ← cnt_t n1]
        · rw [ai_i, if_neg (by omega), ai_i]
          rcases Nat.lt_or_ge i k with z | z
          · have : cnt (lfg P w s) (i + 1) ≤ cnt (lfg P w s) k := cnt_mono _ z
            rw [← cnt_t hl] at this
            rw [if_neg (by omega)]
            exact g2 i z hl
          · have : i = k := by omega
            rw [this, if_pos ⟨rfl, rfl⟩]
      by_cases k1 : P_kd P k = 0
      · refine wx_sound (S := [15]) 80 true _ _ _ _ ?_
        simp +contextual (disch := omega) only [K120, wx_t, wx_g, wJ_t, wJ_f, wI_s, CI, CL, C01, aftC_v, aftC_n, true_or, or_true, true_and, and_true, inS_n, inS_c, pI_c, pL_c, pA_c, pV_c, pE_c, pQ_s, pQ_n, pQ_r, cm_eq', cm_ne', cm_lt', cm_ge', cm_gt', cm_le', List.getD_cons_zero, List.getD_cons_succ, Nat.reduceAdd, Nat.reduceBEq, Bool.false_or, Bool.or_false, Bool.true_or, Int.reduceToNat, s_iload, s_lload, s_aload, s_istore, s_astore, s_lstore, s_iconst, s_sipush, s_aconst_null, s_iadd, s_isub, s_imul, s_iand, s_ior, s_ixor, s_idiv, s_irem, s_ishl, s_ishr, s_iushr, s_ladd, s_lsub, s_land, s_lor, s_lxor, s_lneg, s_lshl, s_lshr, s_lushr, s_i2l, s_l2i, s_lcmp, s_dup, s_pop, s_dup2, s_i2c, s_i2s, s_monitorenter, s_ifCond, s_if_icmp, s_ifnull, s_goto, s_iinc, s_tableswitch, s_ireturn, s_freturn, s_lreturn, s_areturn, s_return_, s_ldc, s_getfield, s_putfield, s_iaload, s_iastore, s_laload, s_lastore, s_baload, s_bastore, s_aaload, s_aastore, s_arraylength, s_newarray, s_anewarray, s_new, s_invokestatic, s_invokespecial, s_invokevirtual, fvl_0, fvl_1, fvl_2, fvl_3, fp_0, fp_1, fp_2, fp_3, rf_s, rf_n, isRf_b, knw_b, isLg_b, popA_0, popA_s, st1_0, st1_s, st2_e, set_0, set_s, aftC_e, hxP_s, hxP_n, iteF, iteT, bft, im_t, im_f, nt_f, nt_t, Nat.reduceDiv, Nat.reduceMod, Nat.reduceLeDiff, Nat.reduceLT, Nat.reduceEqDiff, List.length_cons, List.length_nil, Nat.zero_add, Nat.reduceSub, List.cons_append, List.nil_append, ak_i, az_i, ar_i, al_i, ai_i, ak_l, az_l, ar_l, al_l, ai_l, ak_r, az_r, ar_r, al_r, ai_r, pk_m1, reduceCtorEq, msk_tb, mskL, Bool.and_eq_true, decide_eq_true_eq, lg_0, lg_t, lg_g, lg_e, lg_l, tb_z, Nat.mod_eq_of_lt, lN_1s, and_ze, brT, brF, brN, vpT, a4095, a63, nI_e, nI_l', nI_t', dif_z, and_z, and_zr, lN_e, nI_clamp, nx_shr, Nat.reducePow, bI_0, bI_1, bI_z, bI_o, bI_or, n01, nI_add, pk_mul, nx_and, nx_or, nx_dif, lx_and, lx_or, lx_dif, Bool.not_eq_true, Bool.not_eq_false, Bool.true_eq_false, Bool.false_eq_true, ss_49 c'.1, c'.f.2, w', m_116 c' e hs, m_114 c' e, (c'.i e).2.1, m_117 hx, k1, pz, g1, false_and, if_false]
        refine And.intro (fun e1 => skip (by unfold lfg wW; simp [e1]) (fun z => by unfold wW at z; simp [e1] at z) _ _) fun e1 => And.intro (fun e2 => skip (by unfold lfg; simp [e2]) (fun _ => by unfold usat; simp [e2]) _ _) fun e2 => And.intro (fun e3 => no h' f ?_) fun e3 => push (by unfold lfg wW; simp [e1, e2, k1]) (by unfold usat; simp [k1, e3]) _ _
        intro z
        have := z.2 k e (by unfold wW; simp [e1])
        unfold usat at this
        simp [e2, k1, e3] at this
      · by_cases k2 : P_kd P k = 1
        · refine wx_sound (S := [15]) 80 true _ _ _ _ ?_
          simp +contextual (disch := omega) only [K120, wx_t, wx_g, wJ_t, wJ_f, wI_s, CI, CL, C01, aftC_v, aftC_n, true_or, or_true, true_and, and_true, inS_n, inS_c, pI_c, pL_c, pA_c, pV_c, pE_c, pQ_s, pQ_n, pQ_r, cm_eq', cm_ne', cm_lt', cm_ge', cm_gt', cm_le', List.getD_cons_zero, List.getD_cons_succ, Nat.reduceAdd, Nat.reduceBEq, Bool.false_or, Bool.or_false, Bool.true_or, Int.reduceToNat, s_iload, s_lload, s_aload, s_istore, s_astore, s_lstore, s_iconst, s_sipush, s_aconst_null, s_iadd, s_isub, s_imul, s_iand, s_ior, s_ixor, s_idiv, s_irem, s_ishl, s_ishr, s_iushr, s_ladd, s_lsub, s_land, s_lor, s_lxor, s_lneg, s_lshl, s_lshr, s_lushr, s_i2l, s_l2i, s_lcmp, s_dup, s_pop, s_dup2, s_i2c, s_i2s, s_monitorenter, s_ifCond, s_if_icmp, s_ifnull, s_goto, s_iinc, s_tableswitch, s_ireturn, s_freturn, s_lreturn, s_areturn, s_return_, s_ldc, s_getfield, s_putfield, s_iaload, s_iastore, s_laload, s_lastore, s_baload, s_bastore, s_aaload, s_aastore, s_arraylength, s_newarray, s_anewarray, s_new, s_invokestatic, s_invokespecial, s_invokevirtual, fvl_0, fvl_1, fvl_2, fvl_3, fp_0, fp_1, fp_2, fp_3, rf_s, rf_n, isRf_b, knw_b, isLg_b, popA_0, popA_s, st1_0, st1_s, st2_e, set_0, set_s, aftC_e, hxP_s, hxP_n, iteF, iteT, bft, im_t, im_f, nt_f, nt_t, Nat.reduceDiv, Nat.reduceMod, Nat.reduceLeDiff, Nat.reduceLT, Nat.reduceEqDiff, List.length_cons, List.length_nil, Nat.zero_add, Nat.reduceSub, List.cons_append, List.nil_append, ak_i, az_i, ar_i, al_i, ai_i, ak_l, az_l, ar_l, al_l, ai_l, ak_r, az_r, ar_r, al_r, ai_r, pk_m1, reduceCtorEq, msk_tb, mskL, Bool.and_eq_true, decide_eq_true_eq, lg_0, lg_t, lg_g, lg_e, lg_l, tb_z, Nat.mod_eq_of_lt, lN_1s, and_ze, brT, brF, brN, vpT, a4095, a63, nI_e, nI_l', nI_t', dif_z, and_z, and_zr, lN_e, nI_clamp, nx_shr, Nat.reducePow, bI_0, bI_1, bI_z, bI_o, bI_or, n01, nI_add, pk_mul, nx_and, nx_or, nx_dif, lx_and, lx_or, lx_dif, Bool.not_eq_true, Bool.not_eq_false, Bool.true_eq_false, Bool.false_eq_true, ss_49 c'.1, c'.f.2, w', m_116 c' e hs, m_114 c' e, (c'.i e).2.1, m_117 hx, k2, g1, false_and, if_false, m_115 c' e (j := 0) (by omega) k1, m_115 c' e (j := 1) (by omega) k1, m_62]
          refine And.intro (fun e1 => skip (by unfold lfg wW; simp [e1]) (fun z => by unfold wW at z; simp [e1] at z) _ _) fun e1 => And.intro (fun e2 => skip (by unfold lfg; simp [e2]) (fun _ => by unfold usat; simp [e2]) _ _) fun e2 => And.intro (fun e3 => no h' f ?_) fun e3 => push (by unfold lfg wW; simp [e1, e2, k2]) (by unfold usat wch; simp [k2, e3]) _ _
          intro z
          have := z.2 k e (by unfold wW; simp [e1])
          unfold usat wch at this
          rw [e3] at this
          simp [e2, k2] at this
        · have k3 := c.kd e
          refine wx_sound (S := [15]) 80 true _ _ _ _ ?_
          simp +contextual (disch := omega) only [K120, wx_t, wx_g, wJ_t, wJ_f, wI_s, CI, CL, C01, aftC_v, aftC_n, true_or, or_true, true_and, and_true, inS_n, inS_c, pI_c, pL_c, pA_c, pV_c, pE_c, pQ_s, pQ_n, pQ_r, cm_eq', cm_ne', cm_lt', cm_ge', cm_gt', cm_le', List.getD_cons_zero, List.getD_cons_succ, Nat.reduceAdd, Nat.reduceBEq, Bool.false_or, Bool.or_false, Bool.true_or, Int.reduceToNat, s_iload, s_lload, s_aload, s_istore, s_astore, s_lstore, s_iconst, s_sipush, s_aconst_null, s_iadd, s_isub, s_imul, s_iand, s_ior, s_ixor, s_idiv, s_irem, s_ishl, s_ishr, s_iushr, s_ladd, s_lsub, s_land, s_lor, s_lxor, s_lneg, s_lshl, s_lshr, s_lushr, s_i2l, s_l2i, s_lcmp, s_dup, s_pop, s_dup2, s_i2c, s_i2s, s_monitorenter, s_ifCond, s_if_icmp, s_ifnull, s_goto, s_iinc, s_tableswitch, s_ireturn, s_freturn, s_lreturn, s_areturn, s_return_, s_ldc, s_getfield, s_putfield, s_iaload, s_iastore, s_laload, s_lastore, s_baload, s_bastore, s_aaload, s_aastore, s_arraylength, s_newarray, s_anewarray, s_new, s_invokestatic, s_invokespecial, s_invokevirtual, fvl_0, fvl_1, fvl_2, fvl_3, fp_0, fp_1, fp_2, fp_3, rf_s, rf_n, isRf_b, knw_b, isLg_b, popA_0, popA_s, st1_0, st1_s, st2_e, set_0, set_s, aftC_e, hxP_s, hxP_n, iteF, iteT, bft, im_t, im_f, nt_f, nt_t, Nat.reduceDiv, Nat.reduceMod, Nat.reduceLeDiff, Nat.reduceLT, Nat.reduceEqDiff, List.length_cons, List.length_nil, Nat.zero_add, Nat.reduceSub, List.cons_append, List.nil_append, ak_i, az_i, ar_i, al_i, ai_i, ak_l, az_l, ar_l, al_l, ai_l, ak_r, az_r, ar_r, al_r, ai_r, pk_m1, reduceCtorEq, msk_tb, mskL, Bool.and_eq_true, decide_eq_true_eq, lg_0, lg_t, lg_g, lg_e, lg_l, tb_z, Nat.mod_eq_of_lt, lN_1s, and_ze, brT, brF, brN, vpT, a4095, a63, nI_e, nI_l', nI_t', dif_z, and_z, and_zr, lN_e, nI_clamp, nx_shr, Nat.reducePow, bI_0, bI_1, bI_z, bI_o, bI_or, n01, nI_add, pk_mul, nx_and, nx_or, nx_dif, lx_and, lx_or, lx_dif, Bool.not_eq_true, Bool.not_eq_false, Bool.true_eq_false, Bool.false_eq_true, ss_49 c'.1, c'.f.2, w', m_116 c' e hs, m_114 c' e, (c'.i e).2.1, m_117 hx, k1, k2, g1, false_and, if_false]
          refine And.intro (fun e1 => skip (by unfold lfg wW; simp [e1]) (fun z => by unfold wW at z; simp [e1] at z) _ _) fun e1 => And.intro (fun e2 => skip (by unfold lfg; simp [e2]) (fun _ => by unfold usat; simp [e2]) _ _) fun e2 => skip ?_ (fun _ => by unfold usat; simp [k1, k2]) _ _
          have : ¬ P_kd P k ≤ 1 := by omega
          unfold lfg; simp [this]
    · have : k = P_m P := by omega
      subst this
      refine wx_sound (S := [15]) 60 true _ _ _ _ ?_
      simp +contextual (disch := omega) only [K120, wx_t, wx_g, wJ_t, wJ_f, wI_s, CI, CL, C01, aftC_v, aftC_n, true_or, or_true, true_and, and_true, inS_n, inS_c, pI_c, pL_c, pA_c, pV_c, pE_c, pQ_s, pQ_n, pQ_r, cm_eq', cm_ne', cm_lt', cm_ge', cm_gt', cm_le', List.getD_cons_zero, List.getD_cons_succ, Nat.reduceAdd, Nat.reduceBEq, Bool.false_or, Bool.or_false, Bool.true_or, Int.reduceToNat, s_iload, s_lload, s_aload, s_istore, s_astore, s_lstore, s_iconst, s_sipush, s_aconst_null, s_iadd, s_isub, s_imul, s_iand, s_ior, s_ixor, s_idiv, s_irem, s_ishl, s_ishr, s_iushr, s_ladd, s_lsub, s_land, s_lor, s_lxor, s_lneg, s_lshl, s_lshr, s_lushr, s_i2l, s_l2i, s_lcmp, s_dup, s_pop, s_dup2, s_i2c, s_i2s, s_monitorenter, s_ifCond, s_if_icmp, s_ifnull, s_goto, s_iinc, s_tableswitch, s_ireturn, s_freturn, s_lreturn, s_areturn, s_return_, s_ldc, s_getfield, s_putfield, s_iaload, s_iastore, s_laload, s_lastore, s_baload, s_bastore, s_aaload, s_aastore, s_arraylength, s_newarray, s_anewarray, s_new, s_invokestatic, s_invokespecial, s_invokevirtual, fvl_0, fvl_1, fvl_2, fvl_3, fp_0, fp_1, fp_2, fp_3, rf_s, rf_n, isRf_b, knw_b, isLg_b, popA_0, popA_s, st1_0, st1_s, st2_e, set_0, set_s, aftC_e, hxP_s, hxP_n, iteF, iteT, bft, im_t, im_f, nt_f, nt_t, Nat.reduceDiv, Nat.reduceMod, Nat.reduceLeDiff, Nat.reduceLT, Nat.reduceEqDiff, List.length_cons, List.length_nil, Nat.zero_add, Nat.reduceSub, List.cons_append, List.nil_append, ak_i, az_i, ar_i, al_i, ai_i, ak_l, az_l, ar_l, al_l, ai_l, ak_r, az_r, ar_r, al_r, ai_r, pk_m1, reduceCtorEq, msk_tb, mskL, Bool.and_eq_true, decide_eq_true_eq, lg_0, lg_t, lg_g, lg_e, lg_l, tb_z, Nat.mod_eq_of_lt, lN_1s, and_ze, brT, brF, brN, vpT, a4095, a63, nI_e, nI_l', nI_t', dif_z, and_z, and_zr, lN_e, nI_clamp, nx_shr, Nat.reducePow, bI_0, bI_1, bI_z, bI_o, bI_or, n01, nI_add, pk_mul, nx_and, nx_or, nx_dif, lx_and, lx_or, lx_dif, Bool.not_eq_true, Bool.not_eq_false, Bool.true_eq_false, Bool.false_eq_true, ss_49 c'.1, c'.f.2]
      rw [← hQ]
      exact ⟨by rw [bP_of ⟨e0, H⟩]; rfl, f, fun _ => ⟨g1, g2⟩⟩
  refine TC_e (ls := [.ref 49, .int (nI s), unk, unk, unk, unk]) (Nat.le_of_ble_eq_true rfl) rfl (wx_sound (S := [15]) 60 true _ _ _ _ ?_)
  simp +contextual (disch := omega) only [K120, wx_t, wx_g, wJ_t, wJ_f, wI_s, CI, CL, C01, aftC_v, aftC_n, true_or, or_true, true_and, and_true, inS_n, inS_c, pI_c, pL_c, pA_c, pV_c, pE_c, pQ_s, pQ_n, pQ_r, cm_eq', cm_ne', cm_lt', cm_ge', cm_gt', cm_le', List.getD_cons_zero, List.getD_cons_succ, Nat.reduceAdd, Nat.reduceBEq, Bool.false_or, Bool.or_false, Bool.true_or, Int.reduceToNat, s_iload, s_lload, s_aload, s_istore, s_astore, s_lstore, s_iconst, s_sipush, s_aconst_null, s_iadd, s_isub, s_imul, s_iand, s_ior, s_ixor, s_idiv, s_irem, s_ishl, s_ishr, s_iushr, s_ladd, s_lsub, s_land, s_lor, s_lxor, s_lneg, s_lshl, s_lshr, s_lushr, s_i2l, s_l2i, s_lcmp, s_dup, s_pop, s_dup2, s_i2c, s_i2s, s_monitorenter, s_ifCond, s_if_icmp, s_ifnull, s_goto, s_iinc, s_tableswitch, s_ireturn, s_freturn, s_lreturn, s_areturn, s_return_, s_ldc, s_getfield, s_putfield, s_iaload, s_iastore, s_laload, s_lastore, s_baload, s_bastore, s_aaload, s_aastore, s_arraylength, s_newarray, s_anewarray, s_new, s_invokestatic, s_invokespecial, s_invokevirtual, fvl_0, fvl_1, fvl_2, fvl_3, fp_0, fp_1, fp_2, fp_3, rf_s, rf_n, isRf_b, knw_b, isLg_b, popA_0, popA_s, st1_0, st1_s, st2_e, set_0, set_s, aftC_e, hxP_s, hxP_n, iteF, iteT, bft, im_t, im_f, nt_f, nt_t, Nat.reduceDiv, Nat.reduceMod, Nat.reduceLeDiff, Nat.reduceLT, Nat.reduceEqDiff, List.length_cons, List.length_nil, Nat.zero_add, Nat.reduceSub, List.cons_append, List.nil_append, ak_i, az_i, ar_i, al_i, ai_i, ak_l, az_l, ar_l, al_l, ai_l, ak_r, az_r, ar_r, al_r, ai_r, pk_m1, reduceCtorEq, msk_tb, mskL, Bool.and_eq_true, decide_eq_true_eq, lg_0, lg_t, lg_g, lg_e, lg_l, tb_z, Nat.mod_eq_of_lt, lN_1s, and_ze, brT, brF, brN, vpT, a4095, a63, nI_e, nI_l', nI_t', dif_z, and_z, and_zr, lN_e, nI_clamp, nx_shr, Nat.reducePow, bI_0, bI_1, bI_z, bI_o, bI_or, n01, nI_add, pk_mul, nx_and, nx_or, nx_dif, lx_and, lx_or, lx_dif, Bool.not_eq_true, Bool.not_eq_false, Bool.true_eq_false, Bool.false_eq_true, ss_49 c.1, m_118 c x hT, en, and_dif]
  have f1 : FR h (ap_i h 49 31 (nI 0)) S67 := (FR.refl h _).i (Or.inl ⟨rfl, rfl⟩)
  refine And.intro (fun e0 => lp e0 0 (Nat.zero_le _) (fun i hi => absurd hi (by omega)) _ _ _ f1 ?_ fun i hi => absurd hi (by omega)) fun e0 => no _ f1 fun z => e0 z.1
  rw [ai_i, if_pos ⟨rfl, rfl⟩]; rfl
end MDL
