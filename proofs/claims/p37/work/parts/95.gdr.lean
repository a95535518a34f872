/-! GROUNDING OF THE CLASS: THE DRAFT, AN EXTERNAL, ANEW -/
theorem GC_cut {h : AH} {g : Nat} {A I B J : List Nat} {b : Bool} (c : GC h g (A ++ B, I ++ J, b)) : GC (ap_i (ap_i h g 1 (nI A.length)) g 3 (nI I.length)) g (A, I, b) := by
  obtain ⟨⟨a1, a2, a3⟩, ⟨i1, i2, i3⟩, o⟩ := c
  have a2 : (A ++ B).length ≤ 12 := a2
  have i2 : (I ++ J).length ≤ 60 := i2
  rw [List.length_append] at a2 i2
  refine ⟨⟨?_, by show A.length ≤ 12; omega, fun a ha => ?_⟩, ⟨?_, by show I.length ≤ 60; omega, fun i hi => ?_⟩, ?_⟩
  · rw [ai_n (by omega), ai_y]
  · have ha : a < A.length := ha
    rw [ai_n (by omega), ai_n (by omega)]
    have := a3 a (by show a < (A ++ B).length; rw [List.length_append]; omega)
    have e : lat (A ++ B) a = lat A a := lat_app ha
    show ah_i h (g + 1) a = nI (lat A a) ∧ lat A a < 2000
    rw [← e]; exact this
  · rw [ai_y]
  · have hi : i < I.length := hi
    rw [ai_n (by omega), ai_n (by omega)]
    have := i3 i (by show i < (I ++ J).length; rw [List.length_append]; omega)
    have e : lat (I ++ J) i = lat I i := lat_app hi
    show ah_i h (g + 2) i = nI (lat I i) ∧ lat I i < 1000000
    rw [← e]; exact this
  · rw [ai_n (by omega), ai_n (by omega)]; exact o
theorem GC_back {h : AH} {g : Nat} {S T : gS} (x : gxt S T) (c : GC h g T) : GC (ap_i (ap_i h g 1 (nI S.1.length)) g 3 (nI S.2.1.length)) g (S.1, S.2.1, T.2.2) := by
  obtain ⟨⟨B, e1⟩, ⟨J, e2⟩, _⟩ := x
  obtain ⟨A', I', b'⟩ := T
  cases e1
  cases e2
  exact GC_cut c
theorem GC_fr {h h' : AH} {g : Nat} {S : gS} {W : Nat → Nat → Prop} (c : GC h g S) (f : FR h h' W) (w : ∀ a k, SG g a k → ¬ W a k) : GC h' g S := by
  obtain ⟨⟨a1, a2, a3⟩, ⟨i1, i2, i3⟩, o⟩ := c
  refine ⟨⟨?_, a2, fun a ha => ?_⟩, ⟨?_, i2, fun i hi => ?_⟩, ?_⟩
  · rw [f.ci (w _ _ ⟨by omega, by omega⟩)]; exact a1
  · rw [f.ci (w _ _ ⟨by omega, by omega⟩)]; exact a3 a ha
  · rw [f.ci (w _ _ ⟨by omega, by omega⟩)]; exact i1
  · rw [f.ci (w _ _ ⟨by omega, by omega⟩)]; exact i3 i hi
  · rw [f.ci (w _ _ ⟨by omega, by omega⟩)]; exact o
theorem GC_r {h : AH} {g a k : Nat} {v : Option Nat} {S : gS} (c : GC h g S) : GC (ap_r h a k v) g S := c
theorem RU_r {h : AH} {r k : Nat} {v : Option Nat} {R : RW} (c : RU h r R) (p : rpl r) : RU (ap_r h 2 k v) r R := by
  obtain ⟨s, c2, c3, c4⟩ := c
  refine ⟨?_, c2, c3, c4⟩
  unfold rpl at p
  unfold RSh ESh at *
  simp only [ar_r, ak_r, az_r]
  have n : ∀ j x, (r + j = 2 ∧ x = k) = False := fun j x => eq_false (by omega)
  have n0 : ∀ x, (r = 2 ∧ x = k) = False := fun x => eq_false (by omega)
  simp only [n, n0, if_false]
  exact s
theorem SHP_r {h : AH} {k : Nat} {v : Option Nat} (hp : SHP h) : SHP (ap_r h 2 k v) := by
  unfold SHP SH0 SH19 SH23 SH27 SH28 SH31 SH43 SH45 SH46 SH49 at *
  simp only [ar_r, ak_r, az_r, Nat.reduceEqDiff, false_and, if_false]
  exact hp
def ins (Ro : Nat → RW) (m : Nat) (R : RW) : Nat → RW := fun n => if n = m then R else Ro n
theorem RA_in {h : AH} {m r : Nat} {Ro : Nat → RW} {R : RW} (a : RA h 2 m Ro) (hm : m < 20) (u : RU h r R) (p : rpl r) : RA (ap_r h 2 m (some r)) 2 (m + 1) (ins Ro m R) := by
  obtain ⟨a1, a2, a3, a4⟩ := a
  refine ⟨a1, a2, by omega, fun n hn => ?_⟩
  unfold ins
  by_cases e : n = m
  · rw [if_pos e]
    exact ⟨r, by rw [ar_r, if_pos ⟨rfl, e⟩], RU_r u p, p⟩
  · rw [if_neg e]
    obtain ⟨q, r1, r2, r3⟩ := a4 n (by omega)
    exact ⟨q, by rw [ar_r, if_neg (by omega)]; exact r1, RU_r r2 r3, r3⟩
/-- the externals' atoms, in the order of their numbers -/
def exl (A : List Nat) (X : Nat) : Nat → List Nat
  | 0 => []
  | k + 1 => if X.testBit k = true then exl A X k ++ [lat A k] else exl A X k
theorem exl_s (A : List Nat) (X k : Nat) : exl A X (k + 1) = if X.testBit k = true then exl A X k ++ [lat A k] else exl A X k := rfl
theorem exl_m {A : List Nat} {X x : Nat} : ∀ {k : Nat}, x ∈ exl A X k ↔ ∃ j, j < k ∧ X.testBit j = true ∧ lat A j = x
  | 0 => ⟨fun h => absurd h List.not_mem_nil, fun ⟨j, h, _⟩ => absurd h (Nat.not_lt_zero _)⟩
  | k + 1 => by
    rw [exl_s]
    have ih := exl_m (A := A) (X := X) (x := x) (k := k)
    by_cases e : X.testBit k = true
    · rw [if_pos e, List.mem_append, List.mem_singleton, ih]
      constructor
      · rintro (⟨j, h1, h2, h3⟩ | h)
        · exact ⟨j, by omega, h2, h3⟩
        · exact ⟨k, by omega, e, h.symm⟩
      · rintro ⟨j, h1, h2, h3⟩
        by_cases q : j = k
        · subst q; exact Or.inr h3.symm
        · exact Or.inl ⟨j, by omega, h2, h3⟩
    · rw [if_neg e, ih]
      constructor
      · rintro ⟨j, h1, h2, h3⟩
        exact ⟨j, by omega, h2, h3⟩
      · rintro ⟨j, h1, h2, h3⟩
        have q : j ≠ k := fun q => e (q ▸ h2)
        exact ⟨j, by omega, h2, h3⟩
theorem lat_inj {A : List Nat} (nd : A.Nodup) {i j : Nat} (hi : i < j) (hj : j < A.length) : lat A i ≠ lat A j := by
  have := List.pairwise_iff_getElem.mp nd i j (by omega) hj hi
  unfold lat
  rw [List.getD_eq_getElem?_getD, List.getD_eq_getElem?_getD, List.getElem?_eq_getElem (by omega), List.getElem?_eq_getElem hj]
  exact this
theorem exl_n {A : List Nat} {X : Nat} (nd : A.Nodup) : ∀ {k : Nat}, k ≤ A.length → (exl A X k).Nodup ∧ (exl A X k).length ≤ k ∧ (k < A.length → lat A k ∉ exl A X k)
  | 0, _ => ⟨List.nodup_nil, Nat.le_refl _, fun _ => List.not_mem_nil⟩
  | k + 1, h => by
    have new : ∀ q, q < A.length → lat A q ∉ exl A X q := fun q hq m => by
      obtain ⟨j, h1, _, h3⟩ := exl_m.mp m
      exact lat_inj nd h1 hq h3
    obtain ⟨a, b, c⟩ := exl_n (X := X) nd (k := k) (by omega)
    refine ⟨?_, ?_, new _⟩
    · rw [exl_s]
      by_cases e : X.testBit k = true
      · rw [if_pos e]; exact nd_app a (c (by omega))
      · rw [if_neg e]; exact a
    · rw [exl_s]
      by_cases e : X.testBit k = true
      · rw [if_pos e, List.length_append, List.length_singleton]; omega
      · rw [if_neg e]; omega
section CLS
variable {sc : (Nat → Int32) × Nat} {d : Nat} {h : AH} {m r x : Nat} {Ro : Nat → RW} {R : RW} {A I : List Nat} {b : Bool}
theorem c_45f (hp : SHP h) (hm : ah_i h 0 3 = nI 20) {Q : Rs → AH → Prop} : TC sc (d + 13) 45 [.ref 0] h Q ↔ Q (.inl (some (.int (nI 0)))) h := TC_of (fun Q hq => by
  refine TC_e (ls := [.ref 0, unk, unk]) (Nat.le_of_ble_eq_true rfl) rfl (wx_sound (S := []) 60 true _ _ _ _ ?_)
  simp +contextual (disch := omega) only [K45, wx_t, wx_g, wJ_t, wJ_f, wI_s, CI, CL, C01, aftC_v, aftC_n, true_or, or_true, true_and, and_true, inS_n, inS_c, pI_c, pL_c, pA_c, pV_c, pE_c, pQ_s, pQ_n, pQ_r, cm_eq', cm_ne', cm_lt', cm_ge', cm_gt', cm_le', List.getD_cons_zero, List.getD_cons_succ, Nat.reduceAdd, Nat.reduceBEq, Bool.false_or, Bool.or_false, Bool.true_or, Int.reduceToNat, s_iload, s_lload, s_aload, s_istore, s_astore, s_lstore, s_iconst, s_sipush, s_aconst_null, s_iadd, s_isub, s_imul, s_iand, s_ior, s_ixor, s_idiv, s_irem, s_ishl, s_ishr, s_iushr, s_ladd, s_lsub, s_land, s_lor, s_lxor, s_lneg, s_lshl, s_lshr, s_lushr, s_i2l, s_l2i, s_lcmp, s_dup, s_pop, s_dup2, s_i2c, s_i2s, s_monitorenter, s_ifCond, s_if_icmp, s_ifnull, s_goto, s_iinc, s_tableswitch, s_ireturn, s_freturn, s_lreturn, s_areturn, s_return_, s_ldc, s_getfield, s_putfield, s_iaload, s_iastore, s_laload, s_lastore, s_baload, s_bastore, s_aaload, s_aastore, s_arraylength, s_newarray, s_anewarray, s_new, s_invokestatic, s_invokespecial, s_invokevirtual, fvl_0, fvl_1, fvl_2, fvl_3, fp_0, fp_1, fp_2, fp_3, rf_s, rf_n, isRf_b, knw_b, isLg_b, popA_0, popA_s, st1_0, st1_s, st2_e, set_0, set_s, aftC_e, hxP_s, hxP_n, iteF, iteT, bft, im_t, im_f, nt_f, nt_t, Nat.reduceDiv, Nat.reduceMod, Nat.reduceLeDiff, Nat.reduceLT, Nat.reduceEqDiff, List.length_cons, List.length_nil, Nat.zero_add, Nat.reduceSub, List.cons_append, List.nil_append, ak_i, az_i, ar_i, al_i, ai_i, ak_l, az_l, ar_l, al_l, ai_l, ak_r, az_r, ar_r, al_r, ai_r, pk_m1, reduceCtorEq, msk_tb, mskL, Bool.and_eq_true, decide_eq_true_eq, lg_0, lg_t, lg_g, lg_e, lg_l, tb_z, Nat.mod_eq_of_lt, lN_1s, and_ze, brT, brF, brN, vpT, a4095, a63, nI_e, nI_l', nI_t', dif_z, and_z, and_zr, lN_e, nI_clamp, nx_shr, Nat.reducePow, bI_0, bI_1, bI_z, bI_o, bI_or, n01, nI_add, pk_mul, nx_and, nx_or, nx_dif, lx_and, lx_or, lx_dif, Bool.not_eq_true, Bool.not_eq_false, Bool.true_eq_false, Bool.false_eq_true, ss_0 hp, hm]
  exact hq) Q
theorem c_45 (hp : SHP h) (ra : RA h 2 m Ro) (hm : ah_i h 0 3 = nI m) (m20 : m < 20) (hr : ah_r h 0 4 = some r) (hn : ah_r h 2 m = none) (ru : RU h r R) (p : rpl r) (gc : GC h 19 (A, I, b)) (ca : ∃ c, CA h 22 c) : TC sc (d + 13) 45 [.ref 0] h fun q h' => q = .inl (some (.int (bI (gal (ins Ro m R) (m + 1) 62 (A, I, true)).2.2))) ∧ (∃ c, CA h' 22 c) ∧ ((gal (ins Ro m R) (m + 1) 62 (A, I, true)).2.2 = true ∧ FR (ap_r h 2 m (some r)) h' (fun a k => SG 19 a k ∨ a = 0 ∧ k = 3) ∧ GC h' 19 (gal (ins Ro m R) (m + 1) 62 (A, I, true)) ∧ ah_i h' 0 3 = nI (m + 1) ∨ (gal (ins Ro m R) (m + 1) 62 (A, I, true)).2.2 = false ∧ FR h h' (SG 19) ∧ ∃ b', GC h' 19 (A, I, b')) := by
  have X := gal_x (ins Ro m R) (m + 1) 62 (A, I, true)
  have hp1 : SHP (ap_r h 2 m (some r)) := SHP_r hp
  have H := c_190 (sc := sc) (d := d) (Or.inl rfl) (gs_19 hp1) (RA_in ra m20 ru p) (GC_r gc) ca
  generalize gal (ins Ro m R) (m + 1) 62 (A, I, true) = S' at X H ⊢
  generalize hQ : (fun (q : Rs) (h' : AH) => q = .inl (some (.int (bI S'.2.2))) ∧ (∃ c, CA h' 22 c) ∧ (S'.2.2 = true ∧ FR (ap_r h 2 m (some r)) h' (fun a k => SG 19 a k ∨ a = 0 ∧ k = 3) ∧ GC h' 19 S' ∧ ah_i h' 0 3 = nI (m + 1) ∨ S'.2.2 = false ∧ FR h h' (SG 19) ∧ ∃ b', GC h' 19 (A, I, b'))) = Q
  have a1 : ah_i h 19 1 = nI A.length := gc.1.1
  have i1 : ah_i h 19 3 = nI I.length := gc.2.1.1
  refine TC_e (ls := [.ref 0, unk, unk]) (Nat.le_of_ble_eq_true rfl) rfl (wx_sound (S := []) 60 true _ _ _ _ ?_)
  simp +contextual (disch := omega) only [K45, wx_t, wx_g, wJ_t, wJ_f, wI_s, CI, CL, C01, aftC_v, aftC_n, true_or, or_true, true_and, and_true, inS_n, inS_c, pI_c, pL_c, pA_c, pV_c, pE_c, pQ_s, pQ_n, pQ_r, cm_eq', cm_ne', cm_lt', cm_ge', cm_gt', cm_le', List.getD_cons_zero, List.getD_cons_succ, Nat.reduceAdd, Nat.reduceBEq, Bool.false_or, Bool.or_false, Bool.true_or, Int.reduceToNat, s_iload, s_lload, s_aload, s_istore, s_astore, s_lstore, s_iconst, s_sipush, s_aconst_null, s_iadd, s_isub, s_imul, s_iand, s_ior, s_ixor, s_idiv, s_irem, s_ishl, s_ishr, s_iushr, s_ladd, s_lsub, s_land, s_lor, s_lxor, s_lneg, s_lshl, s_lshr, s_lushr, s_i2l, s_l2i, s_lcmp, s_dup, s_pop, s_dup2, s_i2c, s_i2s, s_monitorenter, s_ifCond, s_if_icmp, s_ifnull, s_goto, s_iinc, s_tableswitch, s_ireturn, s_freturn, s_lreturn, s_areturn, s_return_, s_ldc, s_getfield, s_putfield, s_iaload, s_iastore, s_laload, s_lastore, s_baload, s_bastore, s_aaload, s_aastore, s_arraylength, s_newarray, s_anewarray, s_new, s_invokestatic, s_invokespecial, s_invokevirtual, fvl_0, fvl_1, fvl_2, fvl_3, fp_0, fp_1, fp_2, fp_3, rf_s, rf_n, isRf_b, knw_b, isLg_b, popA_0, popA_s, st1_0, st1_s, st2_e, set_0, set_s, aftC_e, hxP_s, hxP_n, iteF, iteT, bft, im_t, im_f, nt_f, nt_t, Nat.reduceDiv, Nat.reduceMod, Nat.reduceLeDiff, Nat.reduceLT, Nat.reduceEqDiff, List.length_cons, List.length_nil, Nat.zero_add, Nat.reduceSub, List.cons_append, List.nil_append, ak_i, az_i, ar_i, al_i, ai_i, ak_l, az_l, ar_l, al_l, ai_l, ak_r, az_r, ar_r, al_r, ai_r, pk_m1, reduceCtorEq, msk_tb, mskL, Bool.and_eq_true, decide_eq_true_eq, lg_0, lg_t, lg_g, lg_e, lg_l, tb_z, Nat.mod_eq_of_lt, lN_1s, and_ze, brT, brF, brN, vpT, a4095, a63, nI_e, nI_l', nI_t', dif_z, and_z, and_zr, lN_e, nI_clamp, nx_shr, Nat.reducePow, bI_0, bI_1, bI_z, bI_o, bI_or, n01, nI_add, pk_mul, nx_and, nx_or, nx_dif, lx_and, lx_or, lx_dif, Bool.not_eq_true, Bool.not_eq_false, Bool.true_eq_false, Bool.false_eq_true, ss_0 hp, ss_19 hp, hm, hr, a1, i1, ar_r, false_and, if_false]
  refine ⟨fun q e => by cases e; exact ru.1.1, TC_mono H ?_⟩
  rintro q h2 ⟨rfl, f2, g2, a2⟩
  have hp2 := hp1.fr f2
  have m2 : ah_i h2 0 3 = nI m := (f2.ci (fun z => by have := z.1; omega)).trans hm
  cases e : S'.2.2
  · simp +contextual (disch := omega) only [K45, wx_t, wx_g, wJ_t, wJ_f, wI_s, CI, CL, C01, aftC_v, aftC_n, true_or, or_true, true_and, and_true, inS_n, inS_c, pI_c, pL_c, pA_c, pV_c, pE_c, pQ_s, pQ_n, pQ_r, cm_eq', cm_ne', cm_lt', cm_ge', cm_gt', cm_le', List.getD_cons_zero, List.getD_cons_succ, Nat.reduceAdd, Nat.reduceBEq, Bool.false_or, Bool.or_false, Bool.true_or, Int.reduceToNat, s_iload, s_lload, s_aload, s_istore, s_astore, s_lstore, s_iconst, s_sipush, s_aconst_null, s_iadd, s_isub, s_imul, s_iand, s_ior, s_ixor, s_idiv, s_irem, s_ishl, s_ishr, s_iushr, s_ladd, s_lsub, s_land, s_lor, s_lxor, s_lneg, s_lshl, s_lshr, s_lushr, s_i2l, s_l2i, s_lcmp, s_dup, s_pop, s_dup2, s_i2c, s_i2s, s_monitorenter, s_ifCond, s_if_icmp, s_ifnull, s_goto, s_iinc, s_tableswitch, s_ireturn, s_freturn, s_lreturn, s_areturn, s_return_, s_ldc, s_getfield, s_putfield, s_iaload, s_iastore, s_laload, s_lastore, s_baload, s_bastore, s_aaload, s_aastore, s_arraylength, s_newarray, s_anewarray, s_new, s_invokestatic, s_invokespecial, s_invokevirtual, fvl_0, fvl_1, fvl_2, fvl_3, fp_0, fp_1, fp_2, fp_3, rf_s, rf_n, isRf_b, knw_b, isLg_b, popA_0, popA_s, st1_0, st1_s, st2_e, set_0, set_s, aftC_e, hxP_s, hxP_n, iteF, iteT, bft, im_t, im_f, nt_f, nt_t, Nat.reduceDiv, Nat.reduceMod, Nat.reduceLeDiff, Nat.reduceLT, Nat.reduceEqDiff, List.length_cons, List.length_nil, Nat.zero_add, Nat.reduceSub, List.cons_append, List.nil_append, ak_i, az_i, ar_i, al_i, ai_i, ak_l, az_l, ar_l, al_l, ai_l, ak_r, az_r, ar_r, al_r, ai_r, pk_m1, reduceCtorEq, msk_tb, mskL, Bool.and_eq_true, decide_eq_true_eq, lg_0, lg_t, lg_g, lg_e, lg_l, tb_z, Nat.mod_eq_of_lt, lN_1s, and_ze, brT, brF, brN, vpT, a4095, a63, nI_e, nI_l', nI_t', dif_z, and_z, and_zr, lN_e, nI_clamp, nx_shr, Nat.reducePow, bI_0, bI_1, bI_z, bI_o, bI_or, n01, nI_add, pk_mul, nx_and, nx_or, nx_dif, lx_and, lx_or, lx_dif, Bool.not_eq_true, Bool.not_eq_false, Bool.true_eq_false, Bool.false_eq_true, ss_0 hp2, ss_19 hp2, m2, ar_r, false_and, if_false, c_185 (gs_19 (SHP_r hp2))]
    refine ⟨fun _ => trivial, ?_⟩
    rw [← hQ]
    refine ⟨by rw [e]; rfl, ?_, Or.inr ⟨e, ?_, _, GC_back X (GC_r g2)⟩⟩
    · obtain ⟨c, a2⟩ := a2
      exact ⟨c, (CA.i (h := ap_r h2 2 m none) a2 (by omega)).i (by omega)⟩
    · refine FR.i (FR.i ?_ ⟨by omega, by omega⟩) ⟨by omega, by omega⟩
      obtain ⟨q1, q2, q3, q4, q5, q6⟩ := f2
      refine ⟨q1, q2, q3, q4, fun a k => ?_, q6⟩
      rw [ar_r]
      by_cases w : a = 2 ∧ k = m
      · rw [if_pos w, w.1, w.2, hn]
      · rw [if_neg w, q5 a k, ar_r, if_neg w]
  · simp +contextual (disch := omega) only [K45, wx_t, wx_g, wJ_t, wJ_f, wI_s, CI, CL, C01, aftC_v, aftC_n, true_or, or_true, true_and, and_true, inS_n, inS_c, pI_c, pL_c, pA_c, pV_c, pE_c, pQ_s, pQ_n, pQ_r, cm_eq', cm_ne', cm_lt', cm_ge', cm_gt', cm_le', List.getD_cons_zero, List.getD_cons_succ, Nat.reduceAdd, Nat.reduceBEq, Bool.false_or, Bool.or_false, Bool.true_or, Int.reduceToNat, s_iload, s_lload, s_aload, s_istore, s_astore, s_lstore, s_iconst, s_sipush, s_aconst_null, s_iadd, s_isub, s_imul, s_iand, s_ior, s_ixor, s_idiv, s_irem, s_ishl, s_ishr, s_iushr, s_ladd, s_lsub, s_land, s_lor, s_lxor, s_lneg, s_lshl, s_lshr, s_lushr, s_i2l, s_l2i, s_lcmp, s_dup, s_pop, s_dup2, s_i2c, s_i2s, s_monitorenter, s_ifCond, s_if_icmp, s_ifnull, s_goto, s_iinc, s_tableswitch, s_ireturn, s_freturn, s_lreturn, s_areturn, s_return_, s_ldc, s_getfield, s_putfield, s_iaload, s_iastore, s_laload, s_lastore, s_baload, s_bastore, s_aaload, s_aastore, s_arraylength, s_newarray, s_anewarray, s_new, s_invokestatic, s_invokespecial, s_invokevirtual, fvl_0, fvl_1, fvl_2, fvl_3, fp_0, fp_1, fp_2, fp_3, rf_s, rf_n, isRf_b, knw_b, isLg_b, popA_0, popA_s, st1_0, st1_s, st2_e, set_0, set_s, aftC_e, hxP_s, hxP_n, iteF, iteT, bft, im_t, im_f, nt_f, nt_t, Nat.reduceDiv, Nat.reduceMod, Nat.reduceLeDiff, Nat.reduceLT, Nat.reduceEqDiff, List.length_cons, List.length_nil, Nat.zero_add, Nat.reduceSub, List.cons_append, List.nil_append, ak_i, az_i, ar_i, al_i, ai_i, ak_l, az_l, ar_l, al_l, ai_l, ak_r, az_r, ar_r, al_r, ai_r, pk_m1, reduceCtorEq, msk_tb, mskL, Bool.and_eq_true, decide_eq_true_eq, lg_0, lg_t, lg_g, lg_e, lg_l, tb_z, Nat.mod_eq_of_lt, lN_1s, and_ze, brT, brF, brN, vpT, a4095, a63, nI_e, nI_l', nI_t', dif_z, and_z, and_zr, lN_e, nI_clamp, nx_shr, Nat.reducePow, bI_0, bI_1, bI_z, bI_o, bI_or, n01, nI_add, pk_mul, nx_and, nx_or, nx_dif, lx_and, lx_or, lx_dif, Bool.not_eq_true, Bool.not_eq_false, Bool.true_eq_false, Bool.false_eq_true, ss_0 hp2, m2, ar_r, false_and, if_false]
    rw [← hQ]
    refine ⟨by rw [e]; rfl, ?_, Or.inl ⟨e, FR.i (f2.mono fun _ _ q => Or.inl q) (Or.inr ⟨rfl, rfl⟩), ?_, ai_y⟩⟩
    · obtain ⟨c, a2⟩ := a2
      exact ⟨c, a2.i (by omega)⟩
    · exact GC_fr g2 (FR.i (S := fun a k => a = 0 ∧ k = 3) (FR.refl _ _) ⟨rfl, rfl⟩) fun a k q z => by have := q.1; omega
theorem c_46f (hp : SHP h) (gc : GC h 19 (A, I, b)) (hx : x < 2000) (nx : x ∉ A) (l12 : A.length = 12) : TC sc (d + 13) 46 [.ref 0, .int (nI x)] h fun q h' => q = .inl (some (.int (nI 0))) ∧ FR h h' (SG 19) ∧ GC h' 19 (A, I, b) := by
  generalize hQ : (fun (q : Rs) (h' : AH) => q = .inl (some (.int (nI 0))) ∧ FR h h' (SG 19) ∧ GC h' 19 (A, I, b)) = Q
  have a1 : ah_i h 19 1 = nI A.length := gc.1.1
  have i1 : ah_i h 19 3 = nI I.length := gc.2.1.1
  have k189 := fun Q => c_189f (sc := sc) (d := d + 9) (Q := Q) (gs_19 hp) gc.1 hx (idx_z.mpr nx) l12
  refine TC_e (ls := [.ref 0, .int (nI x), unk, unk]) (Nat.le_of_ble_eq_true rfl) rfl (wx_sound (S := []) 60 true _ _ _ _ ?_)
  simp +contextual (disch := omega) only [K46, wx_t, wx_g, wJ_t, wJ_f, wI_s, CI, CL, C01, aftC_v, aftC_n, true_or, or_true, true_and, and_true, inS_n, inS_c, pI_c, pL_c, pA_c, pV_c, pE_c, pQ_s, pQ_n, pQ_r, cm_eq', cm_ne', cm_lt', cm_ge', cm_gt', cm_le', List.getD_cons_zero, List.getD_cons_succ, Nat.reduceAdd, Nat.reduceBEq, Bool.false_or, Bool.or_false, Bool.true_or, Int.reduceToNat, s_iload, s_lload, s_aload, s_istore, s_astore, s_lstore, s_iconst, s_sipush, s_aconst_null, s_iadd, s_isub, s_imul, s_iand, s_ior, s_ixor, s_idiv, s_irem, s_ishl, s_ishr, s_iushr, s_ladd, s_lsub, s_land, s_lor, s_lxor, s_lneg, s_lshl, s_lshr, s_lushr, s_i2l, s_l2i, s_lcmp, s_dup, s_pop, s_dup2, s_i2c, s_i2s, s_monitorenter, s_ifCond, s_if_icmp, s_ifnull, s_goto, s_iinc, s_tableswitch, s_ireturn, s_freturn, s_lreturn, s_areturn, s_return_, s_ldc, s_getfield, s_putfield, s_iaload, s_iastore, s_laload, s_lastore, s_baload, s_bastore, s_aaload, s_aastore, s_arraylength, s_newarray, s_anewarray, s_new, s_invokestatic, s_invokespecial, s_invokevirtual, fvl_0, fvl_1, fvl_2, fvl_3, fp_0, fp_1, fp_2, fp_3, rf_s, rf_n, isRf_b, knw_b, isLg_b, popA_0, popA_s, st1_0, st1_s, st2_e, set_0, set_s, aftC_e, hxP_s, hxP_n, iteF, iteT, bft, im_t, im_f, nt_f, nt_t, Nat.reduceDiv, Nat.reduceMod, Nat.reduceLeDiff, Nat.reduceLT, Nat.reduceEqDiff, List.length_cons, List.length_nil, Nat.zero_add, Nat.reduceSub, List.cons_append, List.nil_append, ak_i, az_i, ar_i, al_i, ai_i, ak_l, az_l, ar_l, al_l, ai_l, ak_r, az_r, ar_r, al_r, ai_r, pk_m1, reduceCtorEq, msk_tb, mskL, Bool.and_eq_true, decide_eq_true_eq, lg_0, lg_t, lg_g, lg_e, lg_l, tb_z, Nat.mod_eq_of_lt, lN_1s, and_ze, brT, brF, brN, vpT, a4095, a63, nI_e, nI_l', nI_t', dif_z, and_z, and_zr, lN_e, nI_clamp, nx_shr, Nat.reducePow, bI_0, bI_1, bI_z, bI_o, bI_or, n01, nI_add, pk_mul, nx_and, nx_or, nx_dif, lx_and, lx_or, lx_dif, Bool.not_eq_true, Bool.not_eq_false, Bool.true_eq_false, Bool.false_eq_true, ss_0 hp, ss_19 hp, a1, i1, k189, c_185 (gs_19 hp)]
  rw [← hQ]
  exact ⟨rfl, ((FR.refl _ _).i ⟨by omega, by omega⟩).i ⟨by omega, by omega⟩, GC_back (gxt.refl (A, I, b)) gc⟩
theorem c_46 (hp : SHP h) (ra : RA h 2 m Ro) (hm : ah_i h 0 3 = nI m) (gc : GC h 19 (A, I, b)) (ca : ∃ c, CA h 22 c) (hx : x < 2000) (nx : x ∉ A) (l12 : A.length < 12) : TC sc (d + 13) 46 [.ref 0, .int (nI x)] h fun q h' => q = .inl (some (.int (bI (gal Ro m 62 (A ++ [x], I, true)).2.2))) ∧ FR h h' (SG 19) ∧ (∃ c, CA h' 22 c) ∧ ((gal Ro m 62 (A ++ [x], I, true)).2.2 = true ∧ GC h' 19 (gal Ro m 62 (A ++ [x], I, true)) ∨ (gal Ro m 62 (A ++ [x], I, true)).2.2 = false ∧ ∃ b', GC h' 19 (A, I, b')) := by
  have X := gal_x Ro m 62 (A ++ [x], I, true)
  have k189 := fun Q => c_189 (sc := sc) (d := d + 9) (Q := Q) (gs_19 hp) gc.1 hx (idx_z.mpr nx) l12
  have f1 : FR h (ap_i (ap_i h (19 + 1) A.length (nI x)) 19 1 (nI (A.length + 1))) (SG 19) := ((FR.refl _ _).i ⟨by omega, by omega⟩).i ⟨by omega, by omega⟩
  have hp1 := hp.fr f1
  have g1 := GC_add gc hx l12
  obtain ⟨c, ca⟩ := ca
  have H := c_190 (sc := sc) (d := d) (Or.inl rfl) (gs_19 hp1) (ra.fr f1 (sg_w (Or.inl rfl))) g1 ⟨c, (ca.i (by omega)).i (by omega)⟩
  generalize gal Ro m 62 (A ++ [x], I, true) = S' at X H ⊢
  generalize hQ : (fun (q : Rs) (h' : AH) => q = .inl (some (.int (bI S'.2.2))) ∧ FR h h' (SG 19) ∧ (∃ c, CA h' 22 c) ∧ (S'.2.2 = true ∧ GC h' 19 S' ∨ S'.2.2 = false ∧ ∃ b', GC h' 19 (A, I, b'))) = Q
  have a1 : ah_i h 19 1 = nI A.length := gc.1.1
  have i1 : ah_i h 19 3 = nI I.length := gc.2.1.1
  refine TC_e (ls := [.ref 0, .int (nI x), unk, unk]) (Nat.le_of_ble_eq_true rfl) rfl (wx_sound (S := []) 60 true _ _ _ _ ?_)
  simp +contextual (disch := omega) only [K46, wx_t, wx_g, wJ_t, wJ_f, wI_s, CI, CL, C01, aftC_v, aftC_n, true_or, or_true, true_and, and_true, inS_n, inS_c, pI_c, pL_c, pA_c, pV_c, pE_c, pQ_s, pQ_n, pQ_r, cm_eq', cm_ne', cm_lt', cm_ge', cm_gt', cm_le', List.getD_cons_zero, List.getD_cons_succ, Nat.reduceAdd, Nat.reduceBEq, Bool.false_or, Bool.or_false, Bool.true_or, Int.reduceToNat, s_iload, s_lload, s_aload, s_istore, s_astore, s_lstore, s_iconst, s_sipush, s_aconst_null, s_iadd, s_isub, s_imul, s_iand, s_ior, s_ixor, s_idiv, s_irem, s_ishl, s_ishr, s_iushr, s_ladd, s_lsub, s_land, s_lor, s_lxor, s_lneg, s_lshl, s_lshr, s_lushr, s_i2l, s_l2i, s_lcmp, s_dup, s_pop, s_dup2, s_i2c, s_i2s, s_monitorenter, s_ifCond, s_if_icmp, s_ifnull, s_goto, s_iinc, s_tableswitch, s_ireturn, s_freturn, s_lreturn, s_areturn, s_return_, s_ldc, s_getfield, s_putfield, s_iaload, s_iastore, s_laload, s_lastore, s_baload, s_bastore, s_aaload, s_aastore, s_arraylength, s_newarray, s_anewarray, s_new, s_invokestatic, s_invokespecial, s_invokevirtual, fvl_0, fvl_1, fvl_2, fvl_3, fp_0, fp_1, fp_2, fp_3, rf_s, rf_n, isRf_b, knw_b, isLg_b, popA_0, popA_s, st1_0, st1_s, st2_e, set_0, set_s, aftC_e, hxP_s, hxP_n, iteF, iteT, bft, im_t, im_f, nt_f, nt_t, Nat.reduceDiv, Nat.reduceMod, Nat.reduceLeDiff, Nat.reduceLT, Nat.reduceEqDiff, List.length_cons, List.length_nil, Nat.zero_add, Nat.reduceSub, List.cons_append, List.nil_append, ak_i, az_i, ar_i, al_i, ai_i, ak_l, az_l, ar_l, al_l, ai_l, ak_r, az_r, ar_r, al_r, ai_r, pk_m1, reduceCtorEq, msk_tb, mskL, Bool.and_eq_true, decide_eq_true_eq, lg_0, lg_t, lg_g, lg_e, lg_l, tb_z, Nat.mod_eq_of_lt, lN_1s, and_ze, brT, brF, brN, vpT, a4095, a63, nI_e, nI_l', nI_t', dif_z, and_z, and_zr, lN_e, nI_clamp, nx_shr, Nat.reducePow, bI_0, bI_1, bI_z, bI_o, bI_or, n01, nI_add, pk_mul, nx_and, nx_or, nx_dif, lx_and, lx_or, lx_dif, Bool.not_eq_true, Bool.not_eq_false, Bool.true_eq_false, Bool.false_eq_true, ss_0 hp, ss_19 hp, a1, i1, hm, k189, false_and, if_false]
  refine TC_mono H ?_
  rintro q h2 ⟨rfl, f2, g2, a2⟩
  have f3 := f1.trans f2 fun _ _ q => q
  have hp2 := hp.fr f3
  cases e : S'.2.2
  · simp +contextual (disch := omega) only [K46, wx_t, wx_g, wJ_t, wJ_f, wI_s, CI, CL, C01, aftC_v, aftC_n, true_or, or_true, true_and, and_true, inS_n, inS_c, pI_c, pL_c, pA_c, pV_c, pE_c, pQ_s, pQ_n, pQ_r, cm_eq', cm_ne', cm_lt', cm_ge', cm_gt', cm_le', List.getD_cons_zero, List.getD_cons_succ, Nat.reduceAdd, Nat.reduceBEq, Bool.false_or, Bool.or_false, Bool.true_or, Int.reduceToNat, s_iload, s_lload, s_aload, s_istore, s_astore, s_lstore, s_iconst, s_sipush, s_aconst_null, s_iadd, s_isub, s_imul, s_iand, s_ior, s_ixor, s_idiv, s_irem, s_ishl, s_ishr, s_iushr, s_ladd, s_lsub, s_land, s_lor, s_lxor, s_lneg, s_lshl, s_lshr, s_lushr, s_i2l, s_l2i, s_lcmp, s_dup, s_pop, s_dup2, s_i2c, s_i2s, s_monitorenter, s_ifCond, s_if_icmp, s_ifnull, s_goto, s_iinc, s_tableswitch, s_ireturn, s_freturn, s_lreturn, s_areturn, s_return_, s_ldc, s_getfield, s_putfield, s_iaload, s_iastore, s_laload, s_lastore, s_baload, s_bastore, s_aaload, s_aastore, s_arraylength, s_newarray, s_anewarray, s_new, s_invokestatic, s_invokespecial, s_invokevirtual, fvl_0, fvl_1, fvl_2, fvl_3, fp_0, fp_1, fp_2, fp_3, rf_s, rf_n, isRf_b, knw_b, isLg_b, popA_0, popA_s, st1_0, st1_s, st2_e, set_0, set_s, aftC_e, hxP_s, hxP_n, iteF, iteT, bft, im_t, im_f, nt_f, nt_t, Nat.reduceDiv, Nat.reduceMod, Nat.reduceLeDiff, Nat.reduceLT, Nat.reduceEqDiff, List.length_cons, List.length_nil, Nat.zero_add, Nat.reduceSub, List.cons_append, List.nil_append, ak_i, az_i, ar_i, al_i, ai_i, ak_l, az_l, ar_l, al_l, ai_l, ak_r, az_r, ar_r, al_r, ai_r, pk_m1, reduceCtorEq, msk_tb, mskL, Bool.and_eq_true, decide_eq_true_eq, lg_0, lg_t, lg_g, lg_e, lg_l, tb_z, Nat.mod_eq_of_lt, lN_1s, and_ze, brT, brF, brN, vpT, a4095, a63, nI_e, nI_l', nI_t', dif_z, and_z, and_zr, lN_e, nI_clamp, nx_shr, Nat.reducePow, bI_0, bI_1, bI_z, bI_o, bI_or, n01, nI_add, pk_mul, nx_and, nx_or, nx_dif, lx_and, lx_or, lx_dif, Bool.not_eq_true, Bool.not_eq_false, Bool.true_eq_false, Bool.false_eq_true, ss_0 hp2, ss_19 hp2, c_185 (gs_19 hp2)]
    rw [← hQ]
    obtain ⟨⟨B, e1⟩, ⟨J, e2⟩, _⟩ := X
    obtain ⟨A', I', b'⟩ := S'
    have e1 : A' = A ++ ([x] ++ B) := by rw [← List.append_assoc]; exact e1
    cases e1
    cases e2
    obtain ⟨c, a2⟩ := a2
    exact ⟨by rw [e]; rfl, (f3.i ⟨by omega, by omega⟩).i ⟨by omega, by omega⟩, ⟨c, (a2.i (by omega)).i (by omega)⟩, Or.inr ⟨e, b', GC_cut g2⟩⟩
  · simp +contextual (disch := omega) only [K46, wx_t, wx_g, wJ_t, wJ_f, wI_s, CI, CL, C01, aftC_v, aftC_n, true_or, or_true, true_and, and_true, inS_n, inS_c, pI_c, pL_c, pA_c, pV_c, pE_c, pQ_s, pQ_n, pQ_r, cm_eq', cm_ne', cm_lt', cm_ge', cm_gt', cm_le', List.getD_cons_zero, List.getD_cons_succ, Nat.reduceAdd, Nat.reduceBEq, Bool.false_or, Bool.or_false, Bool.true_or, Int.reduceToNat, s_iload, s_lload, s_aload, s_istore, s_astore, s_lstore, s_iconst, s_sipush, s_aconst_null, s_iadd, s_isub, s_imul, s_iand, s_ior, s_ixor, s_idiv, s_irem, s_ishl, s_ishr, s_iushr, s_ladd, s_lsub, s_land, s_lor, s_lxor, s_lneg, s_lshl, s_lshr, s_lushr, s_i2l, s_l2i, s_lcmp, s_dup, s_pop, s_dup2, s_i2c, s_i2s, s_monitorenter, s_ifCond, s_if_icmp, s_ifnull, s_goto, s_iinc, s_tableswitch, s_ireturn, s_freturn, s_lreturn, s_areturn, s_return_, s_ldc, s_getfield, s_putfield, s_iaload, s_iastore, s_laload, s_lastore, s_baload, s_bastore, s_aaload, s_aastore, s_arraylength, s_newarray, s_anewarray, s_new, s_invokestatic, s_invokespecial, s_invokevirtual, fvl_0, fvl_1, fvl_2, fvl_3, fp_0, fp_1, fp_2, fp_3, rf_s, rf_n, isRf_b, knw_b, isLg_b, popA_0, popA_s, st1_0, st1_s, st2_e, set_0, set_s, aftC_e, hxP_s, hxP_n, iteF, iteT, bft, im_t, im_f, nt_f, nt_t, Nat.reduceDiv, Nat.reduceMod, Nat.reduceLeDiff, Nat.reduceLT, Nat.reduceEqDiff, List.length_cons, List.length_nil, Nat.zero_add, Nat.reduceSub, List.cons_append, List.nil_append, ak_i, az_i, ar_i, al_i, ai_i, ak_l, az_l, ar_l, al_l, ai_l, ak_r, az_r, ar_r, al_r, ai_r, pk_m1, reduceCtorEq, msk_tb, mskL, Bool.and_eq_true, decide_eq_true_eq, lg_0, lg_t, lg_g, lg_e, lg_l, tb_z, Nat.mod_eq_of_lt, lN_1s, and_ze, brT, brF, brN, vpT, a4095, a63, nI_e, nI_l', nI_t', dif_z, and_z, and_zr, lN_e, nI_clamp, nx_shr, Nat.reducePow, bI_0, bI_1, bI_z, bI_o, bI_or, n01, nI_add, pk_mul, nx_and, nx_or, nx_dif, lx_and, lx_or, lx_dif, Bool.not_eq_true, Bool.not_eq_false, Bool.true_eq_false, Bool.false_eq_true, ss_0 hp2]
    rw [← hQ]
    exact ⟨by rw [e]; rfl, f3, a2, Or.inl ⟨e, g2⟩⟩
theorem c_172 (hp : SHP h) {X a : Nat} (h0 : ah_i h 27 0 = nI X) (hX : X < 2 ^ 31) (ha : a < 31) {Q : Rs → AH → Prop} : TC sc (d + 2) 172 [.ref 27, .int (nI a)] h Q ↔ Q (.inl (some (.int (bI (X.testBit a))))) h := TC_of (fun Q hq => by
  refine TC_e (ls := [.ref 27, .int (nI a)]) (Nat.le_of_ble_eq_true rfl) rfl (wx_sound (S := []) 60 true _ _ _ _ ?_)
  simp +contextual (disch := omega) only [K172, wx_t, wx_g, wJ_t, wJ_f, wI_s, CI, CL, C01, aftC_v, aftC_n, true_or, or_true, true_and, and_true, inS_n, inS_c, pI_c, pL_c, pA_c, pV_c, pE_c, pQ_s, pQ_n, pQ_r, cm_eq', cm_ne', cm_lt', cm_ge', cm_gt', cm_le', List.getD_cons_zero, List.getD_cons_succ, Nat.reduceAdd, Nat.reduceBEq, Bool.false_or, Bool.or_false, Bool.true_or, Int.reduceToNat, s_iload, s_lload, s_aload, s_istore, s_astore, s_lstore, s_iconst, s_sipush, s_aconst_null, s_iadd, s_isub, s_imul, s_iand, s_ior, s_ixor, s_idiv, s_irem, s_ishl, s_ishr, s_iushr, s_ladd, s_lsub, s_land, s_lor, s_lxor, s_lneg, s_lshl, s_lshr, s_lushr, s_i2l, s_l2i, s_lcmp, s_dup, s_pop, s_dup2, s_i2c, s_i2s, s_monitorenter, s_ifCond, s_if_icmp, s_ifnull, s_goto, s_iinc, s_tableswitch, s_ireturn, s_freturn, s_lreturn, s_areturn, s_return_, s_ldc, s_getfield, s_putfield, s_iaload, s_iastore, s_laload, s_lastore, s_baload, s_bastore, s_aaload, s_aastore, s_arraylength, s_newarray, s_anewarray, s_new, s_invokestatic, s_invokespecial, s_invokevirtual, fvl_0, fvl_1, fvl_2, fvl_3, fp_0, fp_1, fp_2, fp_3, rf_s, rf_n, isRf_b, knw_b, isLg_b, popA_0, popA_s, st1_0, st1_s, st2_e, set_0, set_s, aftC_e, hxP_s, hxP_n, iteF, iteT, bft, im_t, im_f, nt_f, nt_t, Nat.reduceDiv, Nat.reduceMod, Nat.reduceLeDiff, Nat.reduceLT, Nat.reduceEqDiff, List.length_cons, List.length_nil, Nat.zero_add, Nat.reduceSub, List.cons_append, List.nil_append, ak_i, az_i, ar_i, al_i, ai_i, ak_l, az_l, ar_l, al_l, ai_l, ak_r, az_r, ar_r, al_r, ai_r, pk_m1, reduceCtorEq, msk_tb, mskL, Bool.and_eq_true, decide_eq_true_eq, lg_0, lg_t, lg_g, lg_e, lg_l, tb_z, Nat.mod_eq_of_lt, lN_1s, and_ze, brT, brF, brN, vpT, a4095, a63, nI_e, nI_l', nI_t', dif_z, and_z, and_zr, lN_e, nI_clamp, nx_shr, Nat.reducePow, bI_0, bI_1, bI_z, bI_o, bI_or, n01, nI_add, pk_mul, nx_and, nx_or, nx_dif, lx_and, lx_or, lx_dif, Bool.not_eq_true, Bool.not_eq_false, Bool.true_eq_false, Bool.false_eq_true, ss_27 hp, h0, c_55 X a hX ha, b_or]
  exact hq) Q
theorem d_18 (hp : SHP h) (ra : RA h 2 m Ro) (hm : ah_i h 0 3 = nI m) (gc : GC h 19 (A, I, b)) (c6 : ∃ c, CA h 26 c) (b5 : ∃ b, ah_i h 23 5 = bI b) {X : Nat} (h0 : ah_i h 27 0 = nI X) (hX : X < 2 ^ 31) (nd : A.Nodup) : TC sc (d + 13) 18 [.ref 0] h fun q h' => q = .inl (some (.int (nI ((gal Ro m 62 (exl A X A.length, [], true)).2.1.length + 100 * (gal Ro m 62 (exl A X A.length, [], true)).1.length)))) ∧ FR h h' (SG 23) ∧ (∃ c, CA h' 26 c) ∧ ∃ b, ah_i h' 23 5 = bI b := by
  generalize hQ : (fun (q : Rs) (h' : AH) => q = .inl (some (.int (nI ((gal Ro m 62 (exl A X A.length, [], true)).2.1.length + 100 * (gal Ro m 62 (exl A X A.length, [], true)).1.length)))) ∧ FR h h' (SG 23) ∧ (∃ c, CA h' 26 c) ∧ ∃ b, ah_i h' 23 5 = bI b) = Q
  have a12 : A.length ≤ 12 := gc.1.2.1
  obtain ⟨b5, o5⟩ := b5
  have g9 : ∀ a k, SG 19 a k → ¬ SG 23 a k := fun a k q z => by have := q.2; have := z.1; omega
  have lp : ∀ k, k ≤ A.length → ∀ h1, FR h h1 (SG 23) → GC h1 23 (exl A X k, [], !b5) → (∃ c, CA h1 26 c) → TT sc (d + 12) 18 Q 7 [.ref 0, .int (nI k)] [] h1 := by
    refine up_to fun k hk ih => ?_
    intro h1 f1 g1 a1
    have hp1 := hp.fr f1
    have gc1 := GC_fr gc f1 g9
    have x1 : ah_i h1 27 0 = nI X := (f1.ci (fun z => by have := z.2; omega)).trans h0
    have n1 : ah_i h1 19 1 = nI A.length := gc1.1.1
    by_cases e : k < A.length
    · have k172 := fun Q => c_172 (sc := sc) (d := d + 10) (Q := Q) (a := k) hp1 x1 hX (by omega)
      obtain ⟨_, l1, nx⟩ := exl_n (X := X) nd (k := k) (by omega)
      have v := gc1.1.2.2 k e
      by_cases t : X.testBit k = true
      · simp only [t] at k172
        have k189 := fun Q => c_189 (sc := sc) (d := d + 9) (Q := Q) (gs_23 hp1) g1.1 v.2 (idx_z.mpr (nx e)) (by show (exl A X k).length < 12; omega)
        have k186 := fun Q => c_186 (sc := sc) (d := d + 11) (Q := Q) (gs_19 hp1) gc1.1 e
        refine wx_sound (S := [7]) 60 true _ _ _ _ ?_
        simp +contextual (disch := omega) only [K18, wx_t, wx_g, wJ_t, wJ_f, wI_s, CI, CL, C01, aftC_v, aftC_n, true_or, or_true, true_and, and_true, inS_n, inS_c, pI_c, pL_c, pA_c, pV_c, pE_c, pQ_s, pQ_n, pQ_r, cm_eq', cm_ne', cm_lt', cm_ge', cm_gt', cm_le', List.getD_cons_zero, List.getD_cons_succ, Nat.reduceAdd, Nat.reduceBEq, Bool.false_or, Bool.or_false, Bool.true_or, Int.reduceToNat, s_iload, s_lload, s_aload, s_istore, s_astore, s_lstore, s_iconst, s_sipush, s_aconst_null, s_iadd, s_isub, s_imul, s_iand, s_ior, s_ixor, s_idiv, s_irem, s_ishl, s_ishr, s_iushr, s_ladd, s_lsub, s_land, s_lor, s_lxor, s_lneg, s_lshl, s_lshr, s_lushr, s_i2l, s_l2i, s_lcmp, s_dup, s_pop, s_dup2, s_i2c, s_i2s, s_monitorenter, s_ifCond, s_if_icmp, s_ifnull, s_goto, s_iinc, s_tableswitch, s_ireturn, s_freturn, s_lreturn, s_areturn, s_return_, s_ldc, s_getfield, s_putfield, s_iaload, s_iastore, s_laload, s_lastore, s_baload, s_bastore, s_aaload, s_aastore, s_arraylength, s_newarray, s_anewarray, s_new, s_invokestatic, s_invokespecial, s_invokevirtual, fvl_0, fvl_1, fvl_2, fvl_3, fp_0, fp_1, fp_2, fp_3, rf_s, rf_n, isRf_b, knw_b, isLg_b, popA_0, popA_s, st1_0, st1_s, st2_e, set_0, set_s, aftC_e, hxP_s, hxP_n, iteF, iteT, bft, im_t, im_f, nt_f, nt_t, Nat.reduceDiv, Nat.reduceMod, Nat.reduceLeDiff, Nat.reduceLT, Nat.reduceEqDiff, List.length_cons, List.length_nil, Nat.zero_add, Nat.reduceSub, List.cons_append, List.nil_append, ak_i, az_i, ar_i, al_i, ai_i, ak_l, az_l, ar_l, al_l, ai_l, ak_r, az_r, ar_r, al_r, ai_r, pk_m1, reduceCtorEq, msk_tb, mskL, Bool.and_eq_true, decide_eq_true_eq, lg_0, lg_t, lg_g, lg_e, lg_l, tb_z, Nat.mod_eq_of_lt, lN_1s, and_ze, brT, brF, brN, vpT, a4095, a63, nI_e, nI_l', nI_t', dif_z, and_z, and_zr, lN_e, nI_clamp, nx_shr, Nat.reducePow, bI_0, bI_1, bI_z, bI_o, bI_or, n01, nI_add, pk_mul, nx_and, nx_or, nx_dif, lx_and, lx_or, lx_dif, Bool.not_eq_true, Bool.not_eq_false, Bool.true_eq_false, Bool.false_eq_true, ss_0 hp1, ss_19 hp1, ss_23 hp1, ss_27 hp1, n1, k172, k186, k189]
        obtain ⟨c, a1⟩ := a1
        refine ih e _ ((f1.i ⟨by omega, by omega⟩).i ⟨by omega, by omega⟩) ?_ ⟨c, (a1.i (by omega)).i (by omega)⟩
        rw [exl_s, if_pos t]
        exact GC_add g1 v.2 (by omega)
      · have t : X.testBit k = false := by simpa using t
        simp only [t] at k172
        refine wx_sound (S := [7]) 60 true _ _ _ _ ?_
        simp +contextual (disch := omega) only [K18, wx_t, wx_g, wJ_t, wJ_f, wI_s, CI, CL, C01, aftC_v, aftC_n, true_or, or_true, true_and, and_true, inS_n, inS_c, pI_c, pL_c, pA_c, pV_c, pE_c, pQ_s, pQ_n, pQ_r, cm_eq', cm_ne', cm_lt', cm_ge', cm_gt', cm_le', List.getD_cons_zero, List.getD_cons_succ, Nat.reduceAdd, Nat.reduceBEq, Bool.false_or, Bool.or_false, Bool.true_or, Int.reduceToNat, s_iload, s_lload, s_aload, s_istore, s_astore, s_lstore, s_iconst, s_sipush, s_aconst_null, s_iadd, s_isub, s_imul, s_iand, s_ior, s_ixor, s_idiv, s_irem, s_ishl, s_ishr, s_iushr, s_ladd, s_lsub, s_land, s_lor, s_lxor, s_lneg, s_lshl, s_lshr, s_lushr, s_i2l, s_l2i, s_lcmp, s_dup, s_pop, s_dup2, s_i2c, s_i2s, s_monitorenter, s_ifCond, s_if_icmp, s_ifnull, s_goto, s_iinc, s_tableswitch, s_ireturn, s_freturn, s_lreturn, s_areturn, s_return_, s_ldc, s_getfield, s_putfield, s_iaload, s_iastore, s_laload, s_lastore, s_baload, s_bastore, s_aaload, s_aastore, s_arraylength, s_newarray, s_anewarray, s_new, s_invokestatic, s_invokespecial, s_invokevirtual, fvl_0, fvl_1, fvl_2, fvl_3, fp_0, fp_1, fp_2, fp_3, rf_s, rf_n, isRf_b, knw_b, isLg_b, popA_0, popA_s, st1_0, st1_s, st2_e, set_0, set_s, aftC_e, hxP_s, hxP_n, iteF, iteT, bft, im_t, im_f, nt_f, nt_t, Nat.reduceDiv, Nat.reduceMod, Nat.reduceLeDiff, Nat.reduceLT, Nat.reduceEqDiff, List.length_cons, List.length_nil, Nat.zero_add, Nat.reduceSub, List.cons_append, List.nil_append, ak_i, az_i, ar_i, al_i, ai_i, ak_l, az_l, ar_l, al_l, ai_l, ak_r, az_r, ar_r, al_r, ai_r, pk_m1, reduceCtorEq, msk_tb, mskL, Bool.and_eq_true, decide_eq_true_eq, lg_0, lg_t, lg_g, lg_e, lg_l, tb_z, Nat.mod_eq_of_lt, lN_1s, and_ze, brT, brF, brN, vpT, a4095, a63, nI_e, nI_l', nI_t', dif_z, and_z, and_zr, lN_e, nI_clamp, nx_shr, Nat.reducePow, bI_0, bI_1, bI_z, bI_o, bI_or, n01, nI_add, pk_mul, nx_and, nx_or, nx_dif, lx_and, lx_or, lx_dif, Bool.not_eq_true, Bool.not_eq_false, Bool.true_eq_false, Bool.false_eq_true, ss_0 hp1, ss_19 hp1, ss_23 hp1, ss_27 hp1, n1, k172]
        refine ih e h1 f1 ?_ a1
        rw [exl_s, if_neg (by rw [t]; exact Bool.noConfusion)]
        exact g1
    · have : k = A.length := by omega
      subst this
      have m1 : ah_i h1 0 3 = nI m := (f1.ci (fun z => by have := z.1; omega)).trans hm
      have H := c_190 (sc := sc) (d := d) (Or.inr rfl) (gs_23 hp1) (ra.fr f1 (sg_w (Or.inr rfl))) g1 a1
      generalize gal Ro m 62 (exl A X A.length, [], true) = S' at H hQ
      refine wx_sound (S := [7]) 60 true _ _ _ _ ?_
      simp +contextual (disch := omega) only [K18, wx_t, wx_g, wJ_t, wJ_f, wI_s, CI, CL, C01, aftC_v, aftC_n, true_or, or_true, true_and, and_true, inS_n, inS_c, pI_c, pL_c, pA_c, pV_c, pE_c, pQ_s, pQ_n, pQ_r, cm_eq', cm_ne', cm_lt', cm_ge', cm_gt', cm_le', List.getD_cons_zero, List.getD_cons_succ, Nat.reduceAdd, Nat.reduceBEq, Bool.false_or, Bool.or_false, Bool.true_or, Int.reduceToNat, s_iload, s_lload, s_aload, s_istore, s_astore, s_lstore, s_iconst, s_sipush, s_aconst_null, s_iadd, s_isub, s_imul, s_iand, s_ior, s_ixor, s_idiv, s_irem, s_ishl, s_ishr, s_iushr, s_ladd, s_lsub, s_land, s_lor, s_lxor, s_lneg, s_lshl, s_lshr, s_lushr, s_i2l, s_l2i, s_lcmp, s_dup, s_pop, s_dup2, s_i2c, s_i2s, s_monitorenter, s_ifCond, s_if_icmp, s_ifnull, s_goto, s_iinc, s_tableswitch, s_ireturn, s_freturn, s_lreturn, s_areturn, s_return_, s_ldc, s_getfield, s_putfield, s_iaload, s_iastore, s_laload, s_lastore, s_baload, s_bastore, s_aaload, s_aastore, s_arraylength, s_newarray, s_anewarray, s_new, s_invokestatic, s_invokespecial, s_invokevirtual, fvl_0, fvl_1, fvl_2, fvl_3, fp_0, fp_1, fp_2, fp_3, rf_s, rf_n, isRf_b, knw_b, isLg_b, popA_0, popA_s, st1_0, st1_s, st2_e, set_0, set_s, aftC_e, hxP_s, hxP_n, iteF, iteT, bft, im_t, im_f, nt_f, nt_t, Nat.reduceDiv, Nat.reduceMod, Nat.reduceLeDiff, Nat.reduceLT, Nat.reduceEqDiff, List.length_cons, List.length_nil, Nat.zero_add, Nat.reduceSub, List.cons_append, List.nil_append, ak_i, az_i, ar_i, al_i, ai_i, ak_l, az_l, ar_l, al_l, ai_l, ak_r, az_r, ar_r, al_r, ai_r, pk_m1, reduceCtorEq, msk_tb, mskL, Bool.and_eq_true, decide_eq_true_eq, lg_0, lg_t, lg_g, lg_e, lg_l, tb_z, Nat.mod_eq_of_lt, lN_1s, and_ze, brT, brF, brN, vpT, a4095, a63, nI_e, nI_l', nI_t', dif_z, and_z, and_zr, lN_e, nI_clamp, nx_shr, Nat.reducePow, bI_0, bI_1, bI_z, bI_o, bI_or, n01, nI_add, pk_mul, nx_and, nx_or, nx_dif, lx_and, lx_or, lx_dif, Bool.not_eq_true, Bool.not_eq_false, Bool.true_eq_false, Bool.false_eq_true, ss_0 hp1, ss_19 hp1, ss_23 hp1, ss_27 hp1, n1, m1]
      refine TC_mono H ?_
      rintro q h2 ⟨rfl, f2, g2, a2⟩
      have f3 := f1.trans f2 fun _ _ q => q
      have hp2 := hp.fr f3
      have k184 := fun Q => c_184 (sc := sc) (d := d + 11) (Q := Q) (gs_23 hp2) g2.1 g2.2.1
      simp +contextual (disch := omega) only [K18, wx_t, wx_g, wJ_t, wJ_f, wI_s, CI, CL, C01, aftC_v, aftC_n, true_or, or_true, true_and, and_true, inS_n, inS_c, pI_c, pL_c, pA_c, pV_c, pE_c, pQ_s, pQ_n, pQ_r, cm_eq', cm_ne', cm_lt', cm_ge', cm_gt', cm_le', List.getD_cons_zero, List.getD_cons_succ, Nat.reduceAdd, Nat.reduceBEq, Bool.false_or, Bool.or_false, Bool.true_or, Int.reduceToNat, s_iload, s_lload, s_aload, s_istore, s_astore, s_lstore, s_iconst, s_sipush, s_aconst_null, s_iadd, s_isub, s_imul, s_iand, s_ior, s_ixor, s_idiv, s_irem, s_ishl, s_ishr, s_iushr, s_ladd, s_lsub, s_land, s_lor, s_lxor, s_lneg, s_lshl, s_lshr, s_lushr, s_i2l, s_l2i, s_lcmp, s_dup, s_pop, s_dup2, s_i2c, s_i2s, s_monitorenter, s_ifCond, s_if_icmp, s_ifnull, s_goto, s_iinc, s_tableswitch, s_ireturn, s_freturn, s_lreturn, s_areturn, s_return_, s_ldc, s_getfield, s_putfield, s_iaload, s_iastore, s_laload, s_lastore, s_baload, s_bastore, s_aaload, s_aastore, s_arraylength, s_newarray, s_anewarray, s_new, s_invokestatic, s_invokespecial, s_invokevirtual, fvl_0, fvl_1, fvl_2, fvl_3, fp_0, fp_1, fp_2, fp_3, rf_s, rf_n, isRf_b, knw_b, isLg_b, popA_0, popA_s, st1_0, st1_s, st2_e, set_0, set_s, aftC_e, hxP_s, hxP_n, iteF, iteT, bft, im_t, im_f, nt_f, nt_t, Nat.reduceDiv, Nat.reduceMod, Nat.reduceLeDiff, Nat.reduceLT, Nat.reduceEqDiff, List.length_cons, List.length_nil, Nat.zero_add, Nat.reduceSub, List.cons_append, List.nil_append, ak_i, az_i, ar_i, al_i, ai_i, ak_l, az_l, ar_l, al_l, ai_l, ak_r, az_r, ar_r, al_r, ai_r, pk_m1, reduceCtorEq, msk_tb, mskL, Bool.and_eq_true, decide_eq_true_eq, lg_0, lg_t, lg_g, lg_e, lg_l, tb_z, Nat.mod_eq_of_lt, lN_1s, and_ze, brT, brF, brN, vpT, a4095, a63, nI_e, nI_l', nI_t', dif_z, and_z, and_zr, lN_e, nI_clamp, nx_shr, Nat.reducePow, bI_0, bI_1, bI_z, bI_o, bI_or, n01, nI_add, pk_mul, nx_and, nx_or, nx_dif, lx_and, lx_or, lx_dif, Bool.not_eq_true, Bool.not_eq_false, Bool.true_eq_false, Bool.false_eq_true, ss_0 hp2, ss_23 hp2, k184]
      rw [← hQ]
      exact ⟨rfl, f3, a2, _, g2.2.2⟩
  obtain ⟨c, c6⟩ := c6
  refine TC_e (ls := [.ref 0, unk]) (Nat.le_of_ble_eq_true rfl) rfl (wx_sound (S := [7]) 60 true _ _ _ _ ?_)
  simp +contextual (disch := omega) only [K18, wx_t, wx_g, wJ_t, wJ_f, wI_s, CI, CL, C01, aftC_v, aftC_n, true_or, or_true, true_and, and_true, inS_n, inS_c, pI_c, pL_c, pA_c, pV_c, pE_c, pQ_s, pQ_n, pQ_r, cm_eq', cm_ne', cm_lt', cm_ge', cm_gt', cm_le', List.getD_cons_zero, List.getD_cons_succ, Nat.reduceAdd, Nat.reduceBEq, Bool.false_or, Bool.or_false, Bool.true_or, Int.reduceToNat, s_iload, s_lload, s_aload, s_istore, s_astore, s_lstore, s_iconst, s_sipush, s_aconst_null, s_iadd, s_isub, s_imul, s_iand, s_ior, s_ixor, s_idiv, s_irem, s_ishl, s_ishr, s_iushr, s_ladd, s_lsub, s_land, s_lor, s_lxor, s_lneg, s_lshl, s_lshr, s_lushr, s_i2l, s_l2i, s_lcmp, s_dup, s_pop, s_dup2, s_i2c, s_i2s, s_monitorenter, s_ifCond, s_if_icmp, s_ifnull, s_goto, s_iinc, s_tableswitch, s_ireturn, s_freturn, s_lreturn, s_areturn, s_return_, s_ldc, s_getfield, s_putfield, s_iaload, s_iastore, s_laload, s_lastore, s_baload, s_bastore, s_aaload, s_aastore, s_arraylength, s_newarray, s_anewarray, s_new, s_invokestatic, s_invokespecial, s_invokevirtual, fvl_0, fvl_1, fvl_2, fvl_3, fp_0, fp_1, fp_2, fp_3, rf_s, rf_n, isRf_b, knw_b, isLg_b, popA_0, popA_s, st1_0, st1_s, st2_e, set_0, set_s, aftC_e, hxP_s, hxP_n, iteF, iteT, bft, im_t, im_f, nt_f, nt_t, Nat.reduceDiv, Nat.reduceMod, Nat.reduceLeDiff, Nat.reduceLT, Nat.reduceEqDiff, List.length_cons, List.length_nil, Nat.zero_add, Nat.reduceSub, List.cons_append, List.nil_append, ak_i, az_i, ar_i, al_i, ai_i, ak_l, az_l, ar_l, al_l, ai_l, ak_r, az_r, ar_r, al_r, ai_r, pk_m1, reduceCtorEq, msk_tb, mskL, Bool.and_eq_true, decide_eq_true_eq, lg_0, lg_t, lg_g, lg_e, lg_l, tb_z, Nat.mod_eq_of_lt, lN_1s, and_ze, brT, brF, brN, vpT, a4095, a63, nI_e, nI_l', nI_t', dif_z, and_z, and_zr, lN_e, nI_clamp, nx_shr, Nat.reducePow, bI_0, bI_1, bI_z, bI_o, bI_or, n01, nI_add, pk_mul, nx_and, nx_or, nx_dif, lx_and, lx_or, lx_dif, Bool.not_eq_true, Bool.not_eq_false, Bool.true_eq_false, Bool.false_eq_true, ss_0 hp, ss_23 hp, c_185 (gs_23 hp)]
  refine lp 0 (Nat.zero_le _) _ (((FR.refl _ _).i ⟨by omega, by omega⟩).i ⟨by omega, by omega⟩) ?_ ⟨c, (c6.i (by omega)).i (by omega)⟩
  refine ⟨⟨?_, by show (0 : Nat) ≤ 12; omega, fun a ha => absurd ha (Nat.not_lt_zero _)⟩, ⟨?_, by show (0 : Nat) ≤ 60; omega, fun a ha => absurd ha (Nat.not_lt_zero _)⟩, ?_⟩
  · rw [ai_n (by omega), ai_y]; rfl
  · rw [ai_y]; rfl
  · rw [ai_n (by omega), ai_n (by omega), o5]
    cases b5 <;> rfl
end CLS
