/-! GROUNDING OF THE CLASS: ALL CONSTANTS OF A RULE -/
theorem tv_cg {x z : Nat} {c c' : Nat → Nat} (hx : VZ x) (h : ∀ u, vv x = u + 1 → c u = c' u) : tv x z c = tv x z c' := by
  rcases tm_cases hx with rfl | rfl | rfl | rfl | rfl | e | e
  · rfl
  · exact h 3 rfl
  · exact h 2 rfl
  · exact h 1 rfl
  · exact h 0 rfl
  · rw [tv_v.2.1 e.1 (by omega), tv_v.2.1 e.1 (by omega)]
  · rw [tv_v.2.2 e.1, tv_v.2.2 e.1, h (x - 25)]
    unfold vv
    rw [if_neg (by omega), if_neg (by omega), if_neg (by omega)]
    omega
/-- all is right with the constants below a variable -/
def chk (R : RW) (c : Nat → Nat) (v : Nat) (A : List Nat) : Prop := (∀ u, u < v → u < 4 → voc true R u = true → c u ≤ 8) ∧ (∀ k, k < R_n R 3 → ltv (R_a R 3 k) (R_b R 3 k) < v → cmv (R_p R 3 k) (tv (R_a R 3 k) 0 c) (tv (R_b R 3 k) 0 c) = true) ∧ ∀ k, k < R_n R 1 → ltv (R_a R 1 k) (R_b R 1 k) < v → bdc R c k ∈ A
theorem tv2_cg {R : RW} (o : R_ok 6 R) {l k v : Nat} (hl : l < 5) (hk : k < R_n R l) (lt : ltv (R_a R l k) (R_b R l k) < v) {c c' : Nat → Nat} (h : ∀ u, u < v → c u = c' u) : tv (R_a R l k) 0 c = tv (R_a R l k) 0 c' ∧ tv (R_b R l k) 0 c = tv (R_b R l k) 0 c' := by
  obtain ⟨va, vb, _⟩ := (o.lok (by omega) l hl).2 k hk
  unfold ltv at lt
  exact ⟨tv_cg va fun u hu => h u (by omega), tv_cg vb fun u hu => h u (by omega)⟩
theorem chk_cg {R : RW} (o : R_ok 6 R) {c c' : Nat → Nat} {v : Nat} {A : List Nat} (h : ∀ u, u < v → c u = c' u) (k : chk R c v A) : chk R c' v A := by
  refine ⟨fun u hu h4 q => by rw [← h u hu]; exact k.1 u hu h4 q, fun i hi lt => ?_, fun i hi lt => ?_⟩
  · obtain ⟨e1, e2⟩ := tv2_cg o (by omega) hi lt h
    rw [← e1, ← e2]; exact k.2.1 i hi lt
  · obtain ⟨e1, e2⟩ := tv2_cg o (by omega) hi lt h
    have := k.2.2 i hi lt
    unfold bdc gcd3 at *
    rw [← e1, ← e2]; exact this
theorem chk_mo {R : RW} {c : Nat → Nat} {v : Nat} {A B : List Nat} (h : ∀ x, x ∈ A → x ∈ B) (k : chk R c v A) : chk R c v B := ⟨k.1, k.2.1, fun i hi lt => h _ (k.2.2 i hi lt)⟩
theorem chk_0 (R : RW) (c : Nat → Nat) (A : List Nat) : chk R c 0 A := ⟨fun u hu => absurd hu (Nat.not_lt_zero _), fun k _ l => absurd l (Nat.not_lt_zero _), fun k _ l => absurd l (Nat.not_lt_zero _)⟩
theorem nofI {A : List Nat} {x : Nat} : nof (lat A) x 0 A.length ≠ 0 ↔ x ∈ A := by
  constructor
  · intro h
    exact Decidable.byContradiction fun q => h (idx_z.mpr q)
  · intro h z
    exact idx_z.mp z h
theorem chk_s {R : RW} {c : Nat → Nat} {v : Nat} {A : List Nat} (k : chk R c v A) (b : cnB R c v (lat A) A.length) (r : v < 4 → voc true R v = true → c v ≤ 8) : chk R c (v + 1) A := by
  refine ⟨fun u hu h4 q => ?_, fun i hi lt => ?_, fun i hi lt => ?_⟩
  · by_cases e : u = v
    · subst e; exact r h4 q
    · exact k.1 u (by omega) h4 q
  · by_cases e : ltv (R_a R 3 i) (R_b R 3 i) = v
    · exact b.1 i hi e
    · exact k.2.1 i hi (by omega)
  · by_cases e : ltv (R_a R 1 i) (R_b R 1 i) = v
    · exact nofI.mp (b.2 i hi e)
    · exact k.2.2 i hi (by omega)
theorem chk_4 {R : RW} (o : R_ok 6 R) {c : Nat → Nat} {A : List Nat} (k : chk R c 4 A) : cin R c fun x => x ∈ A := by
  refine ⟨fun v hv q => k.1 v hv hv q, fun i hi => k.2.1 i hi ?_, fun i hi => k.2.2 i hi ?_⟩
  · obtain ⟨va, vb, _⟩ := (o.lok (by omega) 3 (by omega)).2 i hi
    have := ltv_le va vb
    omega
  · obtain ⟨va, vb, _⟩ := (o.lok (by omega) 1 (by omega)).2 i hi
    have := ltv_le va vb
    omega
/-- what cannot be is no instance -/
theorem cnB_no {R : RW} (o : R_ok 6 R) {c c' : Nat → Nat} {v : Nat} {A : List Nat} (h : ∀ u, u < v + 1 → c u = c' u) (b : ¬ cnB R c v (lat A) A.length) : ¬ cin R c' fun x => x ∈ A := fun z => b (by
  refine ⟨fun k hk e => ?_, fun k hk e => ?_⟩
  · obtain ⟨e1, e2⟩ := tv2_cg o (by omega) hk (by omega) h
    rw [e1, e2]; exact z.2.1 k hk
  · obtain ⟨e1, e2⟩ := tv2_cg o (by omega) hk (by omega) h
    have := z.2.2 k hk
    unfold bdc at this
    refine nofI.mpr ?_
    unfold gcd3 at *
    rw [e1, e2]; exact this)
theorem gbd_no {R : RW} {n j : Nat} (hj : j ≤ 4) {c : Nat → Nat} {S : gS} (h : ∀ c', (∀ u, u < 4 - j → c' u = c u) → ¬ cin R c' fun x => x ∈ S.1) : gbd R n j c S = S :=
  gbd_P (P := fun T => T = S) R n j hj c (fun c' a _ _ T e => by rw [e]; exact gst_no fun z => h c' a z.2.1) S rfl
theorem hiR_e {R : RW} {v : Nat} : hiR R v ≤ hR R v ∧ (voc true R v = true → hiR R v ≤ 8) ∧ (voc true R v = false → hiR R v = hR R v) := by
  unfold hiR hR
  by_cases e : vall R v = true
  · rw [if_pos e, if_pos e]
    by_cases q : voc true R v = true
    · rw [if_pos q, q]
      refine ⟨Nat.min_le_left _ _, fun _ => Nat.min_le_right _ _, fun z => Bool.noConfusion z⟩
    · rw [if_neg q]
      exact ⟨Nat.le_refl _, fun z => absurd z q, fun _ => rfl⟩
  · rw [if_neg e, if_neg e]; exact ⟨Nat.le_refl _, fun _ => by omega, fun _ => rfl⟩
theorem hiR_8 {R : RW} {v : Nat} : hiR R v = hR R v ∨ hiR R v = 8 ∧ voc true R v = true := by
  unfold hiR hR
  by_cases e : vall R v = true
  · rw [if_pos e, if_pos e]
    by_cases q : voc true R v = true
    · rw [if_pos q]
      by_cases w : (if R_il R v = true then R_to R v else 9) ≤ 8
      · exact Or.inl (Nat.min_eq_left w)
      · exact Or.inr ⟨Nat.min_eq_right (by omega), q⟩
    · rw [if_neg q]; exact Or.inl rfl
  · rw [if_neg e, if_neg e]; exact Or.inl rfl
theorem loR_le {R : RW} {v : Nat} (o : R_ok 6 R) (hv : v < 4) : loR R v ≤ hR R v ∧ loR R v ≤ 9 := by
  unfold loR hR
  by_cases e : vall R v = true
  · rw [if_pos e, e]
    by_cases q : R_il R v = true
    · rw [if_pos q, q]
      have := o.2.2.2.2.2.2.1 v hv q
      exact ⟨this.1, by show R_fr R v ≤ 9; omega⟩
    · rw [if_neg q]
      have : R_il R v = false := by simpa using q
      rw [this]; exact ⟨Nat.zero_le _, Nat.zero_le _⟩
  · have : vall R v = false := by simpa using e
    rw [this]; exact ⟨Nat.zero_le _, Nat.zero_le _⟩
theorem gin_st {R : RW} {n : Nat} {c : Nat → Nat} {S : gS} (ok : S.2.2 = true) (h : cin R c fun x => x ∈ S.1) : gst R n c S = gin R n c S := by
  unfold gin
  by_cases e : tl4 n c ∈ S.2.1
  · rw [if_pos e]; exact gst_no fun z => z.2.2 e
  · rw [if_neg e]
    by_cases q : 60 ≤ S.2.1.length
    · rw [if_pos q]; exact gst_ov ⟨ok, h, e⟩ q
    · rw [if_neg q]; exact gst_yes ⟨ok, h, e⟩ (by omega)
theorem cup_ca {h : AH} {a v k : Nat} {c : Nat → Nat} (ca : CA h a c) (hk : k ≤ 9) : CA (ap_i h a v (nI k)) a (cup c v k) := by
  refine ⟨ca.1, ca.2.1, fun u hu => ?_⟩
  unfold cup
  by_cases e : u = v
  · rw [if_pos e, e, ai_y]; exact ⟨rfl, hk⟩
  · rw [if_neg e, ai_n (by omega)]; exact ca.2.2 u hu
theorem GC_ca {h : AH} {g k : Nat} {x : Int32} {S : gS} (gc : GC h g S) : GC (ap_i h (g + 3) k x) g S := by
  obtain ⟨⟨a1, a2, a3⟩, ⟨i1, i2, i3⟩, o⟩ := gc
  refine ⟨⟨?_, a2, fun a ha => ?_⟩, ⟨?_, i2, fun i hi => ?_⟩, ?_⟩
  · rw [ai_n (by omega)]; exact a1
  · rw [ai_n (by omega)]; exact a3 a ha
  · rw [ai_n (by omega)]; exact i1
  · rw [ai_n (by omega)]; exact i3 i hi
  · rw [ai_n (by omega)]; exact o
theorem CA_cl {h : AH} {a : Nat} {c : Nat → Nat} (ca : CA h a c) : CA h a (cl4 c) := ⟨ca.1, ca.2.1, fun u hu => by
  have : cl4 c u = c u := if_pos hu
  rw [this]; exact ca.2.2 u hu⟩
section CLS
variable {sc : (Nat → Int32) × Nat} {g n r : Nat} {R : RW}
theorem c_191 (ap : apt g r) (hn : n < 20) : ∀ j v, v + j = 4 → ∀ (d : Nat) (h : AH) (S : gS) (c : Nat → Nat), GSh h g → RU h r R → GC h g S → CA h (g + 3) c → S.2.2 = true → chk R c v S.1 → TC sc (d + 6 + j) 191 [.ref g, .ref r, .int (nI n), .int (nI v)] h fun q h' => q = .inl none ∧ FR h h' (SG g) ∧ GC h' g (gbd R n j c S) ∧ ∃ c', CA h' (g + 3) c' ∧ ∀ u, u < v → c' u = c u
  | 0, v, hv, d, h, S, c, s, ru, gc, ca, ok, ck => by
    show TC sc (d + 6) 191 [.ref g, .ref r, .int (nI n), .int (nI v)] h _
    have hv : v = 4 := by omega
    subst hv
    generalize hQ : (fun (q : Rs) (h' : AH) => q = .inl none ∧ FR h h' (SG g) ∧ GC h' g (gbd R n 0 c S) ∧ ∃ c', CA h' (g + 3) c' ∧ ∀ u, u < 4 → c' u = c u) = Q
    refine TC_e (ls := [.ref g, .ref r, .int (nI n), .int (nI 4), unk, unk]) (Nat.le_of_ble_eq_true rfl) rfl (wx_sound (S := []) 60 true _ _ _ _ ?_)
    simp +contextual (disch := omega) only [K191, wx_t, wx_g, wJ_t, wJ_f, wI_s, CI, CL, C01, aftC_v, aftC_n, true_or, or_true, true_and, and_true, inS_n, inS_c, pI_c, pL_c, pA_c, pV_c, pE_c, pQ_s, pQ_n, pQ_r, cm_eq', cm_ne', cm_lt', cm_ge', cm_gt', cm_le', List.getD_cons_zero, List.getD_cons_succ, Nat.reduceAdd, Nat.reduceBEq, Bool.false_or, Bool.or_false, Bool.true_or, Int.reduceToNat, s_iload, s_lload, s_aload, s_istore, s_astore, s_lstore, s_iconst, s_sipush, s_aconst_null, s_iadd, s_isub, s_imul, s_iand, s_ior, s_ixor, s_idiv, s_irem, s_ishl, s_ishr, s_iushr, s_ladd, s_lsub, s_land, s_lor, s_lxor, s_lneg, s_lshl, s_lshr, s_lushr, s_i2l, s_l2i, s_lcmp, s_dup, s_pop, s_dup2, s_i2c, s_i2s, s_monitorenter, s_ifCond, s_if_icmp, s_ifnull, s_goto, s_iinc, s_tableswitch, s_ireturn, s_freturn, s_lreturn, s_areturn, s_return_, s_ldc, s_getfield, s_putfield, s_iaload, s_iastore, s_laload, s_lastore, s_baload, s_bastore, s_aaload, s_aastore, s_arraylength, s_newarray, s_anewarray, s_new, s_invokestatic, s_invokespecial, s_invokevirtual, fvl_0, fvl_1, fvl_2, fvl_3, fp_0, fp_1, fp_2, fp_3, rf_s, rf_n, isRf_b, knw_b, isLg_b, popA_0, popA_s, st1_0, st1_s, st2_e, set_0, set_s, aftC_e, hxP_s, hxP_n, iteF, iteT, bft, im_t, im_f, nt_f, nt_t, Nat.reduceDiv, Nat.reduceMod, Nat.reduceLeDiff, Nat.reduceLT, Nat.reduceEqDiff, List.length_cons, List.length_nil, Nat.zero_add, Nat.reduceSub, List.cons_append, List.nil_append, ak_i, az_i, ar_i, al_i, ai_i, ak_l, az_l, ar_l, al_l, ai_l, ak_r, az_r, ar_r, al_r, ai_r, pk_m1, reduceCtorEq, msk_tb, mskL, Bool.and_eq_true, decide_eq_true_eq, lg_0, lg_t, lg_g, lg_e, lg_l, tb_z, Nat.mod_eq_of_lt, lN_1s, and_ze, brT, brF, brN, vpT, a4095, a63, nI_e, nI_l', nI_t', dif_z, and_z, and_zr, lN_e, nI_clamp, nx_shr, Nat.reducePow, bI_0, bI_1, bI_z, bI_o, bI_or, n01, nI_add, pk_mul, nx_and, nx_or, nx_dif, lx_and, lx_or, lx_dif, Bool.not_eq_true, Bool.not_eq_false, Bool.true_eq_false, Bool.false_eq_true, s.1]
    refine TC_mono (c_193 s ru ap gc (CA_cl ca) ok hn) ?_
    rintro q h1 ⟨rfl, f1, g1, a1⟩
    simp +contextual (disch := omega) only [K191, wx_t, wx_g, wJ_t, wJ_f, wI_s, CI, CL, C01, aftC_v, aftC_n, true_or, or_true, true_and, and_true, inS_n, inS_c, pI_c, pL_c, pA_c, pV_c, pE_c, pQ_s, pQ_n, pQ_r, cm_eq', cm_ne', cm_lt', cm_ge', cm_gt', cm_le', List.getD_cons_zero, List.getD_cons_succ, Nat.reduceAdd, Nat.reduceBEq, Bool.false_or, Bool.or_false, Bool.true_or, Int.reduceToNat, s_iload, s_lload, s_aload, s_istore, s_astore, s_lstore, s_iconst, s_sipush, s_aconst_null, s_iadd, s_isub, s_imul, s_iand, s_ior, s_ixor, s_idiv, s_irem, s_ishl, s_ishr, s_iushr, s_ladd, s_lsub, s_land, s_lor, s_lxor, s_lneg, s_lshl, s_lshr, s_lushr, s_i2l, s_l2i, s_lcmp, s_dup, s_pop, s_dup2, s_i2c, s_i2s, s_monitorenter, s_ifCond, s_if_icmp, s_ifnull, s_goto, s_iinc, s_tableswitch, s_ireturn, s_freturn, s_lreturn, s_areturn, s_return_, s_ldc, s_getfield, s_putfield, s_iaload, s_iastore, s_laload, s_lastore, s_baload, s_bastore, s_aaload, s_aastore, s_arraylength, s_newarray, s_anewarray, s_new, s_invokestatic, s_invokespecial, s_invokevirtual, fvl_0, fvl_1, fvl_2, fvl_3, fp_0, fp_1, fp_2, fp_3, rf_s, rf_n, isRf_b, knw_b, isLg_b, popA_0, popA_s, st1_0, st1_s, st2_e, set_0, set_s, aftC_e, hxP_s, hxP_n, iteF, iteT, bft, im_t, im_f, nt_f, nt_t, Nat.reduceDiv, Nat.reduceMod, Nat.reduceLeDiff, Nat.reduceLT, Nat.reduceEqDiff, List.length_cons, List.length_nil, Nat.zero_add, Nat.reduceSub, List.cons_append, List.nil_append, ak_i, az_i, ar_i, al_i, ai_i, ak_l, az_l, ar_l, al_l, ai_l, ak_r, az_r, ar_r, al_r, ai_r, pk_m1, reduceCtorEq, msk_tb, mskL, Bool.and_eq_true, decide_eq_true_eq, lg_0, lg_t, lg_g, lg_e, lg_l, tb_z, Nat.mod_eq_of_lt, lN_1s, and_ze, brT, brF, brN, vpT, a4095, a63, nI_e, nI_l', nI_t', dif_z, and_z, and_zr, lN_e, nI_clamp, nx_shr, Nat.reducePow, bI_0, bI_1, bI_z, bI_o, bI_or, n01, nI_add, pk_mul, nx_and, nx_or, nx_dif, lx_and, lx_or, lx_dif, Bool.not_eq_true, Bool.not_eq_false, Bool.true_eq_false, Bool.false_eq_true]
    rw [← hQ]
    refine ⟨rfl, f1, ?_, cl4 c, a1, fun u hu => if_pos hu⟩
    show GC h1 g (gst R n (cl4 c) S)
    have ck' : chk R (cl4 c) 4 S.1 := chk_cg ru.2.2.2 (fun u hu => (if_pos hu : cl4 c u = c u).symm) ck
    rw [gin_st ok (chk_4 ru.2.2.2 ck')]
    exact g1
  | j + 1, v, hv, d, h, S, c, s, ru, gc, ca, ok, ck => by
    show TC sc ((d + 6 + j) + 1) 191 [.ref g, .ref r, .int (nI n), .int (nI v)] h _
    generalize hQ : (fun (q : Rs) (h' : AH) => q = .inl none ∧ FR h h' (SG g) ∧ GC h' g (gbd R n (j + 1) c S) ∧ ∃ c', CA h' (g + 3) c' ∧ ∀ u, u < v → c' u = c u) = Q
    have ro := ru.2.2.2
    have v4 : v < 4 := by omega
    have vj : 3 - j = v := by omega
    have il9 : R_il R v = true → R_to R v ≤ 9 := fun q => (ro.2.2.2.2.2.2.1 v v4 q).2
    have h9 := hR_le ro v4
    have hi := hiR_e (R := R) (v := v)
    have hi8 := hiR_8 (R := R) (v := v)
    have lo := loR_le ro v4
    have lp : ∀ k, k ≤ hiR R v + 1 → loR R v ≤ k → ∀ h1 S1 c1, FR h h1 (SG g) → GC h1 g S1 → CA h1 (g + 3) c1 → (∀ u, u < v → c1 u = c u) → chk R c1 v S1.1 → lpf (fun k S => gbd R n j (cup c v k) S) (hR R v + 1 - k) k S1 = gbd R n (j + 1) c S → TT sc (d + 6 + j) 191 Q 16 [.ref g, .ref r, .int (nI n), .int (nI v), .int (nI (hiR R v)), .int (nI k)] [] h1 := by
      refine up_to fun k hk ih => ?_
      intro hlo h1 S1 c1 f1 g1 a1 ag ck1 res
      have s1 := s.fr f1
      have ru1 := ru.fr f1 ap.w
      have o5 : ah_i h1 g 5 = bI (!S1.2.2) := g1.2.2
      have done : (∀ i, k ≤ i → i < k + (hR R v + 1 - k) → gbd R n j (cup c v i) S1 = S1) → Q (.inl none) h1 := fun w => by
        rw [lpf_f w] at res
        rw [← hQ]
        exact ⟨rfl, f1, res ▸ g1, c1, a1, ag⟩
      by_cases e : k < hiR R v + 1
      · cases b : S1.2.2
        · have o5 : ah_i h1 g 5 = nI 1 := by rw [o5, b]; rfl
          refine wx_sound (S := [16]) 60 true _ _ _ _ ?_
          simp +contextual (disch := omega) only [K191, wx_t, wx_g, wJ_t, wJ_f, wI_s, CI, CL, C01, aftC_v, aftC_n, true_or, or_true, true_and, and_true, inS_n, inS_c, pI_c, pL_c, pA_c, pV_c, pE_c, pQ_s, pQ_n, pQ_r, cm_eq', cm_ne', cm_lt', cm_ge', cm_gt', cm_le', List.getD_cons_zero, List.getD_cons_succ, Nat.reduceAdd, Nat.reduceBEq, Bool.false_or, Bool.or_false, Bool.true_or, Int.reduceToNat, s_iload, s_lload, s_aload, s_istore, s_astore, s_lstore, s_iconst, s_sipush, s_aconst_null, s_iadd, s_isub, s_imul, s_iand, s_ior, s_ixor, s_idiv, s_irem, s_ishl, s_ishr, s_iushr, s_ladd, s_lsub, s_land, s_lor, s_lxor, s_lneg, s_lshl, s_lshr, s_lushr, s_i2l, s_l2i, s_lcmp, s_dup, s_pop, s_dup2, s_i2c, s_i2s, s_monitorenter, s_ifCond, s_if_icmp, s_ifnull, s_goto, s_iinc, s_tableswitch, s_ireturn, s_freturn, s_lreturn, s_areturn, s_return_, s_ldc, s_getfield, s_putfield, s_iaload, s_iastore, s_laload, s_lastore, s_baload, s_bastore, s_aaload, s_aastore, s_arraylength, s_newarray, s_anewarray, s_new, s_invokestatic, s_invokespecial, s_invokevirtual, fvl_0, fvl_1, fvl_2, fvl_3, fp_0, fp_1, fp_2, fp_3, rf_s, rf_n, isRf_b, knw_b, isLg_b, popA_0, popA_s, st1_0, st1_s, st2_e, set_0, set_s, aftC_e, hxP_s, hxP_n, iteF, iteT, bft, im_t, im_f, nt_f, nt_t, Nat.reduceDiv, Nat.reduceMod, Nat.reduceLeDiff, Nat.reduceLT, Nat.reduceEqDiff, List.length_cons, List.length_nil, Nat.zero_add, Nat.reduceSub, List.cons_append, List.nil_append, ak_i, az_i, ar_i, al_i, ai_i, ak_l, az_l, ar_l, al_l, ai_l, ak_r, az_r, ar_r, al_r, ai_r, pk_m1, reduceCtorEq, msk_tb, mskL, Bool.and_eq_true, decide_eq_true_eq, lg_0, lg_t, lg_g, lg_e, lg_l, tb_z, Nat.mod_eq_of_lt, lN_1s, and_ze, brT, brF, brN, vpT, a4095, a63, nI_e, nI_l', nI_t', dif_z, and_z, and_zr, lN_e, nI_clamp, nx_shr, Nat.reducePow, bI_0, bI_1, bI_z, bI_o, bI_or, n01, nI_add, pk_mul, nx_and, nx_or, nx_dif, lx_and, lx_or, lx_dif, Bool.not_eq_true, Bool.not_eq_false, Bool.true_eq_false, Bool.false_eq_true, s1.1, o5]
          exact done fun i _ _ => gbd_f (by omega) b
        · have o5 : ah_i h1 g 5 = nI 0 := by rw [o5, b]; rfl
          have k9 : k ≤ 9 := by omega
          have em : hR R v + 1 - k = (hR R v + 1 - (k + 1)) + 1 := by omega
          have a2 := cup_ca (v := v) a1 k9
          have f2 : FR h (ap_i h1 (g + 3) v (nI k)) (SG g) := f1.i ⟨by omega, by omega⟩
          have ru2 := ru.fr f2 ap.w
          have ag2 : ∀ u, u < v → cup c1 v k u = c u := fun u hu => by
            unfold cup
            rw [if_neg (by omega)]; exact ag u hu
          have cg2 : gbd R n j (cup c v k) S1 = gbd R n j (cup c1 v k) S1 := gbd_cg R n (by omega) fun u hu => by
            unfold cup
            by_cases w : u = v
            · rw [if_pos w, if_pos w]
            · rw [if_neg w, if_neg w]; exact (ag u (by omega)).symm
          have ck2 : chk R (cup c1 v k) v S1.1 := chk_cg ro (fun u hu => by
            unfold cup
            rw [if_neg (by omega)]) ck1
          have uk : cup c1 v k v = k := if_pos rfl
          have k192 := fun Q => c_192 (sc := sc) (d := d + 2 + j) (Q := Q) (s.fr f2) ru2.1 ru2.2.1 (GC_ca g1).1 a2 (ro.lok (by omega)) (fun k hk => by have := ro.2.2.2.2.2.1 3 k (by omega) hk; rw [if_pos rfl] at this; exact this) (fun k hk => ro.p (l := 1) (by omega) (by omega) hk) v4
          simp only [show d + 2 + j + 4 = d + 6 + j from by omega] at k192
          by_cases cb : cnB R (cup c1 v k) v (lat S1.1) S1.1.length
          · simp only [bP_of cb] at k192
            refine wx_sound (S := [16]) 60 true _ _ _ _ ?_
            simp +contextual (disch := omega) only [K191, wx_t, wx_g, wJ_t, wJ_f, wI_s, CI, CL, C01, aftC_v, aftC_n, true_or, or_true, true_and, and_true, inS_n, inS_c, pI_c, pL_c, pA_c, pV_c, pE_c, pQ_s, pQ_n, pQ_r, cm_eq', cm_ne', cm_lt', cm_ge', cm_gt', cm_le', List.getD_cons_zero, List.getD_cons_succ, Nat.reduceAdd, Nat.reduceBEq, Bool.false_or, Bool.or_false, Bool.true_or, Int.reduceToNat, s_iload, s_lload, s_aload, s_istore, s_astore, s_lstore, s_iconst, s_sipush, s_aconst_null, s_iadd, s_isub, s_imul, s_iand, s_ior, s_ixor, s_idiv, s_irem, s_ishl, s_ishr, s_iushr, s_ladd, s_lsub, s_land, s_lor, s_lxor, s_lneg, s_lshl, s_lshr, s_lushr, s_i2l, s_l2i, s_lcmp, s_dup, s_pop, s_dup2, s_i2c, s_i2s, s_monitorenter, s_ifCond, s_if_icmp, s_ifnull, s_goto, s_iinc, s_tableswitch, s_ireturn, s_freturn, s_lreturn, s_areturn, s_return_, s_ldc, s_getfield, s_putfield, s_iaload, s_iastore, s_laload, s_lastore, s_baload, s_bastore, s_aaload, s_aastore, s_arraylength, s_newarray, s_anewarray, s_new, s_invokestatic, s_invokespecial, s_invokevirtual, fvl_0, fvl_1, fvl_2, fvl_3, fp_0, fp_1, fp_2, fp_3, rf_s, rf_n, isRf_b, knw_b, isLg_b, popA_0, popA_s, st1_0, st1_s, st2_e, set_0, set_s, aftC_e, hxP_s, hxP_n, iteF, iteT, bft, im_t, im_f, nt_f, nt_t, Nat.reduceDiv, Nat.reduceMod, Nat.reduceLeDiff, Nat.reduceLT, Nat.reduceEqDiff, List.length_cons, List.length_nil, Nat.zero_add, Nat.reduceSub, List.cons_append, List.nil_append, ak_i, az_i, ar_i, al_i, ai_i, ak_l, az_l, ar_l, al_l, ai_l, ak_r, az_r, ar_r, al_r, ai_r, pk_m1, reduceCtorEq, msk_tb, mskL, Bool.and_eq_true, decide_eq_true_eq, lg_0, lg_t, lg_g, lg_e, lg_l, tb_z, Nat.mod_eq_of_lt, lN_1s, and_ze, brT, brF, brN, vpT, a4095, a63, nI_e, nI_l', nI_t', dif_z, and_z, and_zr, lN_e, nI_clamp, nx_shr, Nat.reducePow, bI_0, bI_1, bI_z, bI_o, bI_or, n01, nI_add, pk_mul, nx_and, nx_or, nx_dif, lx_and, lx_or, lx_dif, Bool.not_eq_true, Bool.not_eq_false, Bool.true_eq_false, Bool.false_eq_true, s1.1, s1.2.2.2.1, s1.2.2.2.2.2.2.2.2.1, s1.2.2.2.2.2.2.2.2.2, o5, k192]
            have ck3 := chk_s ck2 cb (fun _ q => by rw [uk]; have := hi.2.1 q; omega)
            refine TC_mono (c_191 ap hn j (v + 1) (by omega) d _ S1 (cup c1 v k) (s.fr f2) ru2 (GC_ca g1) a2 b ck3) ?_
            rintro q h3 ⟨rfl, f3, g3, c3, a3, ag3⟩
            simp +contextual (disch := omega) only [K191, wx_t, wx_g, wJ_t, wJ_f, wI_s, CI, CL, C01, aftC_v, aftC_n, true_or, or_true, true_and, and_true, inS_n, inS_c, pI_c, pL_c, pA_c, pV_c, pE_c, pQ_s, pQ_n, pQ_r, cm_eq', cm_ne', cm_lt', cm_ge', cm_gt', cm_le', List.getD_cons_zero, List.getD_cons_succ, Nat.reduceAdd, Nat.reduceBEq, Bool.false_or, Bool.or_false, Bool.true_or, Int.reduceToNat, s_iload, s_lload, s_aload, s_istore, s_astore, s_lstore, s_iconst, s_sipush, s_aconst_null, s_iadd, s_isub, s_imul, s_iand, s_ior, s_ixor, s_idiv, s_irem, s_ishl, s_ishr, s_iushr, s_ladd, s_lsub, s_land, s_lor, s_lxor, s_lneg, s_lshl, s_lshr, s_lushr, s_i2l, s_l2i, s_lcmp, s_dup, s_pop, s_dup2, s_i2c, s_i2s, s_monitorenter, s_ifCond, s_if_icmp, s_ifnull, s_goto, s_iinc, s_tableswitch, s_ireturn, s_freturn, s_lreturn, s_areturn, s_return_, s_ldc, s_getfield, s_putfield, s_iaload, s_iastore, s_laload, s_lastore, s_baload, s_bastore, s_aaload, s_aastore, s_arraylength, s_newarray, s_anewarray, s_new, s_invokestatic, s_invokespecial, s_invokevirtual, fvl_0, fvl_1, fvl_2, fvl_3, fp_0, fp_1, fp_2, fp_3, rf_s, rf_n, isRf_b, knw_b, isLg_b, popA_0, popA_s, st1_0, st1_s, st2_e, set_0, set_s, aftC_e, hxP_s, hxP_n, iteF, iteT, bft, im_t, im_f, nt_f, nt_t, Nat.reduceDiv, Nat.reduceMod, Nat.reduceLeDiff, Nat.reduceLT, Nat.reduceEqDiff, List.length_cons, List.length_nil, Nat.zero_add, Nat.reduceSub, List.cons_append, List.nil_append, ak_i, az_i, ar_i, al_i, ai_i, ak_l, az_l, ar_l, al_l, ai_l, ak_r, az_r, ar_r, al_r, ai_r, pk_m1, reduceCtorEq, msk_tb, mskL, Bool.and_eq_true, decide_eq_true_eq, lg_0, lg_t, lg_g, lg_e, lg_l, tb_z, Nat.mod_eq_of_lt, lN_1s, and_ze, brT, brF, brN, vpT, a4095, a63, nI_e, nI_l', nI_t', dif_z, and_z, and_zr, lN_e, nI_clamp, nx_shr, Nat.reducePow, bI_0, bI_1, bI_z, bI_o, bI_or, n01, nI_add, pk_mul, nx_and, nx_or, nx_dif, lx_and, lx_or, lx_dif, Bool.not_eq_true, Bool.not_eq_false, Bool.true_eq_false, Bool.false_eq_true]
            have x3 := gbd_x R n (show j ≤ 4 by omega) (cup c1 v k) S1
            refine ih e (by omega) h3 (gbd R n j (cup c1 v k) S1) c3 (f2.trans f3 fun _ _ q => q) g3 a3 (fun u hu => (ag3 u (by omega)).trans (ag2 u hu)) ?_ ?_
            · refine chk_mo (A := S1.1) (fun x hx => ?_) (chk_cg ro (fun u hu => (ag3 u (by omega)).symm) ck2)
              obtain ⟨B, eB⟩ := x3.1
              rw [eB]; exact List.mem_append_left _ hx
            · rw [em, lpf_s] at res
              rw [← cg2]; exact res
          · simp only [bP_no cb] at k192
            refine wx_sound (S := [16]) 60 true _ _ _ _ ?_
            simp +contextual (disch := omega) only [K191, wx_t, wx_g, wJ_t, wJ_f, wI_s, CI, CL, C01, aftC_v, aftC_n, true_or, or_true, true_and, and_true, inS_n, inS_c, pI_c, pL_c, pA_c, pV_c, pE_c, pQ_s, pQ_n, pQ_r, cm_eq', cm_ne', cm_lt', cm_ge', cm_gt', cm_le', List.getD_cons_zero, List.getD_cons_succ, Nat.reduceAdd, Nat.reduceBEq, Bool.false_or, Bool.or_false, Bool.true_or, Int.reduceToNat, s_iload, s_lload, s_aload, s_istore, s_astore, s_lstore, s_iconst, s_sipush, s_aconst_null, s_iadd, s_isub, s_imul, s_iand, s_ior, s_ixor, s_idiv, s_irem, s_ishl, s_ishr, s_iushr, s_ladd, s_lsub, s_land, s_lor, s_lxor, s_lneg, s_lshl, s_lshr, s_lushr, s_i2l, s_l2i, s_lcmp, s_dup, s_pop, s_dup2, s_i2c, s_i2s, s_monitorenter, s_ifCond, s_if_icmp, s_ifnull, s_goto, s_iinc, s_tableswitch, s_ireturn, s_freturn, s_lreturn, s_areturn, s_return_, s_ldc, s_getfield, s_putfield, s_iaload, s_iastore, s_laload, s_lastore, s_baload, s_bastore, s_aaload, s_aastore, s_arraylength, s_newarray, s_anewarray, s_new, s_invokestatic, s_invokespecial, s_invokevirtual, fvl_0, fvl_1, fvl_2, fvl_3, fp_0, fp_1, fp_2, fp_3, rf_s, rf_n, isRf_b, knw_b, isLg_b, popA_0, popA_s, st1_0, st1_s, st2_e, set_0, set_s, aftC_e, hxP_s, hxP_n, iteF, iteT, bft, im_t, im_f, nt_f, nt_t, Nat.reduceDiv, Nat.reduceMod, Nat.reduceLeDiff, Nat.reduceLT, Nat.reduceEqDiff, List.length_cons, List.length_nil, Nat.zero_add, Nat.reduceSub, List.cons_append, List.nil_append, ak_i, az_i, ar_i, al_i, ai_i, ak_l, az_l, ar_l, al_l, ai_l, ak_r, az_r, ar_r, al_r, ai_r, pk_m1, reduceCtorEq, msk_tb, mskL, Bool.and_eq_true, decide_eq_true_eq, lg_0, lg_t, lg_g, lg_e, lg_l, tb_z, Nat.mod_eq_of_lt, lN_1s, and_ze, brT, brF, brN, vpT, a4095, a63, nI_e, nI_l', nI_t', dif_z, and_z, and_zr, lN_e, nI_clamp, nx_shr, Nat.reducePow, bI_0, bI_1, bI_z, bI_o, bI_or, n01, nI_add, pk_mul, nx_and, nx_or, nx_dif, lx_and, lx_or, lx_dif, Bool.not_eq_true, Bool.not_eq_false, Bool.true_eq_false, Bool.false_eq_true, s1.1, s1.2.2.2.1, s1.2.2.2.2.2.2.2.2.1, s1.2.2.2.2.2.2.2.2.2, o5, k192]
            refine ih e (by omega) _ S1 (cup c1 v k) f2 (GC_ca g1) a2 ag2 ck2 ?_
            rw [em, lpf_s] at res
            have no : gbd R n j (cup c v k) S1 = S1 := by
              rw [cg2]
              exact gbd_no (by omega) fun c' ac => cnB_no ro (fun u hu => (ac u (by omega)).symm) cb
            simp only [no] at res
            exact res
      · have : k = hiR R v + 1 := by omega
        subst this
        refine wx_sound (S := [16]) 60 true _ _ _ _ ?_
        simp +contextual (disch := omega) only [K191, wx_t, wx_g, wJ_t, wJ_f, wI_s, CI, CL, C01, aftC_v, aftC_n, true_or, or_true, true_and, and_true, inS_n, inS_c, pI_c, pL_c, pA_c, pV_c, pE_c, pQ_s, pQ_n, pQ_r, cm_eq', cm_ne', cm_lt', cm_ge', cm_gt', cm_le', List.getD_cons_zero, List.getD_cons_succ, Nat.reduceAdd, Nat.reduceBEq, Bool.false_or, Bool.or_false, Bool.true_or, Int.reduceToNat, s_iload, s_lload, s_aload, s_istore, s_astore, s_lstore, s_iconst, s_sipush, s_aconst_null, s_iadd, s_isub, s_imul, s_iand, s_ior, s_ixor, s_idiv, s_irem, s_ishl, s_ishr, s_iushr, s_ladd, s_lsub, s_land, s_lor, s_lxor, s_lneg, s_lshl, s_lshr, s_lushr, s_i2l, s_l2i, s_lcmp, s_dup, s_pop, s_dup2, s_i2c, s_i2s, s_monitorenter, s_ifCond, s_if_icmp, s_ifnull, s_goto, s_iinc, s_tableswitch, s_ireturn, s_freturn, s_lreturn, s_areturn, s_return_, s_ldc, s_getfield, s_putfield, s_iaload, s_iastore, s_laload, s_lastore, s_baload, s_bastore, s_aaload, s_aastore, s_arraylength, s_newarray, s_anewarray, s_new, s_invokestatic, s_invokespecial, s_invokevirtual, fvl_0, fvl_1, fvl_2, fvl_3, fp_0, fp_1, fp_2, fp_3, rf_s, rf_n, isRf_b, knw_b, isLg_b, popA_0, popA_s, st1_0, st1_s, st2_e, set_0, set_s, aftC_e, hxP_s, hxP_n, iteF, iteT, bft, im_t, im_f, nt_f, nt_t, Nat.reduceDiv, Nat.reduceMod, Nat.reduceLeDiff, Nat.reduceLT, Nat.reduceEqDiff, List.length_cons, List.length_nil, Nat.zero_add, Nat.reduceSub, List.cons_append, List.nil_append, ak_i, az_i, ar_i, al_i, ai_i, ak_l, az_l, ar_l, al_l, ai_l, ak_r, az_r, ar_r, al_r, ai_r, pk_m1, reduceCtorEq, msk_tb, mskL, Bool.and_eq_true, decide_eq_true_eq, lg_0, lg_t, lg_g, lg_e, lg_l, tb_z, Nat.mod_eq_of_lt, lN_1s, and_ze, brT, brF, brN, vpT, a4095, a63, nI_e, nI_l', nI_t', dif_z, and_z, and_zr, lN_e, nI_clamp, nx_shr, Nat.reducePow, bI_0, bI_1, bI_z, bI_o, bI_or, n01, nI_add, pk_mul, nx_and, nx_or, nx_dif, lx_and, lx_or, lx_dif, Bool.not_eq_true, Bool.not_eq_false, Bool.true_eq_false, Bool.false_eq_true, s1.1]
        refine done fun i h1 h2 => gbd_no (by omega) fun c' ac z => ?_
        have := ac v (by omega)
        unfold cup at this
        rw [if_pos rfl] at this
        rcases hi8 with w | ⟨w, w2⟩
        · omega
        · have := z.1 v v4 w2
          omega
    have k237 := fun Q => c_237 (sc := sc) (d := d + 3 + j) (Q := Q) ru.1 ru.2.1 ru.2.2.1 v4 il9
    have k236 := fun Q => c_236 (sc := sc) (d := d + 3 + j) (Q := Q) ru.1 ru.2.1 ru.2.2.1 v4
    simp only [show d + 3 + j + 3 = d + 6 + j from by omega] at k237 k236
    refine TC_e (ls := [.ref g, .ref r, .int (nI n), .int (nI v), unk, unk]) (Nat.le_of_ble_eq_true rfl) rfl (wx_sound (S := [16]) 60 true _ _ _ _ ?_)
    simp +contextual (disch := omega) only [K191, wx_t, wx_g, wJ_t, wJ_f, wI_s, CI, CL, C01, aftC_v, aftC_n, true_or, or_true, true_and, and_true, inS_n, inS_c, pI_c, pL_c, pA_c, pV_c, pE_c, pQ_s, pQ_n, pQ_r, cm_eq', cm_ne', cm_lt', cm_ge', cm_gt', cm_le', List.getD_cons_zero, List.getD_cons_succ, Nat.reduceAdd, Nat.reduceBEq, Bool.false_or, Bool.or_false, Bool.true_or, Int.reduceToNat, s_iload, s_lload, s_aload, s_istore, s_astore, s_lstore, s_iconst, s_sipush, s_aconst_null, s_iadd, s_isub, s_imul, s_iand, s_ior, s_ixor, s_idiv, s_irem, s_ishl, s_ishr, s_iushr, s_ladd, s_lsub, s_land, s_lor, s_lxor, s_lneg, s_lshl, s_lshr, s_lushr, s_i2l, s_l2i, s_lcmp, s_dup, s_pop, s_dup2, s_i2c, s_i2s, s_monitorenter, s_ifCond, s_if_icmp, s_ifnull, s_goto, s_iinc, s_tableswitch, s_ireturn, s_freturn, s_lreturn, s_areturn, s_return_, s_ldc, s_getfield, s_putfield, s_iaload, s_iastore, s_laload, s_lastore, s_baload, s_bastore, s_aaload, s_aastore, s_arraylength, s_newarray, s_anewarray, s_new, s_invokestatic, s_invokespecial, s_invokevirtual, fvl_0, fvl_1, fvl_2, fvl_3, fp_0, fp_1, fp_2, fp_3, rf_s, rf_n, isRf_b, knw_b, isLg_b, popA_0, popA_s, st1_0, st1_s, st2_e, set_0, set_s, aftC_e, hxP_s, hxP_n, iteF, iteT, bft, im_t, im_f, nt_f, nt_t, Nat.reduceDiv, Nat.reduceMod, Nat.reduceLeDiff, Nat.reduceLT, Nat.reduceEqDiff, List.length_cons, List.length_nil, Nat.zero_add, Nat.reduceSub, List.cons_append, List.nil_append, ak_i, az_i, ar_i, al_i, ai_i, ak_l, az_l, ar_l, al_l, ai_l, ak_r, az_r, ar_r, al_r, ai_r, pk_m1, reduceCtorEq, msk_tb, mskL, Bool.and_eq_true, decide_eq_true_eq, lg_0, lg_t, lg_g, lg_e, lg_l, tb_z, Nat.mod_eq_of_lt, lN_1s, and_ze, brT, brF, brN, vpT, a4095, a63, nI_e, nI_l', nI_t', dif_z, and_z, and_zr, lN_e, nI_clamp, nx_shr, Nat.reducePow, bI_0, bI_1, bI_z, bI_o, bI_or, n01, nI_add, pk_mul, nx_and, nx_or, nx_dif, lx_and, lx_or, lx_dif, Bool.not_eq_true, Bool.not_eq_false, Bool.true_eq_false, Bool.false_eq_true, k237, k236, ru.1.s]
    refine lp (loR R v) (by have := hi.2.2; rcases hi8 with w | ⟨w, w2⟩ <;> omega) (Nat.le_refl _) h S c (FR.refl _ _) gc ca (fun _ _ => rfl) ck ?_
    rw [gbd_s, vj]
end CLS
