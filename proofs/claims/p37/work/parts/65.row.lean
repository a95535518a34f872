/-! A RULE'S ROW, IN BOTH -/
abbrev RW : Type := Nat × (Nat → Int32) × (Nat → Nat) × (Nat → Nat → Nat) × (Nat → Nat → Nat) × (Nat → Nat → Nat) × (Nat → Int32) × (Nat → Bool) × (Nat → Nat) × (Nat → Nat) × Bool × Int32 × Int32
def R_kd (R : RW) : Nat := R.1
def R_gv (R : RW) : Nat → Int32 := R.2.1
def R_n (R : RW) : Nat → Nat := R.2.2.1
def R_p (R : RW) : Nat → Nat → Nat := R.2.2.2.1
def R_a (R : RW) : Nat → Nat → Nat := R.2.2.2.2.1
def R_b (R : RW) : Nat → Nat → Nat := R.2.2.2.2.2.1
def R_w (R : RW) : Nat → Int32 := R.2.2.2.2.2.2.1
def R_il (R : RW) : Nat → Bool := R.2.2.2.2.2.2.2.1
def R_fr (R : RW) : Nat → Nat := R.2.2.2.2.2.2.2.2.1
def R_to (R : RW) : Nat → Nat := R.2.2.2.2.2.2.2.2.2.1
def R_su (R : RW) : Bool := R.2.2.2.2.2.2.2.2.2.2.1
def R_lo (R : RW) : Int32 := R.2.2.2.2.2.2.2.2.2.2.2.1
def R_hi (R : RW) : Int32 := R.2.2.2.2.2.2.2.2.2.2.2.2
/-- a term as a number: 5 more -/
def tm (x : Nat) : Int32 := nI x - nI 5
def VT (x : Nat) : Prop := (1 ≤ x ∧ x ≤ 14) ∨ (25 ≤ x ∧ x ≤ 28)
def VZ (x : Nat) : Prop := x = 0 ∨ VT x
theorem tm_i {x : Nat} (h : x < 1073741824) : (tm x).toInt = (x : Int) - 5 := pk_sub_toInt h (by decide)
theorem tm_5 (x : Nat) : tm x - (-5) = nI x := by
  unfold tm
  rw [show (-5 : Int32) = -(nI 5) from rfl, Int32.sub_neg, Int32.sub_add_cancel]
theorem tm_a (A x : Nat) : nI A + tm x - (-5) = nI (A + x) := by
  unfold tm
  rw [show (-5 : Int32) = -(nI 5) from rfl, Int32.sub_neg, Int32.add_assoc, Int32.sub_add_cancel, nI_add]
theorem tm_of {t : Int32} {x : Nat} (h : t.toInt = (x : Int) - 5) (hx : x < 1073741824) : t = tm x := Int32.toInt_inj.mp (by rw [tm_i hx, h])
theorem isT_ex4 {t : Int32} (h : isT (-4) t = true) : ∃ x, VT x ∧ t = tm x := by
  rw [isT_4] at h
  unfold itm at h
  simp only [Bool.or_eq_true, Bool.and_eq_true, decide_eq_true_eq, Int32.le_iff_toInt_le, nI_toInt (show 0 < 2 ^ 31 by decide), nI_toInt (show 9 < 2 ^ 31 by decide), nI_toInt (show 20 < 2 ^ 31 by decide), nI_toInt (show 23 < 2 ^ 31 by decide), show (-4 : Int32).toInt = -4 from rfl, show (-1 : Int32).toInt = -1 from rfl] at h
  refine ⟨(t.toInt + 5).toNat, ?_, tm_of ?_ ?_⟩
  · unfold VT; omega
  · omega
  · omega
theorem isT_ex5 {t : Int32} (h : isT (-5) t = true) : ∃ x, VZ x ∧ t = tm x := by
  rw [isT_5, Bool.or_eq_true, decide_eq_true_eq] at h
  rcases h with h | h
  · rw [← isT_4] at h
    obtain ⟨x, h1, h2⟩ := isT_ex4 h
    exact ⟨x, Or.inr h1, h2⟩
  · exact ⟨0, Or.inl rfl, by rw [h]; rfl⟩
theorem VT.lt {x : Nat} (h : VT x) : x < 29 := by unfold VT at h; omega
theorem VZ.lt {x : Nat} (h : VZ x) : x < 29 := by
  rcases h with h | h
  · omega
  · exact h.lt
theorem trm_ex4 {pl : Nat → Nat} {p : Nat} {a b : Int32} (h : trmB pl p (-4) a b = true) : ∃ x y, VT x ∧ VT y ∧ a = tm x ∧ b = tm y := by
  unfold trmB ftsB at h
  rw [Bool.and_eq_true] at h
  have key : ∀ (c : Bool) (t : Int32), (bif c then isT (-4) t else decide (t = nI 0)) = true → ∃ x, VT x ∧ t = tm x := by
    intro c t h
    cases c
    · exact ⟨5, Or.inl (by omega), by rw [of_decide_eq_true h]; rfl⟩
    · exact isT_ex4 h
  obtain ⟨x, h1, h2⟩ := key _ _ h.1
  obtain ⟨y, h3, h4⟩ := key _ _ h.2
  exact ⟨x, y, h1, h3, h2, h4⟩
theorem trm_ex5 {pl : Nat → Nat} {p : Nat} {a b : Int32} (h : trmB pl p (-5) a b = true) : ∃ x y, VZ x ∧ VZ y ∧ a = tm x ∧ b = tm y := by
  unfold trmB ftsB at h
  rw [Bool.and_eq_true] at h
  have key : ∀ (c : Bool) (t : Int32), (bif c then isT (-5) t else decide (t = nI 0)) = true → ∃ x, VZ x ∧ t = tm x := by
    intro c t h
    cases c
    · exact ⟨5, Or.inr (Or.inl (by omega)), by rw [of_decide_eq_true h]; rfl⟩
    · exact isT_ex5 h
  obtain ⟨x, h1, h2⟩ := key _ _ h.1
  obtain ⟨y, h3, h4⟩ := key _ _ h.2
  exact ⟨x, y, h1, h3, h2, h4⟩
def ecd (R : RW) (l k : Nat) : Nat := R_p R l k * 1024 + R_a R l k * 32 + R_b R l k
/-- what is right of a rule -/
def R_ok (np : Nat) (R : RW) : Prop := R_kd R ≤ 3 ∧ (∀ l, l < 4 → R_n R l ≤ 3) ∧ R_n R 4 ≤ 4 ∧ (∀ l k, l < 4 → k < R_n R l → VT (R_a R l k) ∧ VT (R_b R l k)) ∧ (∀ k, k < R_n R 4 → VZ (R_a R 4 k) ∧ VZ (R_b R 4 k)) ∧
  (∀ l k, l < 5 → k < R_n R l → if l = 3 then R_p R l k ≤ 3 else R_p R l k < np) ∧ (∀ v, v < 4 → R_il R v = true → R_fr R v ≤ R_to R v ∧ R_to R v ≤ 9) ∧
  (R_kd R = 1 → ∃ a b : Nat, a ≤ 3 ∧ b ≤ 3 ∧ R_gv R 0 = nI a ∧ R_gv R 1 = nI b) ∧ (R_kd R = 2 → ∃ b : Nat, b ≤ 2 ∧ R_gv R 1 = nI b) ∧
  (R_kd R = 3 → ∃ a b c : Nat, a ≤ 3 ∧ b ≤ 3 ∧ c ≤ 200 ∧ R_gv R 0 = nI a ∧ R_gv R 1 = nI b ∧ R_gv R 2 + nI 100 = nI c) ∧ (2 ≤ R_kd R → R_n R 0 = 0) ∧ (R_su R = false → R_n R 4 = 0)
/-- a row of the reference -/
def MRw (h : AH) (arr b : Nat) (R : RW) : Prop := ah_i h arr b = nI (R_kd R) ∧ (∀ j, j < 3 → ah_i h arr (b + 1 + j) = R_gv R j) ∧
  (∀ l, l < 4 → ah_i h arr (b + (5 + 10 * l)) = nI (R_n R l) ∧ ∀ k, k < R_n R l → ah_i h arr (b + (5 + 10 * l) + 1 + 3 * k) = nI (R_p R l k) ∧ ah_i h arr (b + (5 + 10 * l) + 2 + 3 * k) = tm (R_a R l k) ∧ ah_i h arr (b + (5 + 10 * l) + 3 + 3 * k) = tm (R_b R l k)) ∧
  (∀ v, v < 4 → ah_i h arr (b + 45 + 2 * v) = (if R_il R v = true then nI (R_fr R v) else -1) ∧ (R_il R v = true → ah_i h arr (b + 46 + 2 * v) = nI (R_to R v))) ∧
  ah_i h arr (b + 53) = bI (R_su R) ∧ (R_su R = true → ah_i h arr (b + 54) = R_lo R ∧ ah_i h arr (b + 55) = R_hi R) ∧
  ah_i h arr (b + 56) = nI (R_n R 4) ∧ ∀ k, k < R_n R 4 → ah_i h arr (b + 57 + 4 * k) = R_w R k ∧ ah_i h arr (b + 58 + 4 * k) = nI (R_p R 4 k) ∧ ah_i h arr (b + 59 + 4 * k) = tm (R_a R 4 k) ∧ ah_i h arr (b + 60 + 4 * k) = tm (R_b R 4 k)
def eO : Nat → Nat
  | 0 => 2
  | 1 => 4
  | 2 => 6
  | 3 => 8
  | _ => 11
/-- a list of the class -/
def ESh (h : AH) (e : Nat) : Prop := ah_k h e = 1 ∧ ah_r h e 0 = some (e + 1) ∧ ah_k h (e + 1) = 20 ∧ ah_z h (e + 1) = 4
/-- a rule of the class: its objects -/
def RSh (h : AH) (r : Nat) : Prop := ah_k h r = 8 ∧ ah_r h r 0 = some (r + 1) ∧ ah_r h r 1 = some (r + 4) ∧ ah_r h r 2 = some (r + 6) ∧ ah_r h r 3 = some (r + 8) ∧ ah_r h r 4 = some (r + 10) ∧ ah_r h r 5 = some (r + 14) ∧ ah_r h r 6 = some (r + 15) ∧
  ah_k h (r + 1) = 5 ∧ ah_r h (r + 1) 1 = some (r + 2) ∧ ah_k h (r + 10) = 10 ∧ ah_r h (r + 10) 3 = some (r + 11) ∧ ah_r h (r + 10) 4 = some (r + 13) ∧ ah_k h (r + 13) = 20 ∧ ah_z h (r + 13) = 4 ∧ ah_k h (r + 14) = 20 ∧ ah_z h (r + 14) = 4 ∧ ah_k h (r + 15) = 20 ∧ ah_z h (r + 15) = 4 ∧
  ∀ l, l < 5 → ESh h (r + eO l)
/-- and what they hold -/
def RCo (h : AH) (r : Nat) (R : RW) : Prop := ah_i h (r + 1) 0 = nI (R_kd R) ∧ (R_kd R = 1 → ah_i h (r + 1) 2 = R_gv R 0 ∧ ah_i h (r + 1) 3 = R_gv R 1) ∧ (R_kd R = 2 → ah_i h (r + 1) 4 = R_gv R 0 ∧ ah_i h (r + 1) 5 = R_gv R 1) ∧
  (R_kd R = 3 → ah_i h (r + 1) 6 = R_gv R 0 ∧ ah_i h (r + 1) 7 = R_gv R 1 ∧ ah_i h (r + 1) 8 = R_gv R 2) ∧
  (∀ l, l < 5 → ah_i h (r + eO l) 1 = nI (if l = 4 then 4 else 3) ∧ ah_i h (r + eO l) 2 = nI (R_n R l) ∧ ∀ k, k < R_n R l → ah_i h (r + eO l + 1) k = nI (ecd R l k)) ∧
  ah_i h (r + 10) 0 = bI (R_su R) ∧ (R_su R = true → ah_i h (r + 10) 1 = R_lo R ∧ ah_i h (r + 10) 2 = R_hi R) ∧ (∀ k, k < R_n R 4 → ah_i h (r + 13) k = R_w R k) ∧
  ah_i h r 7 = nI (msk 4 (R_il R)) ∧ ∀ v, v < 4 → R_il R v = true → ah_i h (r + 14) v = nI (R_fr R v) ∧ ah_i h (r + 15) v = nI (R_to R v)
theorem ofN (n : Nat) : Int32.ofNat n = nI n := rfl
theorem ne_s (e : Nat) : (e = e + 1) = False := eq_false (by omega)
section CLS
variable {sc : (Nat → Int32) × Nat} {d : Nat} {h : AH} {Q : Rs → AH → Prop} {np : Nat} {pl : Nat → Nat}
theorem c_155 {e n li : Nat} (s : ESh h e) (h1 : ah_i h e 1 = nI li) (h2 : ah_i h e 2 = nI n) (hn : n ≤ 4) (hl : li ≤ 4) : TC sc (d + 1) 155 [.ref e] h Q ↔ Q (.inl (some (.int (bI (decide (li ≤ n)))))) h := TC_of (fun Q hq => by
  obtain ⟨s1, s2, s3, s4⟩ := s
  refine TC_e (ls := [.ref e]) (Nat.le_of_ble_eq_true rfl) rfl (wx_sound (S := []) 40 true _ _ _ _ ?_)
  simp +contextual (disch := omega) only [K155, wx_t, wx_g, wJ_t, wJ_f, wI_s, CI, CL, C01, aftC_v, aftC_n, true_or, or_true, true_and, and_true, inS_n, inS_c, pI_c, pL_c, pA_c, pV_c, pE_c, pQ_s, pQ_n, pQ_r, cm_eq', cm_ne', cm_lt', cm_ge', cm_gt', cm_le', List.getD_cons_zero, List.getD_cons_succ, Nat.reduceAdd, Nat.reduceBEq, Bool.false_or, Bool.or_false, Bool.true_or, Int.reduceToNat, s_iload, s_lload, s_aload, s_istore, s_astore, s_lstore, s_iconst, s_sipush, s_aconst_null, s_iadd, s_isub, s_imul, s_iand, s_ior, s_ixor, s_idiv, s_irem, s_ishl, s_ishr, s_iushr, s_ladd, s_lsub, s_land, s_lor, s_lxor, s_lneg, s_lshl, s_lshr, s_lushr, s_i2l, s_l2i, s_lcmp, s_dup, s_pop, s_dup2, s_i2c, s_i2s, s_monitorenter, s_ifCond, s_if_icmp, s_ifnull, s_goto, s_iinc, s_tableswitch, s_ireturn, s_freturn, s_lreturn, s_areturn, s_return_, s_ldc, s_getfield, s_putfield, s_iaload, s_iastore, s_laload, s_lastore, s_baload, s_bastore, s_aaload, s_aastore, s_arraylength, s_newarray, s_anewarray, s_new, s_invokestatic, s_invokespecial, s_invokevirtual, fvl_0, fvl_1, fvl_2, fvl_3, fp_0, fp_1, fp_2, fp_3, rf_s, rf_n, isRf_b, knw_b, isLg_b, popA_0, popA_s, st1_0, st1_s, st2_e, set_0, set_s, aftC_e, hxP_s, hxP_n, iteF, iteT, bft, im_t, im_f, nt_f, nt_t, Nat.reduceDiv, Nat.reduceMod, Nat.reduceLeDiff, Nat.reduceLT, Nat.reduceEqDiff, List.length_cons, List.length_nil, Nat.zero_add, Nat.reduceSub, List.cons_append, List.nil_append, ak_i, az_i, ar_i, al_i, ai_i, ak_l, az_l, ar_l, al_l, ai_l, ak_r, az_r, ar_r, al_r, ai_r, pk_m1, reduceCtorEq, msk_tb, mskL, Bool.and_eq_true, decide_eq_true_eq, lg_0, lg_t, lg_g, lg_e, lg_l, tb_z, Nat.mod_eq_of_lt, lN_1s, and_ze, brT, brF, brN, vpT, a4095, a63, nI_e, nI_l', nI_t', dif_z, and_z, and_zr, lN_e, nI_clamp, nx_shr, Nat.reducePow, bI_0, bI_1, bI_z, bI_o, bI_or, n01, nI_add, pk_mul, nx_and, nx_or, nx_dif, lx_and, lx_or, lx_dif, Bool.not_eq_true, Bool.not_eq_false, Bool.true_eq_false, Bool.false_eq_true, s1, s2, s3, s4, h1, h2, ofN]
  exact And.intro (fun e => lf1 hq (decide_eq_true e)) fun e => lf0 hq (decide_eq_false e)) Q
theorem c_156 {e n li p x y : Nat} (s : ESh h e) (h1 : ah_i h e 1 = nI li) (h2 : ah_i h e 2 = nI n) (hn : n < li) (hl : li ≤ 4) : TC sc (d + 2) 156 [.ref e, .int (nI p), .int (tm x), .int (tm y)] h Q ↔ Q (.inl none) (ap_i (ap_i h (e + 1) n (nI (p * 1024 + x * 32 + y))) e 2 (nI (n + 1))) := TC_of (fun Q hq => by
  have dl : decide (li ≤ n) = false := decide_eq_false (by omega)
  obtain ⟨s1, s2, s3, s4⟩ := s
  refine TC_e (ls := [.ref e, .int (nI p), .int (tm x), .int (tm y)]) (Nat.le_of_ble_eq_true rfl) rfl (wx_sound (S := []) 60 true _ _ _ _ ?_)
  simp +contextual (disch := omega) only [K156, wx_t, wx_g, wJ_t, wJ_f, wI_s, CI, CL, C01, aftC_v, aftC_n, true_or, or_true, true_and, and_true, inS_n, inS_c, pI_c, pL_c, pA_c, pV_c, pE_c, pQ_s, pQ_n, pQ_r, cm_eq', cm_ne', cm_lt', cm_ge', cm_gt', cm_le', List.getD_cons_zero, List.getD_cons_succ, Nat.reduceAdd, Nat.reduceBEq, Bool.false_or, Bool.or_false, Bool.true_or, Int.reduceToNat, s_iload, s_lload, s_aload, s_istore, s_astore, s_lstore, s_iconst, s_sipush, s_aconst_null, s_iadd, s_isub, s_imul, s_iand, s_ior, s_ixor, s_idiv, s_irem, s_ishl, s_ishr, s_iushr, s_ladd, s_lsub, s_land, s_lor, s_lxor, s_lneg, s_lshl, s_lshr, s_lushr, s_i2l, s_l2i, s_lcmp, s_dup, s_pop, s_dup2, s_i2c, s_i2s, s_monitorenter, s_ifCond, s_if_icmp, s_ifnull, s_goto, s_iinc, s_tableswitch, s_ireturn, s_freturn, s_lreturn, s_areturn, s_return_, s_ldc, s_getfield, s_putfield, s_iaload, s_iastore, s_laload, s_lastore, s_baload, s_bastore, s_aaload, s_aastore, s_arraylength, s_newarray, s_anewarray, s_new, s_invokestatic, s_invokespecial, s_invokevirtual, fvl_0, fvl_1, fvl_2, fvl_3, fp_0, fp_1, fp_2, fp_3, rf_s, rf_n, isRf_b, knw_b, isLg_b, popA_0, popA_s, st1_0, st1_s, st2_e, set_0, set_s, aftC_e, hxP_s, hxP_n, iteF, iteT, bft, im_t, im_f, nt_f, nt_t, Nat.reduceDiv, Nat.reduceMod, Nat.reduceLeDiff, Nat.reduceLT, Nat.reduceEqDiff, List.length_cons, List.length_nil, Nat.zero_add, Nat.reduceSub, List.cons_append, List.nil_append, ak_i, az_i, ar_i, al_i, ai_i, ak_l, az_l, ar_l, al_l, ai_l, ak_r, az_r, ar_r, al_r, ai_r, pk_m1, reduceCtorEq, msk_tb, mskL, Bool.and_eq_true, decide_eq_true_eq, lg_0, lg_t, lg_g, lg_e, lg_l, tb_z, Nat.mod_eq_of_lt, lN_1s, and_ze, brT, brF, brN, vpT, a4095, a63, nI_e, nI_l', nI_t', dif_z, and_z, and_zr, lN_e, nI_clamp, nx_shr, Nat.reducePow, bI_0, bI_1, bI_z, bI_o, bI_or, n01, nI_add, pk_mul, nx_and, nx_or, nx_dif, lx_and, lx_or, lx_dif, Bool.not_eq_true, Bool.not_eq_false, Bool.true_eq_false, Bool.false_eq_true, s1, s2, s3, s4, h1, h2, c_155 ⟨s1, s2, s3, s4⟩ h1 h2 (show n ≤ 4 by omega) hl, tm_5, tm_a, dl, ne_s, false_and, if_false]
  exact hq) Q
end CLS
