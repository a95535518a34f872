/-! HOW MANY BITS -/
theorem nx_ush (a k : Nat) (hk : k < 32) (h : a < 2 ^ 32) : ((nI a).toUInt32 >>> ((nI k).toUInt32 &&& Int32.toUInt32 31)).toInt32 = nI (a / 2 ^ k) := by
  have : ∀ n, n < 32 → (((nI n).toUInt32 &&& Int32.toUInt32 31).toBitVec % 32).toNat = n := by decide +kernel
  exact pk_ushrN h _ k (this k hk)
theorem lx_ush (a k : Nat) (hk : k < 64) (h : a < 2 ^ 64) : ((lN a).toUInt64 >>> ((nI k).toInt64.toUInt64 &&& Int64.toUInt64 63)).toInt64 = lN (a / 2 ^ k) := by
  have e : ∀ k, k < 64 → (((nI k).toInt64.toUInt64 &&& Int64.toUInt64 63).toBitVec % 64) = BitVec.ofNat 64 k := by decide +kernel
  apply lN_inj'
  show ((lN a).toUInt64 >>> ((nI k).toInt64.toUInt64 &&& Int64.toUInt64 63)).toBitVec = _
  rw [UInt64.toBitVec_shiftRight, e k hk]
  show BitVec.ofNat 64 a >>> BitVec.ofNat 64 k = BitVec.ofNat 64 (a / 2 ^ k)
  apply BitVec.eq_of_toNat_eq
  rw [BitVec.ushiftRight_eq', BitVec.toNat_ushiftRight, BitVec.toNat_ofNat, BitVec.toNat_ofNat, BitVec.toNat_ofNat, Nat.mod_eq_of_lt (show k < 2 ^ 64 by omega), Nat.mod_eq_of_lt h, Nat.shiftRight_eq_div_pow, Nat.mod_eq_of_lt (Nat.lt_of_le_of_lt (Nat.div_le_self _ _) h)]
theorem and_split {u y a b : Nat} (hu : u < 256) (ha : a < 256) : (u + 256 * y) &&& (a + 256 * b) = (u &&& a) + 256 * (y &&& b) := by
  apply Nat.eq_of_testBit_eq
  intro i
  have h1 : u &&& a < 2 ^ 8 := and_lt (n := 8) hu
  rw [Nat.testBit_and, Nat.add_comm u, Nat.add_comm a, Nat.add_comm (u &&& a), show (256 : Nat) = 2 ^ 8 from rfl, Nat.testBit_two_pow_mul_add _ hu, Nat.testBit_two_pow_mul_add _ ha, Nat.testBit_two_pow_mul_add _ h1]
  by_cases h : i < 8
  · simp [h, Nat.testBit_and]
  · simp [h, Nat.testBit_and]
def bA (M x : Nat) : Nat := x - (x / 2 &&& M)
def bB (M x : Nat) : Nat := (x &&& M) + (x / 4 &&& M)
def bC (M x : Nat) : Nat := (x + x / 16) &&& M
theorem bA_s {u y M : Nat} (hu : u < 256) : bA (85 + 256 * M) (u + 256 * y) = bA 85 u + 256 * bA M y := by
  have c : ∀ u, u < 256 → ∀ b, b < 2 → (u / 2 + 128 * b) &&& 85 = u / 2 &&& 85 ∧ (u / 2 &&& 85) ≤ u := by decide +kernel
  have e : (u + 256 * y) / 2 = (u / 2 + 128 * (y % 2)) + 256 * (y / 2) := by omega
  have k := c u hu (y % 2) (by omega)
  unfold bA
  rw [e, and_split (by omega) (by omega), k.1]
  have : y / 2 &&& M ≤ y / 2 := Nat.and_le_left
  omega
theorem bB_s {u y M : Nat} (hu : u < 256) : bB (51 + 256 * M) (u + 256 * y) = bB 51 u + 256 * bB M y := by
  have c : ∀ u, u < 256 → ∀ b, b < 4 → (u / 4 + 64 * b) &&& 51 = u / 4 &&& 51 := by decide +kernel
  have e : (u + 256 * y) / 4 = (u / 4 + 64 * (y % 4)) + 256 * (y / 4) := by omega
  unfold bB
  rw [e, and_split hu (by omega), and_split (by omega) (by omega), c u hu (y % 4) (by omega)]
  omega
theorem bC_s {u y M : Nat} (hu : u < 69) (hy : y % 16 < 5) : bC (15 + 256 * M) (u + 256 * y) = bC 15 u + 256 * bC M y := by
  have c : ∀ u, u < 69 → ∀ b, b < 5 → (u + u / 16 + 16 * b) &&& 15 = (u + u / 16) &&& 15 := by decide +kernel
  have e : u + 256 * y + (u + 256 * y) / 16 = (u + u / 16 + 16 * (y % 16)) + 256 * (y + y / 16) := by omega
  unfold bC
  rw [e, and_split (by omega) (by omega), c u hu (y % 16) hy]
theorem b8 : ∀ u, u < 256 → bA 85 u < 256 ∧ bA 21845 u = bA 85 u ∧ bA 5592405 u = bA 85 u ∧ bA 1431655765 u = bA 85 u ∧ bB 51 (bA 85 u) < 69 ∧ bB 51 (bA 85 u) % 16 < 5 ∧ bB 13107 (bA 85 u) = bB 51 (bA 85 u) ∧ bC 3855 (bB 51 (bA 85 u)) = bC 15 (bB 51 (bA 85 u)) ∧ bC 15 (bB 51 (bA 85 u)) = pop u 8 := by decide +kernel
def bF (x : Nat) : Nat :=
  let c := bC 252645135 (bB 858993459 (bA 1431655765 x))
  let e := c + c / 256
  (e + e / 65536) % 64
theorem pop_c {s t : Nat} : ∀ {n : Nat}, (∀ i, i < n → s.testBit i = t.testBit i) → pop s n = pop t n
  | 0, _ => rfl
  | n + 1, h => by rw [pop_s, pop_s, pop_c (n := n) fun i hi => h i (by omega), h n (by omega)]
theorem pop_add (s n : Nat) : ∀ k, pop s (n + k) = pop s n + pop (s / 2 ^ n) k
  | 0 => rfl
  | k + 1 => by
    rw [← Nat.add_assoc, pop_s, pop_s, pop_add s n k, Nat.testBit_div_two_pow, Nat.add_comm k n, Nat.add_assoc]
theorem pop_z (s n : Nat) (h : s < 2 ^ n) : ∀ k, pop s (n + k) = pop s n
  | 0 => rfl
  | k + 1 => by rw [← Nat.add_assoc, pop_s, pop_z s n h k, tb_ge h (by omega)]; rfl
theorem bF_pop {x : Nat} (hx : x < 16777216) : bF x = pop x 24 := by
  obtain ⟨u, v, w, hu, hv, hw, rfl⟩ : ∃ u v w, u < 256 ∧ v < 256 ∧ w < 256 ∧ x = u + 256 * (v + 256 * w) := ⟨x % 256, x / 256 % 256, x / 65536, by omega, by omega, by omega, by omega⟩
  obtain ⟨u1, -, -, -, u4, u5, -, -, u8⟩ := b8 u hu
  obtain ⟨v1, -, -, -, v4, v5, -, -, v8⟩ := b8 v hv
  obtain ⟨w1, w2, -, -, w4, w5, w6, w7, w8⟩ := b8 w hw
  have eA : bA 1431655765 (u + 256 * (v + 256 * w)) = bA 85 u + 256 * (bA 85 v + 256 * bA 85 w) := by
    rw [show (1431655765 : Nat) = 85 + 256 * 5592405 from rfl, bA_s hu, show (5592405 : Nat) = 85 + 256 * 21845 from rfl, bA_s hv, w2]
  have eB : bB 858993459 (bA 85 u + 256 * (bA 85 v + 256 * bA 85 w)) = bB 51 (bA 85 u) + 256 * (bB 51 (bA 85 v) + 256 * bB 51 (bA 85 w)) := by
    rw [show (858993459 : Nat) = 51 + 256 * 3355443 from rfl, bB_s u1, show (3355443 : Nat) = 51 + 256 * 13107 from rfl, bB_s v1, w6]
  have eC : bC 252645135 (bB 51 (bA 85 u) + 256 * (bB 51 (bA 85 v) + 256 * bB 51 (bA 85 w))) = pop u 8 + 256 * (pop v 8 + 256 * pop w 8) := by
    rw [show (252645135 : Nat) = 15 + 256 * 986895 from rfl, bC_s u4 (by omega), show (986895 : Nat) = 15 + 256 * 3855 from rfl, bC_s v4 (by omega), w7, u8, v8, w8]
  have pu := pop_le u 8
  have pv := pop_le v 8
  have pw := pop_le w 8
  have f : pop (u + 256 * (v + 256 * w)) 24 = pop u 8 + pop v 8 + pop w 8 := by
    rw [show 24 = 8 + (8 + 8) from rfl, pop_add, pop_add, show (2 : Nat) ^ 8 = 256 from rfl, show (u + 256 * (v + 256 * w)) / 256 = v + 256 * w by omega, show (v + 256 * w) / 256 = w by omega]
    have a : pop (u + 256 * (v + 256 * w)) 8 = pop u 8 := pop_c fun i hi => by
      rw [Nat.add_comm u, show (256 : Nat) = 2 ^ 8 from rfl, Nat.testBit_two_pow_mul_add _ hu]
      simp [hi]
    have b : pop (v + 256 * w) 8 = pop v 8 := pop_c fun i hi => by
      rw [Nat.add_comm v, show (256 : Nat) = 2 ^ 8 from rfl, Nat.testBit_two_pow_mul_add _ hv]
      simp [hi]
    rw [a, b]
    omega
  unfold bF
  simp only [eA, eB, eC, f]
  generalize pop u 8 = a at *
  generalize pop v 8 = b at *
  generalize pop w 8 = c at *
  have h1 : (a + 256 * (b + 256 * c)) / 256 = b + 256 * c := by omega
  rw [h1]
  have h3 : (a + 256 * (b + 256 * c) + (b + 256 * c)) / 65536 = c := by omega
  rw [h3]
  omega
theorem sub_le' (x M : Nat) : x / 2 &&& M ≤ x := Nat.le_trans Nat.and_le_left (Nat.div_le_self _ _)
theorem bA_e (x : Nat) : nI x - nI (x / 2 &&& 1431655765) = nI (bA 1431655765 x) := pk_sub (sub_le' _ _)
theorem bA_lt (x M : Nat) : bA M x ≤ x := Nat.sub_le _ _
theorem bB_lt (x M : Nat) : bB M x ≤ x + x / 4 := Nat.add_le_add Nat.and_le_left Nat.and_le_left
theorem bC_lt (x M : Nat) : bC M x ≤ x + x / 16 := Nat.and_le_left
section CLS
variable {sc : (Nat → Int32) × Nat} {d : Nat} {h : AH} {Q : Rs → AH → Prop}
theorem c_278 (x : Nat) (hx : x < 16777216) : TC sc (d + 1) 278 [.int (nI x)] h Q ↔ Q (.inl (some (.int (nI (pop x 24))))) h := TC_of (fun Q hq => by
  have l1 := bA_lt x 1431655765
  have l2 := bB_lt (bA 1431655765 x) 858993459
  have l3 := bC_lt (bB 858993459 (bA 1431655765 x)) 252645135
  have e1 : (bA 1431655765 x &&& 858993459) + (bA 1431655765 x / 4 &&& 858993459) = bB 858993459 (bA 1431655765 x) := rfl
  have e2 : bB 858993459 (bA 1431655765 x) + bB 858993459 (bA 1431655765 x) / 16 &&& 252645135 = bC 252645135 (bB 858993459 (bA 1431655765 x)) := rfl
  refine TC_e (ls := [.int (nI x)]) (Nat.le_of_ble_eq_true rfl) rfl (wx_sound (S := []) 50 true _ _ _ _ ?_)
  simp +contextual (disch := omega) only [K278, wx_t, wx_g, wJ_t, wJ_f, wI_s, CI, CL, C01, aftC_v, aftC_n, true_or, or_true, true_and, and_true, inS_n, inS_c, pI_c, pL_c, pA_c, pV_c, pE_c, pQ_s, pQ_n, pQ_r, cm_eq', cm_ne', cm_lt', cm_ge', cm_gt', cm_le', List.getD_cons_zero, List.getD_cons_succ, Nat.reduceAdd, Nat.reduceBEq, Bool.false_or, Bool.or_false, Bool.true_or, Int.reduceToNat, s_iload, s_lload, s_aload, s_istore, s_astore, s_lstore, s_iconst, s_sipush, s_aconst_null, s_iadd, s_isub, s_imul, s_iand, s_ior, s_ixor, s_idiv, s_irem, s_ishl, s_ishr, s_iushr, s_ladd, s_lsub, s_land, s_lor, s_lxor, s_lneg, s_lshl, s_lshr, s_lushr, s_i2l, s_l2i, s_lcmp, s_dup, s_pop, s_dup2, s_i2c, s_i2s, s_monitorenter, s_ifCond, s_if_icmp, s_ifnull, s_goto, s_iinc, s_tableswitch, s_ireturn, s_freturn, s_lreturn, s_areturn, s_return_, s_ldc, s_getfield, s_putfield, s_iaload, s_iastore, s_laload, s_lastore, s_baload, s_bastore, s_aaload, s_aastore, s_arraylength, s_newarray, s_anewarray, s_new, s_invokestatic, s_invokespecial, s_invokevirtual, fvl_0, fvl_1, fvl_2, fvl_3, fp_0, fp_1, fp_2, fp_3, rf_s, rf_n, isRf_b, knw_b, isLg_b, popA_0, popA_s, st1_0, st1_s, st2_e, set_0, set_s, aftC_e, hxP_s, hxP_n, iteF, iteT, bft, im_t, im_f, nt_f, nt_t, Nat.reduceDiv, Nat.reduceMod, Nat.reduceLeDiff, Nat.reduceLT, Nat.reduceEqDiff, List.length_cons, List.length_nil, Nat.zero_add, Nat.reduceSub, List.cons_append, List.nil_append, ak_i, az_i, ar_i, al_i, ai_i, ak_l, az_l, ar_l, al_l, ai_l, ak_r, az_r, ar_r, al_r, ai_r, reduceCtorEq, msk_tb, mskL, Bool.and_eq_true, decide_eq_true_eq, lg_0, lg_t, lg_g, lg_e, lg_l, tb_z, Nat.mod_eq_of_lt, lN_1s, and_ze, brT, brF, brN, vpT, a4095, a63, nI_e, nI_l', nI_t', dif_z, and_z, and_zr, lN_e, nI_clamp, nx_shr, Nat.reducePow, bI_0, bI_1, bI_z, bI_o, bI_or, n01, nI_add, pk_mul, nx_and, nx_or, nx_dif, lx_and, lx_or, lx_dif, Bool.not_eq_true, Bool.not_eq_false, Bool.true_eq_false, Bool.false_eq_true, nx_ush, bA_e, e1, e2]
  rw [← bF_pop hx] at hq
  exact hq) Q
theorem d_278 (x : Nat) (hx : x < 4096) : TC sc (d + 1) 278 [.int (nI x)] h Q ↔ Q (.inl (some (.int (nI (pop x 12))))) h := by
  rw [c_278 x (by omega), show 24 = 12 + 12 from rfl, pop_z x 12 hx]
end CLS
