/-! THE CONSTRUCTORS -/
/-- a new array in a field -/
def hN (h : AH) (a kd n f : Nat) : AH := ap_r (ap_n h kd n n) a f (some (ah_n h))
/-- a new object -/
def hW (h : AH) (c : Nat) : AH := ap_n h c 0 (nfl c)
theorem kN {h : AH} {a kd n f b : Nat} (l : b < ah_n h) : ah_k (hN h a kd n f) b = ah_k h b := by
  unfold hN
  rw [ak_r, ak_n, if_neg (by omega)]
theorem nN {h : AH} {a kd n f : Nat} : ah_n (hN h a kd n f) = ah_n h + 1 := rfl
theorem kW {h : AH} {c b : Nat} (l : b < ah_n h) : ah_k (hW h c) b = ah_k h b := by
  unfold hW
  rw [ak_n, if_neg (by omega)]
theorem kW0 {h : AH} {c : Nat} : ah_k (hW h c) (ah_n h) = c := by
  unfold hW
  rw [ak_n, if_pos rfl]
theorem nW {h : AH} {c : Nat} : ah_n (hW h c) = ah_n h + 1 := rfl
section CTO
variable {sc : (Nat → Int32) × Nat} {d m ip n c f a : Nat} {t : ArrayType} {h : AH} {Q : Rs → AH → Prop} {ls : List Value} {v : Int}
theorem sgN (K900 : cdo m ip = some (.aload 0)) (K901 : cdo m (ip + 1) = some (.iconst v)) (hv : Int32.ofInt v = nI n) (K902 : cdo m (ip + 2) = some (.newarray t)) (K903 : cdo m (ip + 3) = some (.putfield (100 * c + f))) (hf : f < 100) (ft : fty c f = 2) (ht : aKind t ≤ 23) (hn : n ≤ 10000) (ka : ah_k h a = c) (la : a < ah_n h) (K : TT sc d m Q (ip + 4) (.ref a :: ls) [] (hN h a (aKind t) n f)) : TT sc d m Q ip (.ref a :: ls) [] h := by
  have e1 : (100 * c + f) / 100 = c := by omega
  have e2 : (100 * c + f) % 100 = f := by omega
  have e3 : (nI n).toNatClampNeg = n := nI_clamp (by omega)
  have e4 : ¬ (nI n < 0) := by
    rw [Int32.lt_iff_toInt_lt, nI_toInt (by omega)]
    exact fun z => absurd z (Int.not_lt.mpr (Int.natCast_nonneg n))
  have kk : ah_k (hN h a (aKind t) n f) a = c := (kN la).trans ka
  refine TT_step K900 ⟨rfl, ?_⟩
  refine TT_step K901 ?_
  refine TT_step K902 ?_
  show aKind t ≤ 23 ∧ ¬ Int32.ofInt v < 0 ∧ (Int32.ofInt v).toNatClampNeg ≤ 10000 ∧ TT sc d m Q (ip + 3) (.ref a :: ls) (.ref (ah_n h) :: .ref a :: []) (ap_n h (aKind t) (Int32.ofInt v).toNatClampNeg (Int32.ofInt v).toNatClampNeg)
  rw [hv, e3]
  refine ⟨ht, e4, hn, ?_⟩
  refine TT_step K903 ?_
  rw [s_putfield, e1, e2, ft, fp_2, pQ_s, pA_c]
  refine ⟨?_, ?_⟩
  · exact kk
  · exact K
theorem sgR (K900 : cdo m ip = some (.aload 0)) (K901 : cdo m (ip + 1) = some (.iconst v)) (hv : Int32.ofInt v = nI n) (K902' : ∃ x, cdo m (ip + 2) = some (.anewarray x)) (K903 : cdo m (ip + 3) = some (.putfield (100 * c + f))) (hf : f < 100) (ft : fty c f = 2) (hn : n ≤ 10000) (ka : ah_k h a = c) (la : a < ah_n h) (K : TT sc d m Q (ip + 4) (.ref a :: ls) [] (hN h a 23 n f)) : TT sc d m Q ip (.ref a :: ls) [] h := by
  have e1 : (100 * c + f) / 100 = c := by omega
  have e2 : (100 * c + f) % 100 = f := by omega
  have e3 : (nI n).toNatClampNeg = n := nI_clamp (by omega)
  have e4 : ¬ (nI n < 0) := by
    rw [Int32.lt_iff_toInt_lt, nI_toInt (by omega)]
    exact fun z => absurd z (Int.not_lt.mpr (Int.natCast_nonneg n))
  have kk : ah_k (hN h a 23 n f) a = c := (kN la).trans ka
  obtain ⟨x, K902⟩ := K902'
  refine TT_step K900 ⟨rfl, ?_⟩
  refine TT_step K901 ?_
  refine TT_step K902 ?_
  show ¬ Int32.ofInt v < 0 ∧ (Int32.ofInt v).toNatClampNeg ≤ 10000 ∧ TT sc d m Q (ip + 3) (.ref a :: ls) (.ref (ah_n h) :: .ref a :: []) (ap_n h 23 (Int32.ofInt v).toNatClampNeg (Int32.ofInt v).toNatClampNeg)
  rw [hv, e3]
  refine ⟨e4, hn, ?_⟩
  refine TT_step K903 ?_
  rw [s_putfield, e1, e2, ft, fp_2, pQ_s, pA_c]
  refine ⟨?_, ?_⟩
  · exact kk
  · exact K
/-- a new object in a field, by its constructor -/
theorem sgO {m' c' : Nat} {G : AH → Nat → AH} (K900 : cdo m ip = some (.aload 0)) (K901 : cdo m (ip + 1) = some (.new c')) (K902 : cdo m (ip + 2) = some .dup) (K903 : cdo m (ip + 3) = some (.invokespecial m')) (na : nA m' = 1) (K904 : cdo m (ip + 4) = some (.putfield (100 * c + f))) (hf : f < 100) (ft : fty c f = 2) (H : ∀ Q, Q (.inl none) (G (hW h c') (ah_n h)) → TC sc d m' [.ref (ah_n h)] (hW h c') Q) (ka : ah_k (G (hW h c') (ah_n h)) a = c) (K : TT sc d m Q (ip + 5) (.ref a :: ls) [] (ap_r (G (hW h c') (ah_n h)) a f (some (ah_n h)))) : TT sc d m Q ip (.ref a :: ls) [] h := by
  have e1 : (100 * c + f) / 100 = c := by omega
  have e2 : (100 * c + f) % 100 = f := by omega
  refine TT_step K900 ⟨rfl, ?_⟩
  refine TT_step K901 ?_
  refine TT_step K902 ⟨rfl, rfl, ?_⟩
  refine TT_step K903 ?_
  rw [s_invokespecial, na]
  refine ⟨rfl, ?_⟩
  refine ⟨Nat.le_of_ble_eq_true rfl, ?_⟩
  refine H _ ?_
  show TT sc d m Q (ip + 4) (.ref a :: ls) (.ref (ah_n h) :: .ref a :: []) (G (hW h c') (ah_n h))
  refine TT_step K904 ?_
  rw [s_putfield, e1, e2, ft, fp_2, pQ_s, pA_c]
  exact ⟨ka, K⟩
theorem sg0 (K900 : cdo m 0 = some (.aload 0)) (K901 : cdo m 1 = some .monitorenter) (K : TT sc d m Q 2 (.ref a :: ls) [] h) : TT sc d m Q 0 (.ref a :: ls) [] h := by
  refine TT_step K900 ⟨rfl, ?_⟩
  refine TT_step K901 ?_
  exact ⟨Nat.le_of_ble_eq_true rfl, K⟩
theorem sgE (K900 : cdo m ip = some .return_) (K : Q (.inl none) h) : TT sc d m Q ip (.ref a :: ls) [] h := TT_step K900 K
/-- several arrays -/
def hNs (h : AH) (a : Nat) : List (Nat × Nat × Nat) → AH
  | [] => h
  | x :: l => hNs (hN h a x.1 x.2.1 x.2.2) a l
theorem kNs {a b : Nat} : ∀ (l : List (Nat × Nat × Nat)) (h : AH), b < ah_n h → ah_k (hNs h a l) b = ah_k h b
  | [], _, _ => rfl
  | x :: l, h, hb => (kNs l _ (Nat.lt_succ_of_lt hb)).trans (kN hb)
theorem nNs {a : Nat} : ∀ (l : List (Nat × Nat × Nat)) (h : AH), ah_n (hNs h a l) = ah_n h + l.length
  | [], _ => rfl
  | x :: l, h => by
    show ah_n (hNs (hN h a x.1 x.2.1 x.2.2) a l) = _
    rw [nNs l, nN, List.length_cons]
    omega
def isN (m c ip : Nat) (x : Nat × Nat × Nat) : Prop := cdo m ip = some (.aload 0) ∧ (∃ v, cdo m (ip + 1) = some (.iconst v) ∧ Int32.ofInt v = nI x.2.1) ∧ ((∃ t, cdo m (ip + 2) = some (.newarray t) ∧ aKind t = x.1 ∧ x.1 ≤ 23) ∨ x.1 = 23 ∧ ∃ y, cdo m (ip + 2) = some (.anewarray y)) ∧ cdo m (ip + 3) = some (.putfield (100 * c + x.2.2)) ∧ x.2.2 < 100 ∧ fty c x.2.2 = 2 ∧ x.2.1 ≤ 10000
def isNs (m c : Nat) : Nat → List (Nat × Nat × Nat) → Prop
  | _, [] => True
  | ip, x :: l => isN m c ip x ∧ isNs m c (ip + 4) l
theorem sgX {x : Nat × Nat × Nat} (i : isN m c ip x) (ka : ah_k h a = c) (la : a < ah_n h) (K : TT sc d m Q (ip + 4) (.ref a :: ls) [] (hN h a x.1 x.2.1 x.2.2)) : TT sc d m Q ip (.ref a :: ls) [] h := by
  obtain ⟨i1, ⟨v, i2, i3⟩, i4, i5, i6, i7, i8⟩ := i
  rcases i4 with ⟨t, i4, e, ht⟩ | ⟨e, i4⟩
  · rw [← e] at K ht
    exact sgN i1 i2 i3 i4 i5 i6 i7 ht i8 ka la K
  · rw [e] at K
    exact sgR i1 i2 i3 i4 i5 i6 i7 i8 ka la K
theorem sgXs : ∀ (l : List (Nat × Nat × Nat)) (ip : Nat) (h : AH), isNs m c ip l → ah_k h a = c → a < ah_n h → TT sc d m Q (ip + 4 * l.length) (.ref a :: ls) [] (hNs h a l) → TT sc d m Q ip (.ref a :: ls) [] h
  | [], ip, h, _, _, _, K => K
  | x :: l, ip, h, i, ka, la, K => sgX i.1 ka la (sgXs l (ip + 4) _ i.2 ((kN la).trans ka) (Nat.lt_succ_of_lt la) (by
    have e : ip + 4 + 4 * l.length = ip + 4 * (x :: l).length := by rw [List.length_cons]; omega
    rw [e]
    exact K))
def L183 : List (Nat × Nat × Nat) := [(20, 12, 0), (20, 60, 2), (20, 4, 4)]
theorem iL183 : isNs 183 4 2 L183 := ⟨⟨rfl, ⟨_, rfl, rfl⟩, Or.inl ⟨_, rfl, rfl, by decide⟩, rfl, by decide, rfl, by decide⟩, ⟨rfl, ⟨_, rfl, rfl⟩, Or.inl ⟨_, rfl, rfl, by decide⟩, rfl, by decide, rfl, by decide⟩, ⟨rfl, ⟨_, rfl, rfl⟩, Or.inl ⟨_, rfl, rfl, by decide⟩, rfl, by decide, rfl, by decide⟩, trivial⟩
theorem i_183 (ka : ah_k h a = 4) (la : a < ah_n h) (hq : Q (.inl none) (hNs h a L183)) : TC sc (d + 1) 183 [.ref a] h Q := TC_e (ls := [.ref a]) (Nat.le_of_ble_eq_true rfl) rfl (sg0 rfl rfl (sgXs L183 2 h iL183 ka la (sgE rfl hq)))
def L150 : List (Nat × Nat × Nat) := [(20, 4, 0)]
theorem iL150 : isNs 150 0 2 L150 := ⟨⟨rfl, ⟨_, rfl, rfl⟩, Or.inl ⟨_, rfl, rfl, by decide⟩, rfl, by decide, rfl, by decide⟩, trivial⟩
theorem i_150 (ka : ah_k h a = 0) (la : a < ah_n h) (hq : Q (.inl none) (hNs h a L150)) : TC sc (d + 1) 150 [.ref a] h Q := TC_e (ls := [.ref a]) (Nat.le_of_ble_eq_true rfl) rfl (sg0 rfl rfl (sgXs L150 2 h iL150 ka la (sgE rfl hq)))
def L197 : List (Nat × Nat × Nat) := [(20, 6, 0), (20, 6, 1)]
theorem iL197 : isNs 197 6 2 L197 := ⟨⟨rfl, ⟨_, rfl, rfl⟩, Or.inl ⟨_, rfl, rfl, by decide⟩, rfl, by decide, rfl, by decide⟩, ⟨rfl, ⟨_, rfl, rfl⟩, Or.inl ⟨_, rfl, rfl, by decide⟩, rfl, by decide, rfl, by decide⟩, trivial⟩
theorem i_197 (ka : ah_k h a = 6) (la : a < ah_n h) (hq : Q (.inl none) (hNs h a L197)) : TC sc (d + 1) 197 [.ref a] h Q := TC_e (ls := [.ref a]) (Nat.le_of_ble_eq_true rfl) rfl (sg0 rfl rfl (sgXs L197 2 h iL197 ka la (sgE rfl hq)))
def L177 : List (Nat × Nat × Nat) := [(21, 64, 0), (21, 64, 1)]
theorem iL177 : isNs 177 3 2 L177 := ⟨⟨rfl, ⟨_, rfl, rfl⟩, Or.inl ⟨_, rfl, rfl, by decide⟩, rfl, by decide, rfl, by decide⟩, ⟨rfl, ⟨_, rfl, rfl⟩, Or.inl ⟨_, rfl, rfl, by decide⟩, rfl, by decide, rfl, by decide⟩, trivial⟩
theorem i_177 (ka : ah_k h a = 3) (la : a < ah_n h) (hq : Q (.inl none) (hNs h a L177)) : TC sc (d + 1) 177 [.ref a] h Q := TC_e (ls := [.ref a]) (Nat.le_of_ble_eq_true rfl) rfl (sg0 rfl rfl (sgXs L177 2 h iL177 ka la (sgE rfl hq)))
def L202 : List (Nat × Nat × Nat) := [(23, 60, 0), (20, 60, 1), (20, 60, 2), (20, 60, 3), (21, 720, 4), (21, 4096, 5), (21, 64, 6), (21, 64, 7), (21, 64, 8), (21, 64, 9), (20, 4, 10)]
theorem iL202 : isNs 202 7 2 L202 := ⟨⟨rfl, ⟨_, rfl, rfl⟩, Or.inr ⟨rfl, _, rfl⟩, rfl, by decide, rfl, by decide⟩, ⟨rfl, ⟨_, rfl, rfl⟩, Or.inl ⟨_, rfl, rfl, by decide⟩, rfl, by decide, rfl, by decide⟩, ⟨rfl, ⟨_, rfl, rfl⟩, Or.inl ⟨_, rfl, rfl, by decide⟩, rfl, by decide, rfl, by decide⟩, ⟨rfl, ⟨_, rfl, rfl⟩, Or.inl ⟨_, rfl, rfl, by decide⟩, rfl, by decide, rfl, by decide⟩, ⟨rfl, ⟨_, rfl, rfl⟩, Or.inl ⟨_, rfl, rfl, by decide⟩, rfl, by decide, rfl, by decide⟩, ⟨rfl, ⟨_, rfl, rfl⟩, Or.inl ⟨_, rfl, rfl, by decide⟩, rfl, by decide, rfl, by decide⟩, ⟨rfl, ⟨_, rfl, rfl⟩, Or.inl ⟨_, rfl, rfl, by decide⟩, rfl, by decide, rfl, by decide⟩, ⟨rfl, ⟨_, rfl, rfl⟩, Or.inl ⟨_, rfl, rfl, by decide⟩, rfl, by decide, rfl, by decide⟩, ⟨rfl, ⟨_, rfl, rfl⟩, Or.inl ⟨_, rfl, rfl, by decide⟩, rfl, by decide, rfl, by decide⟩, ⟨rfl, ⟨_, rfl, rfl⟩, Or.inl ⟨_, rfl, rfl, by decide⟩, rfl, by decide, rfl, by decide⟩, ⟨rfl, ⟨_, rfl, rfl⟩, Or.inl ⟨_, rfl, rfl, by decide⟩, rfl, by decide, rfl, by decide⟩, trivial⟩
theorem i_202 (ka : ah_k h a = 7) (la : a < ah_n h) (hq : Q (.inl none) (hNs h a L202)) : TC sc (d + 1) 202 [.ref a] h Q := TC_e (ls := [.ref a]) (Nat.le_of_ble_eq_true rfl) rfl (sg0 rfl rfl (sgXs L202 2 h iL202 ka la (sgE rfl hq)))
theorem i_171 (hq : Q (.inl none) h) : TC sc (d + 1) 171 [.ref a] h Q := TC_e (ls := [.ref a]) (Nat.le_of_ble_eq_true rfl) rfl (sg0 rfl rfl (sgE rfl hq))
def L59a : List (Nat × Nat × Nat) := [(20, 6, 1), (20, 73, 3), (20, 1460, 4), (20, 600, 6), (20, 12, 8), (20, 12, 10), (20, 12, 11), (20, 60, 13), (20, 60, 14), (20, 60, 16), (20, 60, 17), (20, 60, 18), (22, 60, 19), (21, 720, 20), (20, 4, 24), (20, 4096, 25)]
def L59b : List (Nat × Nat × Nat) := [(21, 4, 29), (20, 60, 30), (20, 73, 32)]
/-- four intervals that are not there -/
def hI (h : AH) (b : Nat) : AH := ap_i (ap_i (ap_i (ap_i h b 45 (-1)) b 47 (-1)) b 49 (-1)) b 51 (-1)
def hMd (h : AH) (a b : Nat) : AH := hI (hNs (ap_i (hNs h a L59a) a 28 (-1)) a L59b) b
def h239 (h : AH) (a x y z : Nat) : AH := ap_r (ap_r (ap_r h a 0 (some x)) a 1 (some y)) a 2 (some z)
theorem i_239 {x y z : Nat} (ka : ah_k h a = 9) : TC sc (d + 1) 239 [.ref a, .ref x, .ref y, .ref z] h Q ↔ Q (.inl none) (h239 h a x y z) := TC_of (fun Q hq => by
  refine TC_e (ls := [.ref a, .ref x, .ref y, .ref z]) (Nat.le_of_ble_eq_true rfl) rfl (wx_sound (S := []) 20 true _ _ _ _ ?_)
  simp +contextual (disch := omega) only [K239, wx_t, wx_g, wJ_t, wJ_f, wI_s, CI, CL, C01, aftC_v, aftC_n, true_or, or_true, true_and, and_true, inS_n, inS_c, pI_c, pL_c, pA_c, pV_c, pE_c, pQ_s, pQ_n, pQ_r, cm_eq', cm_ne', cm_lt', cm_ge', cm_gt', cm_le', List.getD_cons_zero, List.getD_cons_succ, Nat.reduceAdd, Nat.reduceBEq, Bool.false_or, Bool.or_false, Bool.true_or, Int.reduceToNat, s_iload, s_lload, s_aload, s_istore, s_astore, s_lstore, s_iconst, s_sipush, s_aconst_null, s_iadd, s_isub, s_imul, s_iand, s_ior, s_ixor, s_idiv, s_irem, s_ishl, s_ishr, s_iushr, s_ladd, s_lsub, s_land, s_lor, s_lxor, s_lneg, s_lshl, s_lshr, s_lushr, s_i2l, s_l2i, s_lcmp, s_dup, s_pop, s_dup2, s_i2c, s_i2s, s_monitorenter, s_ifCond, s_if_icmp, s_ifnull, s_goto, s_iinc, s_tableswitch, s_ireturn, s_freturn, s_lreturn, s_areturn, s_return_, s_ldc, s_getfield, s_putfield, s_iaload, s_iastore, s_laload, s_lastore, s_baload, s_bastore, s_aaload, s_aastore, s_arraylength, s_newarray, s_anewarray, s_new, s_invokestatic, s_invokespecial, s_invokevirtual, fvl_0, fvl_1, fvl_2, fvl_3, fp_0, fp_1, fp_2, fp_3, rf_s, rf_n, isRf_b, knw_b, isLg_b, popA_0, popA_s, st1_0, st1_s, st2_e, set_0, set_s, aftC_e, hxP_s, hxP_n, iteF, iteT, bft, im_t, im_f, nt_f, nt_t, Nat.reduceDiv, Nat.reduceMod, Nat.reduceLeDiff, Nat.reduceLT, Nat.reduceEqDiff, List.length_cons, List.length_nil, Nat.zero_add, Nat.reduceSub, List.cons_append, List.nil_append, ak_i, az_i, ar_i, al_i, ai_i, ak_l, az_l, ar_l, al_l, ai_l, ak_r, az_r, ar_r, al_r, ai_r, pk_m1, reduceCtorEq, msk_tb, mskL, Bool.and_eq_true, decide_eq_true_eq, lg_0, lg_t, lg_g, lg_e, lg_l, tb_z, Nat.mod_eq_of_lt, lN_1s, and_ze, brT, brF, brN, vpT, a4095, a63, nI_e, nI_l', nI_t', dif_z, and_z, and_zr, lN_e, nI_clamp, nx_shr, Nat.reducePow, bI_0, bI_1, bI_z, bI_o, bI_or, n01, nI_add, pk_mul, nx_and, nx_or, nx_dif, lx_and, lx_or, lx_dif, Bool.not_eq_true, Bool.not_eq_false, Bool.true_eq_false, Bool.false_eq_true, ka]
  exact hq) Q
theorem s_0s {x y z : Nat} (ka : ah_k h a = 11) (la : a < ah_n h) (r9 : ah_r h a 9 = some x) (r7 : ah_r h a 7 = some y) (r10 : ah_r h a 10 = some z) (K : TT sc (d + 1) 0 Q 56 [.ref a] [] (ap_r (h239 (hW h 9) (ah_n h) x y z) a 11 (some (ah_n h)))) : TT sc (d + 1) 0 Q 45 [.ref a] [] h := by
  have n1 : (a = ah_n h) = False := eq_false (by omega)
  have k239 := fun Q => i_239 (sc := sc) (d := d) (Q := Q) (x := x) (y := y) (z := z) (kW0 (h := h) (c := 9))
  unfold hW at k239 K
  rw [show nfl 9 = 3 from rfl] at K
  simp only [show nfl 9 = 3 from rfl] at k239
  unfold h239 at K k239
  refine wx_sound (S := [56]) 20 true _ _ _ _ ?_
  simp +contextual (disch := omega) only [K0, wx_t, wx_g, wJ_t, wJ_f, wI_s, CI, CL, C01, aftC_v, aftC_n, true_or, or_true, true_and, and_true, inS_n, inS_c, pI_c, pL_c, pA_c, pV_c, pE_c, pQ_s, pQ_n, pQ_r, cm_eq', cm_ne', cm_lt', cm_ge', cm_gt', cm_le', List.getD_cons_zero, List.getD_cons_succ, Nat.reduceAdd, Nat.reduceBEq, Bool.false_or, Bool.or_false, Bool.true_or, Int.reduceToNat, s_iload, s_lload, s_aload, s_istore, s_astore, s_lstore, s_iconst, s_sipush, s_aconst_null, s_iadd, s_isub, s_imul, s_iand, s_ior, s_ixor, s_idiv, s_irem, s_ishl, s_ishr, s_iushr, s_ladd, s_lsub, s_land, s_lor, s_lxor, s_lneg, s_lshl, s_lshr, s_lushr, s_i2l, s_l2i, s_lcmp, s_dup, s_pop, s_dup2, s_i2c, s_i2s, s_monitorenter, s_ifCond, s_if_icmp, s_ifnull, s_goto, s_iinc, s_tableswitch, s_ireturn, s_freturn, s_lreturn, s_areturn, s_return_, s_ldc, s_getfield, s_putfield, s_iaload, s_iastore, s_laload, s_lastore, s_baload, s_bastore, s_aaload, s_aastore, s_arraylength, s_newarray, s_anewarray, s_new, s_invokestatic, s_invokespecial, s_invokevirtual, fvl_0, fvl_1, fvl_2, fvl_3, fp_0, fp_1, fp_2, fp_3, rf_s, rf_n, isRf_b, knw_b, isLg_b, popA_0, popA_s, st1_0, st1_s, st2_e, set_0, set_s, aftC_e, hxP_s, hxP_n, iteF, iteT, bft, im_t, im_f, nt_f, nt_t, Nat.reduceDiv, Nat.reduceMod, Nat.reduceLeDiff, Nat.reduceLT, Nat.reduceEqDiff, List.length_cons, List.length_nil, Nat.zero_add, Nat.reduceSub, List.cons_append, List.nil_append, ak_i, az_i, ar_i, al_i, ai_i, ak_l, az_l, ar_l, al_l, ai_l, ak_r, az_r, ar_r, al_r, ai_r, pk_m1, reduceCtorEq, msk_tb, mskL, Bool.and_eq_true, decide_eq_true_eq, lg_0, lg_t, lg_g, lg_e, lg_l, tb_z, Nat.mod_eq_of_lt, lN_1s, and_ze, brT, brF, brN, vpT, a4095, a63, nI_e, nI_l', nI_t', dif_z, and_z, and_zr, lN_e, nI_clamp, nx_shr, Nat.reducePow, bI_0, bI_1, bI_z, bI_o, bI_or, n01, nI_add, pk_mul, nx_and, nx_or, nx_dif, lx_and, lx_or, lx_dif, Bool.not_eq_true, Bool.not_eq_false, Bool.true_eq_false, Bool.false_eq_true, ka, r9, r7, r10, k239, ak_n, ar_n, n1, if_false]
  exact K
theorem s_0e (ka : ah_k h a = 11) (K : Q (.inl none) (ap_i h a 15 (-1))) : TT sc d 0 Q 61 [.ref a] [] h := by
  refine wx_sound (S := []) 20 true _ _ _ _ ?_
  simp +contextual (disch := omega) only [K0, wx_t, wx_g, wJ_t, wJ_f, wI_s, CI, CL, C01, aftC_v, aftC_n, true_or, or_true, true_and, and_true, inS_n, inS_c, pI_c, pL_c, pA_c, pV_c, pE_c, pQ_s, pQ_n, pQ_r, cm_eq', cm_ne', cm_lt', cm_ge', cm_gt', cm_le', List.getD_cons_zero, List.getD_cons_succ, Nat.reduceAdd, Nat.reduceBEq, Bool.false_or, Bool.or_false, Bool.true_or, Int.reduceToNat, s_iload, s_lload, s_aload, s_istore, s_astore, s_lstore, s_iconst, s_sipush, s_aconst_null, s_iadd, s_isub, s_imul, s_iand, s_ior, s_ixor, s_idiv, s_irem, s_ishl, s_ishr, s_iushr, s_ladd, s_lsub, s_land, s_lor, s_lxor, s_lneg, s_lshl, s_lshr, s_lushr, s_i2l, s_l2i, s_lcmp, s_dup, s_pop, s_dup2, s_i2c, s_i2s, s_monitorenter, s_ifCond, s_if_icmp, s_ifnull, s_goto, s_iinc, s_tableswitch, s_ireturn, s_freturn, s_lreturn, s_areturn, s_return_, s_ldc, s_getfield, s_putfield, s_iaload, s_iastore, s_laload, s_lastore, s_baload, s_bastore, s_aaload, s_aastore, s_arraylength, s_newarray, s_anewarray, s_new, s_invokestatic, s_invokespecial, s_invokevirtual, fvl_0, fvl_1, fvl_2, fvl_3, fp_0, fp_1, fp_2, fp_3, rf_s, rf_n, isRf_b, knw_b, isLg_b, popA_0, popA_s, st1_0, st1_s, st2_e, set_0, set_s, aftC_e, hxP_s, hxP_n, iteF, iteT, bft, im_t, im_f, nt_f, nt_t, Nat.reduceDiv, Nat.reduceMod, Nat.reduceLeDiff, Nat.reduceLT, Nat.reduceEqDiff, List.length_cons, List.length_nil, Nat.zero_add, Nat.reduceSub, List.cons_append, List.nil_append, ak_i, az_i, ar_i, al_i, ai_i, ak_l, az_l, ar_l, al_l, ai_l, ak_r, az_r, ar_r, al_r, ai_r, pk_m1, reduceCtorEq, msk_tb, mskL, Bool.and_eq_true, decide_eq_true_eq, lg_0, lg_t, lg_g, lg_e, lg_l, tb_z, Nat.mod_eq_of_lt, lN_1s, and_ze, brT, brF, brN, vpT, a4095, a63, nI_e, nI_l', nI_t', dif_z, and_z, and_zr, lN_e, nI_clamp, nx_shr, Nat.reducePow, bI_0, bI_1, bI_z, bI_o, bI_or, n01, nI_add, pk_mul, nx_and, nx_or, nx_dif, lx_and, lx_or, lx_dif, Bool.not_eq_true, Bool.not_eq_false, Bool.true_eq_false, Bool.false_eq_true, ka]
  exact K
end CTO

