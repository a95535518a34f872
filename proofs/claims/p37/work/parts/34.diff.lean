/-! WHAT STAYS: the frame -/
def FR (h h' : AH) (S : Nat → Nat → Prop) : Prop := ah_n h' = ah_n h ∧ ah_u h' = ah_u h ∧ (∀ a, ah_k h' a = ah_k h a) ∧ (∀ a, ah_z h' a = ah_z h a) ∧ (∀ a k, ah_r h' a k = ah_r h a k) ∧ ∀ a k, ¬ S a k → ah_i h' a k = ah_i h a k ∧ ah_l h' a k = ah_l h a k
theorem FR.refl (h : AH) (S : Nat → Nat → Prop) : FR h h S := ⟨rfl, rfl, fun _ => rfl, fun _ => rfl, fun _ _ => rfl, fun _ _ _ => ⟨rfl, rfl⟩⟩
theorem FR.trans {h h' h'' : AH} {S S' : Nat → Nat → Prop} (a : FR h h' S) (b : FR h' h'' S') (m : ∀ x k, S' x k → S x k) : FR h h'' S :=
  ⟨b.1.trans a.1, b.2.1.trans a.2.1, fun x => (b.2.2.1 x).trans (a.2.2.1 x), fun x => (b.2.2.2.1 x).trans (a.2.2.2.1 x), fun x k => (b.2.2.2.2.1 x k).trans (a.2.2.2.2.1 x k),
    fun x k hx => ⟨(b.2.2.2.2.2 x k (fun q => hx (m x k q))).1.trans (a.2.2.2.2.2 x k hx).1, (b.2.2.2.2.2 x k (fun q => hx (m x k q))).2.trans (a.2.2.2.2.2 x k hx).2⟩⟩
theorem FR.mono {h h' : AH} {S S' : Nat → Nat → Prop} (a : FR h h' S) (m : ∀ x k, S x k → S' x k) : FR h h' S' := ⟨a.1, a.2.1, a.2.2.1, a.2.2.2.1, a.2.2.2.2.1, fun x k hx => a.2.2.2.2.2 x k fun q => hx (m x k q)⟩
theorem FR.i {h h' : AH} {S : Nat → Nat → Prop} (a : FR h h' S) {b k : Nat} {v : Int32} (hb : S b k) : FR h (ap_i h' b k v) S := ⟨a.1, a.2.1, a.2.2.1, a.2.2.2.1, a.2.2.2.2.1, fun x j hx => by
  have : ¬ (x = b ∧ j = k) := fun q => hx (q.1 ▸ q.2 ▸ hb)
  rw [ai_i, if_neg this, al_i]
  exact a.2.2.2.2.2 x j hx⟩
theorem FR.l {h h' : AH} {S : Nat → Nat → Prop} (a : FR h h' S) {b k : Nat} {v : Int64} (hb : S b k) : FR h (ap_l h' b k v) S := ⟨a.1, a.2.1, a.2.2.1, a.2.2.2.1, a.2.2.2.2.1, fun x j hx => by
  have : ¬ (x = b ∧ j = k) := fun q => hx (q.1 ▸ q.2 ▸ hb)
  rw [al_l, if_neg this, ai_l]
  exact a.2.2.2.2.2 x j hx⟩
theorem FR.ki {h h' : AH} {S : Nat → Nat → Prop} (f : FR h h' S) {a : Nat} (ha : ∀ k, ¬ S a k) (k : Nat) : ah_i h' a k = ah_i h a k := (f.2.2.2.2.2 a k (ha k)).1
theorem FR.kl {h h' : AH} {S : Nat → Nat → Prop} (f : FR h h' S) {a : Nat} (ha : ∀ k, ¬ S a k) (k : Nat) : ah_l h' a k = ah_l h a k := (f.2.2.2.2.2 a k (ha k)).2
theorem FR.ci {h h' : AH} {S : Nat → Nat → Prop} (f : FR h h' S) {a k : Nat} (ha : ¬ S a k) : ah_i h' a k = ah_i h a k := (f.2.2.2.2.2 a k ha).1
theorem FR.cl {h h' : AH} {S : Nat → Nat → Prop} (f : FR h h' S) {a k : Nat} (ha : ¬ S a k) : ah_l h' a k = ah_l h a k := (f.2.2.2.2.2 a k ha).2
theorem FR.k {h h' : AH} {S : Nat → Nat → Prop} (f : FR h h' S) : (∀ a, ah_k h' a = ah_k h a) ∧ (∀ a, ah_z h' a = ah_z h a) ∧ (∀ a k, ah_r h' a k = ah_r h a k) := ⟨f.2.2.1, f.2.2.2.1, f.2.2.2.2.1⟩
theorem SHP.fr {h h' : AH} {S : Nat → Nat → Prop} (s : SHP h) (f : FR h h' S) : SHP h' := by
  unfold SHP SH0 SH19 SH23 SH27 SH28 SH31 SH43 SH45 SH46 SH49 at *
  simp only [f.k]
  exact s
theorem TC_mono {sc : (Nat → Int32) × Nat} {d mi : Nat} {as : List Value} {h : AH} {Q Q' : Rs → AH → Prop} (H : TC sc d mi as h Q) (m : ∀ r h', Q r h' → Q' r h') : TC sc d mi as h Q' := by
  obtain ⟨r, h', q1, q2⟩ := H
  exact ⟨r, h', q1, m _ _ q2⟩
theorem RuI.fr {h h' : AH} {S : Nat → Nat → Prop} {r i : Nat} {P : PG} (f : FR h h' S) (hS : ∀ a k, S a k → ah_k h a ≠ 5 ∧ ah_k h a ≠ 10) (u : RuI h r P i) : RuI h' r P i := by
  have n1 : ∀ k, ¬ S (r + 1) k := fun k q => (hS _ _ q).1 u.2.2.1
  have n2 : ∀ k, ¬ S (r + 10) k := fun k q => (hS _ _ q).2 u.2.2.2.2.1
  unfold RuI at *
  simp only [f.k, f.ki n1, f.ki n2]
  exact u
theorem CP.fr {h h' : AH} {S : Nat → Nat → Prop} {P : PG} (c : CP h P) (f : FR h h' S) (hS : ∀ a k, S a k → ah_k h a ≠ 5 ∧ ah_k h a ≠ 10) (n31 : ∀ k, ¬ S 31 k) (n33 : ∀ k, ¬ S 33 k) (n34 : ∀ k, ¬ S 34 k) (n35 : ∀ k, ¬ S 35 k) (n36 : ∀ k, ¬ S 36 k) (n37 : ∀ k, ¬ S 37 k) (n38 : ∀ k, ¬ S 38 k) (n39 : ∀ k, ¬ S 39 k) : CP h' P := by
  refine ⟨c.1.fr f, ?_, c.2.2⟩
  obtain ⟨-, ⟨⟨a1, a2, a3, a4, a5, a6, a7, a8⟩, b, e⟩, -⟩ := c
  unfold RPT RPI
  simp only [f.k, f.ki n31, f.kl n31, f.ki n33, f.ki n34, f.ki n35, f.kl n36, f.kl n37, f.kl n38, f.kl n39]
  refine ⟨⟨a1, a2, a3, a4, a5, a6, a7, fun i hi => ?_⟩, b, e⟩
  obtain ⟨g1, g2, g3, g4, r, g5, g6⟩ := a8 i hi
  exact ⟨g1, g2, g3, g4, r, g5, g6.fr f hS⟩
/-! THE DIFFERENCES -/
def dx (P : PG) (i : Nat) : Nat := (P_gv P i 0).toNatClampNeg
def dy (P : PG) (i : Nat) : Nat := (P_gv P i 1).toNatClampNeg
def dz (P : PG) (i : Nat) : Int := (P_gv P i 2).toInt
def lwb (P : PG) (i : Nat) (v : Nat → Int) : Bool := decide (v (dy P i) + dz P i < v (dx P i))
def lw (P : PG) (i : Nat) (v : Nat → Int) : Nat → Int := fun j => if j = dx P i ∧ v (dy P i) + dz P i < v (dx P i) then v (dy P i) + dz P i else v j
def rdv (P : PG) (H : Nat) (v : Nat → Int) : Nat → Nat → Int
  | 0 => v
  | i + 1 => if H.testBit i = true then lw P i (rdv P H v i) else rdv P H v i
def rdb (P : PG) (H : Nat) (v : Nat → Int) : Nat → Bool
  | 0 => false
  | i + 1 => if H.testBit i = true then rdb P H v i || lwb P i (rdv P H v i) else rdb P H v i
def rds (P : PG) (H : Nat) : Nat → (Nat → Int) × Bool
  | 0 => (fun _ => 0, true)
  | j + 1 => if (rds P H j).2 = true then (rdv P H (rds P H j).1 (P_m P), rdb P H (rds P H j).1 (P_m P)) else rds P H j
def chd (P : PG) (H : Nat) : Bool := !(rds P H 5).2
def vals (P : PG) (H : Nat) : Nat → Int := (rds P H 5).1
/-- a difference's parts are small -/
def dOK (P : PG) (i : Nat) : Prop := ∃ a b c : Nat, a ≤ 3 ∧ b ≤ 3 ∧ c ≤ 200 ∧ P_gv P i 0 = nI a ∧ P_gv P i 1 = nI b ∧ P_gv P i 2 + nI 100 = nI c ∧ dx P i = a ∧ dy P i = b ∧ dz P i = (c : Int) - 100
theorem dOK_of {P : PG} (o : P_ok P) {i : Nat} (hi : i < P_m P) (hk : P_kd P i = 3) : dOK P i := by
  obtain ⟨a, b, c, h1, h2, h3, e1, e2, e3⟩ := (o.2.2 i hi).2.2.2.2.2.2 hk
  refine ⟨a, b, c, h1, h2, h3, e1, e2, e3, ?_, ?_, ?_⟩
  · rw [dx, e1, nI_clamp (by omega)]
  · rw [dy, e2, nI_clamp (by omega)]
  · have e4 : P_gv P i 2 = nI c - nI 100 := by rw [← e3, Int32.add_sub_cancel]
    rw [dz, e4, pk_sub_toInt (by omega) (by omega)]
    rfl
def bnd (v : Nat → Int) (b : Int) : Prop := ∀ x, x < 4 → -b ≤ v x ∧ v x ≤ 0
theorem lw_bnd {P : PG} {i : Nat} {v : Nat → Int} {b : Int} (o : dOK P i) (h : bnd v b) : bnd (lw P i v) (b + 100) := by
  obtain ⟨x, y, c, h1, h2, h3, -, -, -, e1, e2, e3⟩ := o
  intro j hj
  have a := h j hj
  have a2 := h (dy P i) (by omega)
  have a3 := h (dx P i) (by omega)
  unfold lw
  split <;> omega
theorem rdv_bnd {P : PG} (o : P_ok P) {H : Nat} {v : Nat → Int} {b : Int} (hH : ∀ i, H.testBit i = true → i < P_m P → P_kd P i = 3) (h : bnd v b) : ∀ k, k ≤ P_m P → bnd (rdv P H v k) (b + 100 * k)
  | 0, _ => by simpa [rdv] using h
  | k + 1, hk => by
    have ih := rdv_bnd o hH h k (by omega)
    rw [rdv]
    split
    · next e =>
      have := lw_bnd (dOK_of o (show k < P_m P by omega) (hH k e (by omega))) ih
      intro x hx
      have := this x hx
      omega
    · intro x hx
      have := ih x hx
      omega
theorem rds_bnd {P : PG} (o : P_ok P) {H : Nat} (hH : ∀ i, H.testBit i = true → i < P_m P → P_kd P i = 3) : ∀ j, bnd (rds P H j).1 (6000 * j)
  | 0 => fun x _ => by simp [rds]
  | j + 1 => by
    have ih := rds_bnd o hH j
    rw [rds]
    have := o.2.1
    split
    · intro x hx
      have := rdv_bnd o hH ih (P_m P) (Nat.le_refl _) x hx
      simp only
      omega
    · intro x hx
      have := ih x hx
      omega
def S44 : Nat → Nat → Prop := fun a _ => a = 44
def v44 (h : AH) (v : Nat → Int) : Prop := ∀ x, x < 4 → ah_i h 44 x = Int32.ofInt (v x)
theorem oI_le {a b : Int} (h1 : -2147483648 ≤ a) (h2 : a < 2147483648) (h3 : -2147483648 ≤ b) (h4 : b < 2147483648) : Int32.ofInt a ≤ Int32.ofInt b ↔ a ≤ b := by
  rw [Int32.le_iff_toInt_le, Int32.toInt_ofInt, Int32.toInt_ofInt]
  have e : ∀ z : Int, -2147483648 ≤ z → z < 2147483648 → z.bmod Int32.size = z := fun z q1 q2 => by
    have : Int32.size = 2 ^ 32 := rfl
    rw [this]
    exact Int.bmod_eq_of_le (by omega) (by omega)
  rw [e a h1 h2, e b h3 h4]
theorem oI_lt {a b : Int} (h1 : -2147483648 ≤ a) (h2 : a < 2147483648) (h3 : -2147483648 ≤ b) (h4 : b < 2147483648) : Int32.ofInt a < Int32.ofInt b ↔ a < b := by
  rw [← Int32.not_le, oI_le h3 h4 h1 h2]
  omega
theorem oI_add (a b : Int) : Int32.ofInt a + Int32.ofInt b = Int32.ofInt (a + b) := (Int32.ofInt_add a b).symm
theorem gvz {P : PG} {i : Nat} : P_gv P i 2 = Int32.ofInt (dz P i) := (Int32.ofInt_toInt _).symm
section CLS
variable {sc : (Nat → Int32) × Nat} {d : Nat} {h : AH} {Q : Rs → AH → Prop} {P : PG}
theorem d_151 (hp : SHP h) {x : Nat} (hx : x < 4) : TC sc (d + 1) 151 [.ref 43, .int (nI x)] h Q ↔ Q (.inl (some (.int (ah_i h 44 x)))) h := TC_of (fun Q hq => by
  refine TC_e (ls := [.ref 43, .int (nI x)]) (Nat.le_of_ble_eq_true rfl) rfl (wx_sound (S := []) 40 true _ _ _ _ ?_)
  simp +contextual (disch := omega) only [K151, wx_t, wx_g, wJ_t, wJ_f, wI_s, CI, CL, C01, aftC_v, aftC_n, true_or, or_true, true_and, and_true, inS_n, inS_c, pI_c, pL_c, pA_c, pV_c, pE_c, pQ_s, pQ_n, pQ_r, cm_eq', cm_ne', cm_lt', cm_ge', cm_gt', cm_le', List.getD_cons_zero, List.getD_cons_succ, Nat.reduceAdd, Nat.reduceBEq, Bool.false_or, Bool.or_false, Bool.true_or, Int.reduceToNat, s_iload, s_lload, s_aload, s_istore, s_astore, s_lstore, s_iconst, s_sipush, s_aconst_null, s_iadd, s_isub, s_imul, s_iand, s_ior, s_ixor, s_idiv, s_irem, s_ishl, s_ishr, s_iushr, s_ladd, s_lsub, s_land, s_lor, s_lxor, s_lneg, s_lshl, s_lshr, s_lushr, s_i2l, s_l2i, s_lcmp, s_dup, s_pop, s_dup2, s_i2c, s_i2s, s_monitorenter, s_ifCond, s_if_icmp, s_ifnull, s_goto, s_iinc, s_tableswitch, s_ireturn, s_freturn, s_lreturn, s_areturn, s_return_, s_ldc, s_getfield, s_putfield, s_iaload, s_iastore, s_laload, s_lastore, s_baload, s_bastore, s_aaload, s_aastore, s_arraylength, s_newarray, s_anewarray, s_new, s_invokestatic, s_invokespecial, s_invokevirtual, fvl_0, fvl_1, fvl_2, fvl_3, fp_0, fp_1, fp_2, fp_3, rf_s, rf_n, isRf_b, knw_b, isLg_b, popA_0, popA_s, st1_0, st1_s, st2_e, set_0, set_s, aftC_e, hxP_s, hxP_n, iteF, iteT, bft, im_t, im_f, nt_f, nt_t, Nat.reduceDiv, Nat.reduceMod, Nat.reduceLeDiff, Nat.reduceLT, Nat.reduceEqDiff, List.length_cons, List.length_nil, Nat.zero_add, Nat.reduceSub, List.cons_append, List.nil_append, ak_i, az_i, ar_i, al_i, ai_i, ak_l, az_l, ar_l, al_l, ai_l, ak_r, az_r, ar_r, al_r, ai_r, pk_m1, reduceCtorEq, msk_tb, mskL, Bool.and_eq_true, decide_eq_true_eq, lg_0, lg_t, lg_g, lg_e, lg_l, tb_z, Nat.mod_eq_of_lt, lN_1s, and_ze, brT, brF, brN, vpT, a4095, a63, nI_e, nI_l', nI_t', dif_z, and_z, and_zr, lN_e, nI_clamp, nx_shr, Nat.reducePow, bI_0, bI_1, bI_z, bI_o, bI_or, n01, nI_add, pk_mul, nx_and, nx_or, nx_dif, lx_and, lx_or, lx_dif, Bool.not_eq_true, Bool.not_eq_false, Bool.true_eq_false, Bool.false_eq_true, ss_0 hp, ss_19 hp, ss_23 hp, ss_27 hp, ss_28 hp, ss_31 hp, ss_43 hp, ss_45 hp, ss_46 hp, ss_49 hp]
  exact hq) Q
theorem d_153 {i r : Nat} (hp : SHP h) (ru : RuI h r P i) (o : dOK P i) (hk : P_kd P i = 3) {v : Nat → Int} {b : Int} (hb : b ≤ 40000) (hv : bnd v b) (h4 : v44 h v) : TC sc (d + 2) 153 [.ref 43, .ref (r + 1)] h fun q h' => q = .inl (some (.int (bI (lwb P i v)))) ∧ FR h h' S44 ∧ v44 h' (lw P i v) := by
  obtain ⟨x, y, c, h1, h2, h3, e1, e2, e3, f1, f2, f3⟩ := o
  obtain ⟨g1, g2, g3⟩ := ru.2.2.2.2.2.2.2.2.1 hk
  have a1 := hv x (by omega)
  have a2 := hv y (by omega)
  have l1 : Int32.ofInt (v y + dz P i) < Int32.ofInt (v x) ↔ v y + dz P i < v x := oI_lt (by omega) (by omega) (by omega) (by omega)
  refine TC_e (ls := [.ref 43, .ref (r + 1), unk]) (Nat.le_of_ble_eq_true rfl) rfl (wx_sound (S := []) 60 true _ _ _ _ ?_)
  simp +contextual (disch := omega) only [K153, wx_t, wx_g, wJ_t, wJ_f, wI_s, CI, CL, C01, aftC_v, aftC_n, true_or, or_true, true_and, and_true, inS_n, inS_c, pI_c, pL_c, pA_c, pV_c, pE_c, pQ_s, pQ_n, pQ_r, cm_eq', cm_ne', cm_lt', cm_ge', cm_gt', cm_le', List.getD_cons_zero, List.getD_cons_succ, Nat.reduceAdd, Nat.reduceBEq, Bool.false_or, Bool.or_false, Bool.true_or, Int.reduceToNat, s_iload, s_lload, s_aload, s_istore, s_astore, s_lstore, s_iconst, s_sipush, s_aconst_null, s_iadd, s_isub, s_imul, s_iand, s_ior, s_ixor, s_idiv, s_irem, s_ishl, s_ishr, s_iushr, s_ladd, s_lsub, s_land, s_lor, s_lxor, s_lneg, s_lshl, s_lshr, s_lushr, s_i2l, s_l2i, s_lcmp, s_dup, s_pop, s_dup2, s_i2c, s_i2s, s_monitorenter, s_ifCond, s_if_icmp, s_ifnull, s_goto, s_iinc, s_tableswitch, s_ireturn, s_freturn, s_lreturn, s_areturn, s_return_, s_ldc, s_getfield, s_putfield, s_iaload, s_iastore, s_laload, s_lastore, s_baload, s_bastore, s_aaload, s_aastore, s_arraylength, s_newarray, s_anewarray, s_new, s_invokestatic, s_invokespecial, s_invokevirtual, fvl_0, fvl_1, fvl_2, fvl_3, fp_0, fp_1, fp_2, fp_3, rf_s, rf_n, isRf_b, knw_b, isLg_b, popA_0, popA_s, st1_0, st1_s, st2_e, set_0, set_s, aftC_e, hxP_s, hxP_n, iteF, iteT, bft, im_t, im_f, nt_f, nt_t, Nat.reduceDiv, Nat.reduceMod, Nat.reduceLeDiff, Nat.reduceLT, Nat.reduceEqDiff, List.length_cons, List.length_nil, Nat.zero_add, Nat.reduceSub, List.cons_append, List.nil_append, ak_i, az_i, ar_i, al_i, ai_i, ak_l, az_l, ar_l, al_l, ai_l, ak_r, az_r, ar_r, al_r, ai_r, pk_m1, reduceCtorEq, msk_tb, mskL, Bool.and_eq_true, decide_eq_true_eq, lg_0, lg_t, lg_g, lg_e, lg_l, tb_z, Nat.mod_eq_of_lt, lN_1s, and_ze, brT, brF, brN, vpT, a4095, a63, nI_e, nI_l', nI_t', dif_z, and_z, and_zr, lN_e, nI_clamp, nx_shr, Nat.reducePow, bI_0, bI_1, bI_z, bI_o, bI_or, n01, nI_add, pk_mul, nx_and, nx_or, nx_dif, lx_and, lx_or, lx_dif, Bool.not_eq_true, Bool.not_eq_false, Bool.true_eq_false, Bool.false_eq_true, ss_0 hp, ss_19 hp, ss_23 hp, ss_27 hp, ss_28 hp, ss_31 hp, ss_43 hp, ss_45 hp, ss_46 hp, ss_49 hp, ru.2.2.1, g1, g2, g3, e1, e2, d_151 hp (show y < 4 by omega), h4 x (by omega), h4 y (by omega), gvz, oI_add, l1]
  refine And.intro (fun e => ⟨?_, (FR.refl h _).i rfl, fun j hj => ?_⟩) fun e => ⟨?_, FR.refl h _, fun j hj => ?_⟩
  · rw [lwb, f1, f2]; simp [e, bI]
  · rw [ai_i, lw, f1, f2]
    by_cases q : j = x
    · rw [if_pos ⟨rfl, q⟩, if_pos ⟨q, e⟩]
    · rw [if_neg (fun z => q z.2), if_neg (fun z => q z.1)]; exact h4 j hj
  · rw [lwb, f1, f2]; simp [e, bI]
  · rw [lw, f1, f2, if_neg (fun z => e z.2)]; exact h4 j hj
theorem rds_k {P : PG} {H j : Nat} (e : (rds P H j).2 = false) : ∀ k, rds P H (j + k) = rds P H j
  | 0 => rfl
  | k + 1 => by
    have ih := rds_k e k
    rw [← Nat.add_assoc, rds, ih, if_neg (by rw [e]; simp)]
theorem rds_st {P : PG} {H j : Nat} (e : (rds P H j).2 = false) (i : Nat) (hj : j ≤ 5) : rds P H 5 = rds P H j := by
  have := rds_k e (5 - j)
  rwa [show j + (5 - j) = 5 by omega] at this
theorem rdv_0 {P : PG} {v : Nat → Int} : ∀ k, rdv P 0 v k = v
  | 0 => rfl
  | k + 1 => by rw [rdv, rdv_0 k]; simp
theorem rdb_0 {P : PG} {v : Nat → Int} : ∀ k, rdb P 0 v k = false
  | 0 => rfl
  | k + 1 => by rw [rdb, rdb_0 k]; simp
/-- the differences among held instances -/
def Hd (P : PG) (H : Nat) : Nat := H &&& msk (P_m P) fun i => decide (P_kd P i = 3)
theorem Hd_k {P : PG} {H : Nat} : ∀ i, (Hd P H).testBit i = true → i < P_m P → P_kd P i = 3 := by
  intro i h hi
  rw [Hd, Nat.testBit_and, msk_tb] at h
  simp at h
  exact h.2.2
theorem bI_oI (a b : Bool) : bI a ||| bI b = bI (a || b) := by cases a <;> cases b <;> rfl
theorem f44 {h h' : AH} (c : CP h P) (f : FR h h' S44) : CP h' P := by
  have k : ah_k h 44 = 20 := by
    have := ss_43 c.1
    exact this.2.2.1
  refine c.fr f (fun a _ e => ?_) ?_ ?_ ?_ ?_ ?_ ?_ ?_ ?_
  · rw [show a = 44 from e, k]; decide
  all_goals exact fun _ e => absurd (show _ = 44 from e) (by decide)
theorem d_152 (c : CP h P) {H : Nat} (hH : H < 2 ^ 62) : TC sc (d + 3) 152 [.ref 43, .ref 31, .long (lN H)] h fun q h' => q = .inl (some (.int (bI (chd P (Hd P H))))) ∧ FR h h' S44 ∧ v44 h' (vals P (Hd P H)) := by
  have hm := c.m
  have hHd : Hd P H < 2 ^ 62 := and_lt hH
  generalize hQ : (fun (q : Rs) (h' : AH) => q = .inl (some (.int (bI (chd P (Hd P H))))) ∧ FR h h' S44 ∧ v44 h' (vals P (Hd P H))) = Q
  have lin : ∀ j, j ≤ 4 → (rds P (Hd P H) j).2 = true → (∀ h', FR h h' S44 → v44 h' (rds P (Hd P H) (j + 1)).1 → ∀ x y : Value, TT sc (d + 2) 152 Q 27 [.ref 43, .ref 31, .long (lN H), unk, .long (lN (Hd P H)), unk, .int (bI (rds P (Hd P H) (j + 1)).2), .int (nI (j + 1)), x, y] [] h') →
      ∀ k, k ≤ P_m P → ∀ h', FR h h' S44 → v44 h' (rdv P (Hd P H) (rds P (Hd P H) j).1 k) → ∀ y : Value, TT sc (d + 2) 152 Q 36 [.ref 43, .ref 31, .long (lN H), unk, .long (lN (Hd P H)), unk, .int (bI (rdb P (Hd P H) (rds P (Hd P H) j).1 k)), .int (nI j), .int (nI k), y] [] h' := by
    intro j hj hs K
    refine up_to fun k hk ih h' f hv y => ?_
    have c' := f44 c f
    by_cases e : k = P_m P
    · subst e
      refine wx_sound (S := [27, 36]) 60 true _ _ _ _ ?_
      simp +contextual (disch := omega) only [K152, wx_t, wx_g, wJ_t, wJ_f, wI_s, CI, CL, C01, aftC_v, aftC_n, true_or, or_true, true_and, and_true, inS_n, inS_c, pI_c, pL_c, pA_c, pV_c, pE_c, pQ_s, pQ_n, pQ_r, cm_eq', cm_ne', cm_lt', cm_ge', cm_gt', cm_le', List.getD_cons_zero, List.getD_cons_succ, Nat.reduceAdd, Nat.reduceBEq, Bool.false_or, Bool.or_false, Bool.true_or, Int.reduceToNat, s_iload, s_lload, s_aload, s_istore, s_astore, s_lstore, s_iconst, s_sipush, s_aconst_null, s_iadd, s_isub, s_imul, s_iand, s_ior, s_ixor, s_idiv, s_irem, s_ishl, s_ishr, s_iushr, s_ladd, s_lsub, s_land, s_lor, s_lxor, s_lneg, s_lshl, s_lshr, s_lushr, s_i2l, s_l2i, s_lcmp, s_dup, s_pop, s_dup2, s_i2c, s_i2s, s_monitorenter, s_ifCond, s_if_icmp, s_ifnull, s_goto, s_iinc, s_tableswitch, s_ireturn, s_freturn, s_lreturn, s_areturn, s_return_, s_ldc, s_getfield, s_putfield, s_iaload, s_iastore, s_laload, s_lastore, s_baload, s_bastore, s_aaload, s_aastore, s_arraylength, s_newarray, s_anewarray, s_new, s_invokestatic, s_invokespecial, s_invokevirtual, fvl_0, fvl_1, fvl_2, fvl_3, fp_0, fp_1, fp_2, fp_3, rf_s, rf_n, isRf_b, knw_b, isLg_b, popA_0, popA_s, st1_0, st1_s, st2_e, set_0, set_s, aftC_e, hxP_s, hxP_n, iteF, iteT, bft, im_t, im_f, nt_f, nt_t, Nat.reduceDiv, Nat.reduceMod, Nat.reduceLeDiff, Nat.reduceLT, Nat.reduceEqDiff, List.length_cons, List.length_nil, Nat.zero_add, Nat.reduceSub, List.cons_append, List.nil_append, ak_i, az_i, ar_i, al_i, ai_i, ak_l, az_l, ar_l, al_l, ai_l, ak_r, az_r, ar_r, al_r, ai_r, pk_m1, reduceCtorEq, msk_tb, mskL, Bool.and_eq_true, decide_eq_true_eq, lg_0, lg_t, lg_g, lg_e, lg_l, tb_z, Nat.mod_eq_of_lt, lN_1s, and_ze, brT, brF, brN, vpT, a4095, a63, nI_e, nI_l', nI_t', dif_z, and_z, and_zr, lN_e, nI_clamp, nx_shr, Nat.reducePow, bI_0, bI_1, bI_z, bI_o, bI_or, n01, nI_add, pk_mul, nx_and, nx_or, nx_dif, lx_and, lx_or, lx_dif, Bool.not_eq_true, Bool.not_eq_false, Bool.true_eq_false, Bool.false_eq_true, ss_0 c'.1, ss_19 c'.1, ss_23 c'.1, ss_27 c'.1, ss_28 c'.1, ss_31 c'.1, ss_43 c'.1, ss_45 c'.1, ss_46 c'.1, ss_49 c'.1, c'.f, d_217 c', c_56]
      have e1 : rds P (Hd P H) (j + 1) = (rdv P (Hd P H) (rds P (Hd P H) j).1 (P_m P), rdb P (Hd P H) (rds P (Hd P H) j).1 (P_m P)) := by rw [rds, if_pos hs]
      have := K h' f (by rw [e1]; exact hv) (.int (nI (P_m P))) y
      rw [e1] at this
      exact this
    · have hk2 : k < P_m P := by omega
      obtain ⟨r, hr, ru⟩ := (c'.i hk2).2.2.2.2
      refine wx_sound (S := [27, 36]) 60 true _ _ _ _ ?_
      simp +contextual (disch := omega) only [K152, wx_t, wx_g, wJ_t, wJ_f, wI_s, CI, CL, C01, aftC_v, aftC_n, true_or, or_true, true_and, and_true, inS_n, inS_c, pI_c, pL_c, pA_c, pV_c, pE_c, pQ_s, pQ_n, pQ_r, cm_eq', cm_ne', cm_lt', cm_ge', cm_gt', cm_le', List.getD_cons_zero, List.getD_cons_succ, Nat.reduceAdd, Nat.reduceBEq, Bool.false_or, Bool.or_false, Bool.true_or, Int.reduceToNat, s_iload, s_lload, s_aload, s_istore, s_astore, s_lstore, s_iconst, s_sipush, s_aconst_null, s_iadd, s_isub, s_imul, s_iand, s_ior, s_ixor, s_idiv, s_irem, s_ishl, s_ishr, s_iushr, s_ladd, s_lsub, s_land, s_lor, s_lxor, s_lneg, s_lshl, s_lshr, s_lushr, s_i2l, s_l2i, s_lcmp, s_dup, s_pop, s_dup2, s_i2c, s_i2s, s_monitorenter, s_ifCond, s_if_icmp, s_ifnull, s_goto, s_iinc, s_tableswitch, s_ireturn, s_freturn, s_lreturn, s_areturn, s_return_, s_ldc, s_getfield, s_putfield, s_iaload, s_iastore, s_laload, s_lastore, s_baload, s_bastore, s_aaload, s_aastore, s_arraylength, s_newarray, s_anewarray, s_new, s_invokestatic, s_invokespecial, s_invokevirtual, fvl_0, fvl_1, fvl_2, fvl_3, fp_0, fp_1, fp_2, fp_3, rf_s, rf_n, isRf_b, knw_b, isLg_b, popA_0, popA_s, st1_0, st1_s, st2_e, set_0, set_s, aftC_e, hxP_s, hxP_n, iteF, iteT, bft, im_t, im_f, nt_f, nt_t, Nat.reduceDiv, Nat.reduceMod, Nat.reduceLeDiff, Nat.reduceLT, Nat.reduceEqDiff, List.length_cons, List.length_nil, Nat.zero_add, Nat.reduceSub, List.cons_append, List.nil_append, ak_i, az_i, ar_i, al_i, ai_i, ak_l, az_l, ar_l, al_l, ai_l, ak_r, az_r, ar_r, al_r, ai_r, pk_m1, reduceCtorEq, msk_tb, mskL, Bool.and_eq_true, decide_eq_true_eq, lg_0, lg_t, lg_g, lg_e, lg_l, tb_z, Nat.mod_eq_of_lt, lN_1s, and_ze, brT, brF, brN, vpT, a4095, a63, nI_e, nI_l', nI_t', dif_z, and_z, and_zr, lN_e, nI_clamp, nx_shr, Nat.reducePow, bI_0, bI_1, bI_z, bI_o, bI_or, n01, nI_add, pk_mul, nx_and, nx_or, nx_dif, lx_and, lx_or, lx_dif, Bool.not_eq_true, Bool.not_eq_false, Bool.true_eq_false, Bool.false_eq_true, ss_0 c'.1, ss_19 c'.1, ss_23 c'.1, ss_27 c'.1, ss_28 c'.1, ss_31 c'.1, ss_43 c'.1, ss_45 c'.1, ss_46 c'.1, ss_49 c'.1, c'.f, d_217 c', c_56, hr, ru.1, ru.2.1, ru.2.2.1]
      have ih := ih hk2
      simp only [rdv, rdb] at ih
      refine And.intro (fun e1 => ?_) fun e1 => ?_
      · simp only [e1, Bool.false_eq_true, if_false] at ih
        exact ih h' f hv _
      · simp only [e1, if_true] at ih
        have k3 := Hd_k k e1 hk2
        refine TC_mono (d_153 c'.1 ru (dOK_of c.2.2 hk2 k3) k3 (b := 6000 * j + 100 * k) (by omega) (rdv_bnd c.2.2 Hd_k (rds_bnd c.2.2 Hd_k j) k hk) hv) ?_
        rintro q h'' ⟨rfl, f2, v2⟩
        simp +contextual (disch := omega) only [K152, wx_t, wx_g, wJ_t, wJ_f, wI_s, CI, CL, C01, aftC_v, aftC_n, true_or, or_true, true_and, and_true, inS_n, inS_c, pI_c, pL_c, pA_c, pV_c, pE_c, pQ_s, pQ_n, pQ_r, cm_eq', cm_ne', cm_lt', cm_ge', cm_gt', cm_le', List.getD_cons_zero, List.getD_cons_succ, Nat.reduceAdd, Nat.reduceBEq, Bool.false_or, Bool.or_false, Bool.true_or, Int.reduceToNat, s_iload, s_lload, s_aload, s_istore, s_astore, s_lstore, s_iconst, s_sipush, s_aconst_null, s_iadd, s_isub, s_imul, s_iand, s_ior, s_ixor, s_idiv, s_irem, s_ishl, s_ishr, s_iushr, s_ladd, s_lsub, s_land, s_lor, s_lxor, s_lneg, s_lshl, s_lshr, s_lushr, s_i2l, s_l2i, s_lcmp, s_dup, s_pop, s_dup2, s_i2c, s_i2s, s_monitorenter, s_ifCond, s_if_icmp, s_ifnull, s_goto, s_iinc, s_tableswitch, s_ireturn, s_freturn, s_lreturn, s_areturn, s_return_, s_ldc, s_getfield, s_putfield, s_iaload, s_iastore, s_laload, s_lastore, s_baload, s_bastore, s_aaload, s_aastore, s_arraylength, s_newarray, s_anewarray, s_new, s_invokestatic, s_invokespecial, s_invokevirtual, fvl_0, fvl_1, fvl_2, fvl_3, fp_0, fp_1, fp_2, fp_3, rf_s, rf_n, isRf_b, knw_b, isLg_b, popA_0, popA_s, st1_0, st1_s, st2_e, set_0, set_s, aftC_e, hxP_s, hxP_n, iteF, iteT, bft, im_t, im_f, nt_f, nt_t, Nat.reduceDiv, Nat.reduceMod, Nat.reduceLeDiff, Nat.reduceLT, Nat.reduceEqDiff, List.length_cons, List.length_nil, Nat.zero_add, Nat.reduceSub, List.cons_append, List.nil_append, ak_i, az_i, ar_i, al_i, ai_i, ak_l, az_l, ar_l, al_l, ai_l, ak_r, az_r, ar_r, al_r, ai_r, pk_m1, reduceCtorEq, msk_tb, mskL, Bool.and_eq_true, decide_eq_true_eq, lg_0, lg_t, lg_g, lg_e, lg_l, tb_z, Nat.mod_eq_of_lt, lN_1s, and_ze, brT, brF, brN, vpT, a4095, a63, nI_e, nI_l', nI_t', dif_z, and_z, and_zr, lN_e, nI_clamp, nx_shr, Nat.reducePow, bI_0, bI_1, bI_z, bI_o, bI_or, n01, nI_add, pk_mul, nx_and, nx_or, nx_dif, lx_and, lx_or, lx_dif, Bool.not_eq_true, Bool.not_eq_false, Bool.true_eq_false, Bool.false_eq_true, bI_oI]
        exact ih h'' (f.trans f2 fun _ _ h => h) v2 _
  have lo : ∀ j, j ≤ 5 → ∀ h', FR h h' S44 → v44 h' (rds P (Hd P H) j).1 → ∀ x y : Value, TT sc (d + 2) 152 Q 27 [.ref 43, .ref 31, .long (lN H), unk, .long (lN (Hd P H)), unk, .int (bI (rds P (Hd P H) j).2), .int (nI j), x, y] [] h' := by
    refine up_to fun j hj ih h' f hv x y => ?_
    have c' := f44 c f
    refine wx_sound (S := [27, 36]) 60 true _ _ _ _ ?_
    simp +contextual (disch := omega) only [K152, wx_t, wx_g, wJ_t, wJ_f, wI_s, CI, CL, C01, aftC_v, aftC_n, true_or, or_true, true_and, and_true, inS_n, inS_c, pI_c, pL_c, pA_c, pV_c, pE_c, pQ_s, pQ_n, pQ_r, cm_eq', cm_ne', cm_lt', cm_ge', cm_gt', cm_le', List.getD_cons_zero, List.getD_cons_succ, Nat.reduceAdd, Nat.reduceBEq, Bool.false_or, Bool.or_false, Bool.true_or, Int.reduceToNat, s_iload, s_lload, s_aload, s_istore, s_astore, s_lstore, s_iconst, s_sipush, s_aconst_null, s_iadd, s_isub, s_imul, s_iand, s_ior, s_ixor, s_idiv, s_irem, s_ishl, s_ishr, s_iushr, s_ladd, s_lsub, s_land, s_lor, s_lxor, s_lneg, s_lshl, s_lshr, s_lushr, s_i2l, s_l2i, s_lcmp, s_dup, s_pop, s_dup2, s_i2c, s_i2s, s_monitorenter, s_ifCond, s_if_icmp, s_ifnull, s_goto, s_iinc, s_tableswitch, s_ireturn, s_freturn, s_lreturn, s_areturn, s_return_, s_ldc, s_getfield, s_putfield, s_iaload, s_iastore, s_laload, s_lastore, s_baload, s_bastore, s_aaload, s_aastore, s_arraylength, s_newarray, s_anewarray, s_new, s_invokestatic, s_invokespecial, s_invokevirtual, fvl_0, fvl_1, fvl_2, fvl_3, fp_0, fp_1, fp_2, fp_3, rf_s, rf_n, isRf_b, knw_b, isLg_b, popA_0, popA_s, st1_0, st1_s, st2_e, set_0, set_s, aftC_e, hxP_s, hxP_n, iteF, iteT, bft, im_t, im_f, nt_f, nt_t, Nat.reduceDiv, Nat.reduceMod, Nat.reduceLeDiff, Nat.reduceLT, Nat.reduceEqDiff, List.length_cons, List.length_nil, Nat.zero_add, Nat.reduceSub, List.cons_append, List.nil_append, ak_i, az_i, ar_i, al_i, ai_i, ak_l, az_l, ar_l, al_l, ai_l, ak_r, az_r, ar_r, al_r, ai_r, pk_m1, reduceCtorEq, msk_tb, mskL, Bool.and_eq_true, decide_eq_true_eq, lg_0, lg_t, lg_g, lg_e, lg_l, tb_z, Nat.mod_eq_of_lt, lN_1s, and_ze, brT, brF, brN, vpT, a4095, a63, nI_e, nI_l', nI_t', dif_z, and_z, and_zr, lN_e, nI_clamp, nx_shr, Nat.reducePow, bI_0, bI_1, bI_z, bI_o, bI_or, n01, nI_add, pk_mul, nx_and, nx_or, nx_dif, lx_and, lx_or, lx_dif, Bool.not_eq_true, Bool.not_eq_false, Bool.true_eq_false, Bool.false_eq_true, ss_0 c'.1, ss_19 c'.1, ss_23 c'.1, ss_27 c'.1, ss_28 c'.1, ss_31 c'.1, ss_43 c'.1, ss_45 c'.1, ss_46 c'.1, ss_49 c'.1, c'.f]
    have fin : (rds P (Hd P H) j) = rds P (Hd P H) 5 → ∀ b : Bool, (rds P (Hd P H) j).2 = b → Q (.inl (some (.int (bI (!b))))) h' := fun e b hb => by
      rw [← hQ]
      refine ⟨?_, f, ?_⟩
      · rw [chd, ← e, hb]
      · rw [vals, ← e]; exact hv
    have stt : (rds P (Hd P H) j).2 = false → (rds P (Hd P H) j) = rds P (Hd P H) 5 := fun e => (rds_st e j hj).symm
    refine And.intro (fun e => ?_) fun e => And.intro (fun e1 => fin (stt e1) _ e1) fun e1 => ?_
    · have : j = 5 := by omega
      subst this
      exact And.intro (fun e1 => fin rfl _ e1) fun e1 => fin rfl _ e1
    · exact lin j (by omega) e1 (fun h'' f2 v2 x y => ih (by omega) h'' f2 v2 x y) 0 (by omega) h' f hv y
  have hf : H &&& (msk (P_m P) fun i => decide (P_kd P i = 3)) = Hd P H := rfl
  have cl : ∀ k, k ≤ 4 → ∀ h', FR h h' S44 → (∀ x, x < k → ah_i h' 44 x = nI 0) → ∀ a b c d' e f : Value, TT sc (d + 2) 152 Q 2 [.ref 43, .ref 31, .long (lN H), unk, .int (nI k), a, b, c, e, f] [] h' := by
    refine up_to fun k hk ih h' f4 v4 a1 a2 a3 a4 a5 a6 => ?_
    have c' := f44 c f4
    by_cases hk4 : k = 4
    · subst hk4
      have v4 : v44 h' fun _ => 0 := v4
      refine wx_sound (S := [2, 27, 36]) 60 true _ _ _ _ ?_
      simp +contextual (disch := omega) only [K152, wx_t, wx_g, wJ_t, wJ_f, wI_s, CI, CL, C01, aftC_v, aftC_n, true_or, or_true, true_and, and_true, inS_n, inS_c, pI_c, pL_c, pA_c, pV_c, pE_c, pQ_s, pQ_n, pQ_r, cm_eq', cm_ne', cm_lt', cm_ge', cm_gt', cm_le', List.getD_cons_zero, List.getD_cons_succ, Nat.reduceAdd, Nat.reduceBEq, Bool.false_or, Bool.or_false, Bool.true_or, Int.reduceToNat, s_iload, s_lload, s_aload, s_istore, s_astore, s_lstore, s_iconst, s_sipush, s_aconst_null, s_iadd, s_isub, s_imul, s_iand, s_ior, s_ixor, s_idiv, s_irem, s_ishl, s_ishr, s_iushr, s_ladd, s_lsub, s_land, s_lor, s_lxor, s_lneg, s_lshl, s_lshr, s_lushr, s_i2l, s_l2i, s_lcmp, s_dup, s_pop, s_dup2, s_i2c, s_i2s, s_monitorenter, s_ifCond, s_if_icmp, s_ifnull, s_goto, s_iinc, s_tableswitch, s_ireturn, s_freturn, s_lreturn, s_areturn, s_return_, s_ldc, s_getfield, s_putfield, s_iaload, s_iastore, s_laload, s_lastore, s_baload, s_bastore, s_aaload, s_aastore, s_arraylength, s_newarray, s_anewarray, s_new, s_invokestatic, s_invokespecial, s_invokevirtual, fvl_0, fvl_1, fvl_2, fvl_3, fp_0, fp_1, fp_2, fp_3, rf_s, rf_n, isRf_b, knw_b, isLg_b, popA_0, popA_s, st1_0, st1_s, st2_e, set_0, set_s, aftC_e, hxP_s, hxP_n, iteF, iteT, bft, im_t, im_f, nt_f, nt_t, Nat.reduceDiv, Nat.reduceMod, Nat.reduceLeDiff, Nat.reduceLT, Nat.reduceEqDiff, List.length_cons, List.length_nil, Nat.zero_add, Nat.reduceSub, List.cons_append, List.nil_append, ak_i, az_i, ar_i, al_i, ai_i, ak_l, az_l, ar_l, al_l, ai_l, ak_r, az_r, ar_r, al_r, ai_r, pk_m1, reduceCtorEq, msk_tb, mskL, Bool.and_eq_true, decide_eq_true_eq, lg_0, lg_t, lg_g, lg_e, lg_l, tb_z, Nat.mod_eq_of_lt, lN_1s, and_ze, brT, brF, brN, vpT, a4095, a63, nI_e, nI_l', nI_t', dif_z, and_z, and_zr, lN_e, nI_clamp, nx_shr, Nat.reducePow, bI_0, bI_1, bI_z, bI_o, bI_or, n01, nI_add, pk_mul, nx_and, nx_or, nx_dif, lx_and, lx_or, lx_dif, Bool.not_eq_true, Bool.not_eq_false, Bool.true_eq_false, Bool.false_eq_true, ss_0 c'.1, ss_19 c'.1, ss_23 c'.1, ss_27 c'.1, ss_28 c'.1, ss_31 c'.1, ss_43 c'.1, ss_45 c'.1, ss_46 c'.1, ss_49 c'.1, c'.f, hf]
      refine And.intro (fun e => ?_) fun e => ?_
      · have e5 : rds P (Hd P H) 5 = (fun _ => 0, false) := by
          have e1 : rds P (Hd P H) 1 = (fun _ => 0, false) := by
            rw [rds, rds, e]
            simp only [if_true, rdv_0, rdb_0]
          rw [rds_st (by rw [e1]) 1 (by omega), e1]
        refine wx_sound (S := [2, 27, 36]) 60 true _ _ _ _ ?_
        simp +contextual (disch := omega) only [K152, wx_t, wx_g, wJ_t, wJ_f, wI_s, CI, CL, C01, aftC_v, aftC_n, true_or, or_true, true_and, and_true, inS_n, inS_c, pI_c, pL_c, pA_c, pV_c, pE_c, pQ_s, pQ_n, pQ_r, cm_eq', cm_ne', cm_lt', cm_ge', cm_gt', cm_le', List.getD_cons_zero, List.getD_cons_succ, Nat.reduceAdd, Nat.reduceBEq, Bool.false_or, Bool.or_false, Bool.true_or, Int.reduceToNat, s_iload, s_lload, s_aload, s_istore, s_astore, s_lstore, s_iconst, s_sipush, s_aconst_null, s_iadd, s_isub, s_imul, s_iand, s_ior, s_ixor, s_idiv, s_irem, s_ishl, s_ishr, s_iushr, s_ladd, s_lsub, s_land, s_lor, s_lxor, s_lneg, s_lshl, s_lshr, s_lushr, s_i2l, s_l2i, s_lcmp, s_dup, s_pop, s_dup2, s_i2c, s_i2s, s_monitorenter, s_ifCond, s_if_icmp, s_ifnull, s_goto, s_iinc, s_tableswitch, s_ireturn, s_freturn, s_lreturn, s_areturn, s_return_, s_ldc, s_getfield, s_putfield, s_iaload, s_iastore, s_laload, s_lastore, s_baload, s_bastore, s_aaload, s_aastore, s_arraylength, s_newarray, s_anewarray, s_new, s_invokestatic, s_invokespecial, s_invokevirtual, fvl_0, fvl_1, fvl_2, fvl_3, fp_0, fp_1, fp_2, fp_3, rf_s, rf_n, isRf_b, knw_b, isLg_b, popA_0, popA_s, st1_0, st1_s, st2_e, set_0, set_s, aftC_e, hxP_s, hxP_n, iteF, iteT, bft, im_t, im_f, nt_f, nt_t, Nat.reduceDiv, Nat.reduceMod, Nat.reduceLeDiff, Nat.reduceLT, Nat.reduceEqDiff, List.length_cons, List.length_nil, Nat.zero_add, Nat.reduceSub, List.cons_append, List.nil_append, ak_i, az_i, ar_i, al_i, ai_i, ak_l, az_l, ar_l, al_l, ai_l, ak_r, az_r, ar_r, al_r, ai_r, pk_m1, reduceCtorEq, msk_tb, mskL, Bool.and_eq_true, decide_eq_true_eq, lg_0, lg_t, lg_g, lg_e, lg_l, tb_z, Nat.mod_eq_of_lt, lN_1s, and_ze, brT, brF, brN, vpT, a4095, a63, nI_e, nI_l', nI_t', dif_z, and_z, and_zr, lN_e, nI_clamp, nx_shr, Nat.reducePow, bI_0, bI_1, bI_z, bI_o, bI_or, n01, nI_add, pk_mul, nx_and, nx_or, nx_dif, lx_and, lx_or, lx_dif, Bool.not_eq_true, Bool.not_eq_false, Bool.true_eq_false, Bool.false_eq_true, ss_0 c'.1, ss_19 c'.1, ss_23 c'.1, ss_27 c'.1, ss_28 c'.1, ss_31 c'.1, ss_43 c'.1, ss_45 c'.1, ss_46 c'.1, ss_49 c'.1, c'.f]
        rw [← hQ]
        refine ⟨?_, f4, ?_⟩
        · rw [chd, e5]; rfl
        · rw [vals, e5]; exact v4
      · exact lo 0 (by omega) _ f4 v4 _ _
    · refine wx_sound (S := [2, 27, 36]) 60 true _ _ _ _ ?_
      simp +contextual (disch := omega) only [K152, wx_t, wx_g, wJ_t, wJ_f, wI_s, CI, CL, C01, aftC_v, aftC_n, true_or, or_true, true_and, and_true, inS_n, inS_c, pI_c, pL_c, pA_c, pV_c, pE_c, pQ_s, pQ_n, pQ_r, cm_eq', cm_ne', cm_lt', cm_ge', cm_gt', cm_le', List.getD_cons_zero, List.getD_cons_succ, Nat.reduceAdd, Nat.reduceBEq, Bool.false_or, Bool.or_false, Bool.true_or, Int.reduceToNat, s_iload, s_lload, s_aload, s_istore, s_astore, s_lstore, s_iconst, s_sipush, s_aconst_null, s_iadd, s_isub, s_imul, s_iand, s_ior, s_ixor, s_idiv, s_irem, s_ishl, s_ishr, s_iushr, s_ladd, s_lsub, s_land, s_lor, s_lxor, s_lneg, s_lshl, s_lshr, s_lushr, s_i2l, s_l2i, s_lcmp, s_dup, s_pop, s_dup2, s_i2c, s_i2s, s_monitorenter, s_ifCond, s_if_icmp, s_ifnull, s_goto, s_iinc, s_tableswitch, s_ireturn, s_freturn, s_lreturn, s_areturn, s_return_, s_ldc, s_getfield, s_putfield, s_iaload, s_iastore, s_laload, s_lastore, s_baload, s_bastore, s_aaload, s_aastore, s_arraylength, s_newarray, s_anewarray, s_new, s_invokestatic, s_invokespecial, s_invokevirtual, fvl_0, fvl_1, fvl_2, fvl_3, fp_0, fp_1, fp_2, fp_3, rf_s, rf_n, isRf_b, knw_b, isLg_b, popA_0, popA_s, st1_0, st1_s, st2_e, set_0, set_s, aftC_e, hxP_s, hxP_n, iteF, iteT, bft, im_t, im_f, nt_f, nt_t, Nat.reduceDiv, Nat.reduceMod, Nat.reduceLeDiff, Nat.reduceLT, Nat.reduceEqDiff, List.length_cons, List.length_nil, Nat.zero_add, Nat.reduceSub, List.cons_append, List.nil_append, ak_i, az_i, ar_i, al_i, ai_i, ak_l, az_l, ar_l, al_l, ai_l, ak_r, az_r, ar_r, al_r, ai_r, pk_m1, reduceCtorEq, msk_tb, mskL, Bool.and_eq_true, decide_eq_true_eq, lg_0, lg_t, lg_g, lg_e, lg_l, tb_z, Nat.mod_eq_of_lt, lN_1s, and_ze, brT, brF, brN, vpT, a4095, a63, nI_e, nI_l', nI_t', dif_z, and_z, and_zr, lN_e, nI_clamp, nx_shr, Nat.reducePow, bI_0, bI_1, bI_z, bI_o, bI_or, n01, nI_add, pk_mul, nx_and, nx_or, nx_dif, lx_and, lx_or, lx_dif, Bool.not_eq_true, Bool.not_eq_false, Bool.true_eq_false, Bool.false_eq_true, ss_0 c'.1, ss_19 c'.1, ss_23 c'.1, ss_27 c'.1, ss_28 c'.1, ss_31 c'.1, ss_43 c'.1, ss_45 c'.1, ss_46 c'.1, ss_49 c'.1, c'.f, hf]
      refine ih (by omega) _ (f4.i rfl) (fun x hx => ?_) _ _ _ .null _ _
      rw [ai_i]
      by_cases q : x = k
      · rw [if_pos ⟨rfl, q⟩]
      · rw [if_neg (fun z => q z.2)]; exact v4 x (by omega)
  refine TC_e (ls := [.ref 43, .ref 31, .long (lN H), unk, unk, unk, unk, unk, unk, unk]) (Nat.le_of_ble_eq_true rfl) rfl (wx_sound (S := [2, 27, 36]) 20 true _ _ _ _ ?_)
  simp +contextual (disch := omega) only [K152, wx_t, wx_g, wJ_t, wJ_f, wI_s, CI, CL, C01, aftC_v, aftC_n, true_or, or_true, true_and, and_true, inS_n, inS_c, pI_c, pL_c, pA_c, pV_c, pE_c, pQ_s, pQ_n, pQ_r, cm_eq', cm_ne', cm_lt', cm_ge', cm_gt', cm_le', List.getD_cons_zero, List.getD_cons_succ, Nat.reduceAdd, Nat.reduceBEq, Bool.false_or, Bool.or_false, Bool.true_or, Int.reduceToNat, s_iload, s_lload, s_aload, s_istore, s_astore, s_lstore, s_iconst, s_sipush, s_aconst_null, s_iadd, s_isub, s_imul, s_iand, s_ior, s_ixor, s_idiv, s_irem, s_ishl, s_ishr, s_iushr, s_ladd, s_lsub, s_land, s_lor, s_lxor, s_lneg, s_lshl, s_lshr, s_lushr, s_i2l, s_l2i, s_lcmp, s_dup, s_pop, s_dup2, s_i2c, s_i2s, s_monitorenter, s_ifCond, s_if_icmp, s_ifnull, s_goto, s_iinc, s_tableswitch, s_ireturn, s_freturn, s_lreturn, s_areturn, s_return_, s_ldc, s_getfield, s_putfield, s_iaload, s_iastore, s_laload, s_lastore, s_baload, s_bastore, s_aaload, s_aastore, s_arraylength, s_newarray, s_anewarray, s_new, s_invokestatic, s_invokespecial, s_invokevirtual, fvl_0, fvl_1, fvl_2, fvl_3, fp_0, fp_1, fp_2, fp_3, rf_s, rf_n, isRf_b, knw_b, isLg_b, popA_0, popA_s, st1_0, st1_s, st2_e, set_0, set_s, aftC_e, hxP_s, hxP_n, iteF, iteT, bft, im_t, im_f, nt_f, nt_t, Nat.reduceDiv, Nat.reduceMod, Nat.reduceLeDiff, Nat.reduceLT, Nat.reduceEqDiff, List.length_cons, List.length_nil, Nat.zero_add, Nat.reduceSub, List.cons_append, List.nil_append, ak_i, az_i, ar_i, al_i, ai_i, ak_l, az_l, ar_l, al_l, ai_l, ak_r, az_r, ar_r, al_r, ai_r, pk_m1, reduceCtorEq, msk_tb, mskL, Bool.and_eq_true, decide_eq_true_eq, lg_0, lg_t, lg_g, lg_e, lg_l, tb_z, Nat.mod_eq_of_lt, lN_1s, and_ze, brT, brF, brN, vpT, a4095, a63, nI_e, nI_l', nI_t', dif_z, and_z, and_zr, lN_e, nI_clamp, nx_shr, Nat.reducePow, bI_0, bI_1, bI_z, bI_o, bI_or, n01, nI_add, pk_mul, nx_and, nx_or, nx_dif, lx_and, lx_or, lx_dif, Bool.not_eq_true, Bool.not_eq_false, Bool.true_eq_false, Bool.false_eq_true, ss_0 c.1, ss_19 c.1, ss_23 c.1, ss_27 c.1, ss_28 c.1, ss_31 c.1, ss_43 c.1, ss_45 c.1, ss_46 c.1, ss_49 c.1, c.f, hf]
  exact cl 0 (by omega) h (FR.refl h _) (fun x hx => absurd hx (by omega)) _ _ _ .null _ _
end CLS
