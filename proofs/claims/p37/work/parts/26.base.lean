/-! THE BASE: numbers, sets as numbers, the heap's cells after a change -/
theorem z0 : (0 : Int32) = nI 0 := rfl
theorem z1 : (1 : Int32) = nI 1 := rfl
theorem lz0 : (0 : Int64) = lN 0 := rfl
/-- a boolean as an int -/
def bI (b : Bool) : Int32 := nI b.toNat
theorem bI_0 (b : Bool) : (bI b = nI 0) = (b = false) := by cases b <;> simp [bI, nI]
theorem bI_1 (b : Bool) : (bI b = nI 1) = (b = true) := by cases b <;> simp [bI, nI]
theorem bI_z (b : Bool) : (bI b = 0) = (b = false) := bI_0 b
theorem bI_o (b : Bool) : (bI b = 1) = (b = true) := bI_1 b
theorem bI_t : nI 1 = bI true := rfl
theorem bI_f : nI 0 = bI false := rfl
theorem bI_or (b : Bool) : (bI b = 0 ∨ bI b = 1) = True := by cases b <;> simp [bI, nI]
theorem n01 : ((nI 0 = 0 ∨ nI 0 = 1) = True) ∧ ((nI 1 = 0 ∨ nI 1 = 1) = True) := by simp [nI]
/-- the truth of a proposition -/
noncomputable def bP (p : Prop) : Bool := @decide p (Classical.propDecidable p)
theorem bP_t {p : Prop} : (bP p = true) = p := propext (@decide_eq_true_iff p (Classical.propDecidable p))
theorem bP_f {p : Prop} : (bP p = false) = ¬ p := propext (@decide_eq_false_iff_not p (Classical.propDecidable p))
theorem bP_of {p : Prop} (h : p) : bP p = true := bP_t.mpr h
theorem bP_no {p : Prop} (h : ¬ p) : bP p = false := bP_f.mpr h
theorem bP_c {p q : Prop} (h : p ↔ q) : bP p = bP q := by rw [propext h]
theorem bP_b (b : Bool) : bP (b = true) = b := by cases b <;> simp [bP]
theorem bP_d {p : Prop} [i : Decidable p] : decide p = bP p := by by_cases h : p <;> simp [bP, h]
theorem ifs {c A B : Prop} (f : c → A) (g : ¬ c → B) : (c → A) ∧ (¬ c → B) := ⟨f, g⟩
/-! sets as numbers -/
theorem nx_and (a b : Nat) : nI a &&& nI b = nI (a &&& b) := by
  apply Int32.toBitVec_inj.1
  show BitVec.ofNat 32 a &&& BitVec.ofNat 32 b = BitVec.ofNat 32 (a &&& b)
  apply BitVec.eq_of_getLsbD_eq
  intro i hi
  simp [hi]
theorem nx_or (a b : Nat) : nI a ||| nI b = nI (a ||| b) := by
  apply Int32.toBitVec_inj.1
  show BitVec.ofNat 32 a ||| BitVec.ofNat 32 b = BitVec.ofNat 32 (a ||| b)
  apply BitVec.eq_of_getLsbD_eq
  intro i hi
  simp [hi]
theorem lx_and (a b : Nat) : lN a &&& lN b = lN (a &&& b) := by
  apply Int64.toBitVec_inj.1
  show BitVec.ofNat 64 a &&& BitVec.ofNat 64 b = BitVec.ofNat 64 (a &&& b)
  apply BitVec.eq_of_getLsbD_eq
  intro i hi
  simp [hi]
theorem lx_or (a b : Nat) : lN a ||| lN b = lN (a ||| b) := by
  apply Int64.toBitVec_inj.1
  show BitVec.ofNat 64 a ||| BitVec.ofNat 64 b = BitVec.ofNat 64 (a ||| b)
  apply BitVec.eq_of_getLsbD_eq
  intro i hi
  simp [hi]
/-- the one without the other -/
def dif (a b : Nat) : Nat := a ^^^ (a &&& b)
theorem dif_tb (a b i : Nat) : (dif a b).testBit i = (a.testBit i && !b.testBit i) := by
  unfold dif
  rw [Nat.testBit_xor, Nat.testBit_and]
  cases a.testBit i <;> cases b.testBit i <;> rfl
theorem nx_dif (a b : Nat) : nI a &&& (nI b ^^^ (-1)) = nI (dif a b) := by
  apply Int32.toBitVec_inj.1
  show BitVec.ofNat 32 a &&& (BitVec.ofNat 32 b ^^^ BitVec.allOnes 32) = BitVec.ofNat 32 (dif a b)
  apply BitVec.eq_of_getLsbD_eq
  intro i hi
  simp only [BitVec.getLsbD_and, BitVec.getLsbD_xor, BitVec.getLsbD_allOnes, BitVec.getLsbD_ofNat, hi, dif_tb, decide_true, Bool.true_and, Bool.xor_true]
theorem lx_dif (a b : Nat) : lN a &&& (lN b ^^^ (-1)) = lN (dif a b) := by
  apply Int64.toBitVec_inj.1
  show BitVec.ofNat 64 a &&& (BitVec.ofNat 64 b ^^^ BitVec.allOnes 64) = BitVec.ofNat 64 (dif a b)
  apply BitVec.eq_of_getLsbD_eq
  intro i hi
  simp only [BitVec.getLsbD_and, BitVec.getLsbD_xor, BitVec.getLsbD_allOnes, BitVec.getLsbD_ofNat, hi, dif_tb, decide_true, Bool.true_and, Bool.xor_true]
theorem nx_m1 (a : Nat) : nI a &&& (-1) = nI a := by
  apply Int32.toBitVec_inj.1
  show BitVec.ofNat 32 a &&& BitVec.allOnes 32 = BitVec.ofNat 32 a
  exact BitVec.and_allOnes
theorem lx_m1 (a : Nat) : lN a &&& (-1) = lN a := by
  apply Int64.toBitVec_inj.1
  show BitVec.ofNat 64 a &&& BitVec.allOnes 64 = BitVec.ofNat 64 a
  exact BitVec.and_allOnes
theorem sN (n : Nat) (hn : n < 32) : ((nI n &&& 31).toBitVec.smod 32).toNat = n := by
  have : ∀ n, n < 32 → ((nI n &&& 31).toBitVec.smod 32).toNat = n := by decide +kernel
  exact this n hn
theorem nx_shl (a k : Nat) (hk : k < 31) (h : a * 2 ^ k < 2 ^ 32) : nI a <<< (nI k &&& 31) = nI (a * 2 ^ k) := pk_shlN _ k (sN k (by omega)) h
theorem p2_lt {k n : Nat} (h : k < n) : 2 ^ k < 2 ^ n := Nat.pow_lt_pow_right (by decide) h
theorem p2_le {k n : Nat} (h : k ≤ n) : 2 ^ k ≤ 2 ^ n := Nat.pow_le_pow_right (by decide) h
theorem p2_31 {k : Nat} (h : k < 31) : 2 ^ k < 2147483648 := p2_lt (n := 31) h
theorem nx_bit (k : Nat) (hk : k < 31) : nI 1 <<< (nI k &&& 31) = nI (2 ^ k) := by
  have := p2_31 hk
  rw [nx_shl 1 k hk (by omega), Nat.one_mul]
theorem nx_shr (a k : Nat) (hk : k < 32) (h : a < 2 ^ 31) : nI a >>> (nI k &&& 31) = nI (a / 2 ^ k) := pk_shrN h _ k (sN k hk)
theorem tb_mod (a k : Nat) : a / 2 ^ k &&& 1 = (a.testBit k).toNat := by
  rw [Nat.and_one_is_mod, Nat.testBit_eq_decide_div_mod_eq]
  rcases Nat.mod_two_eq_zero_or_one (a / 2 ^ k) with e | e <;> simp [e]
theorem nx_tb (a k : Nat) (hk : k < 32) (h : a < 2 ^ 31) : nI a >>> (nI k &&& 31) &&& nI 1 = bI (a.testBit k) := by
  rw [nx_shr a k hk h, nx_and, tb_mod]
  rfl
theorem l63 (k : Nat) (hk : k < 64) : ((nI k).toInt64 &&& 63).toBitVec.smod 64 = BitVec.ofNat 64 k := by
  have : ∀ k, k < 64 → ((nI k).toInt64 &&& 63).toBitVec.smod 64 = BitVec.ofNat 64 k := by decide +kernel
  exact this k hk
theorem lN_inj' {a b : Int64} (h : a.toBitVec = b.toBitVec) : a = b := Int64.toBitVec_inj.mp h
theorem lx_shl (a k : Nat) (hk : k < 64) : lN a <<< ((nI k).toInt64 &&& 63) = lN (a * 2 ^ k) := by
  apply lN_inj'
  rw [Int64.toBitVec_shiftLeft, l63 k hk]
  show BitVec.ofNat 64 a <<< BitVec.ofNat 64 k = BitVec.ofNat 64 (a * 2 ^ k)
  apply BitVec.eq_of_toNat_eq
  rw [BitVec.shiftLeft_eq', BitVec.toNat_shiftLeft, BitVec.toNat_ofNat, BitVec.toNat_ofNat, BitVec.toNat_ofNat, Nat.mod_eq_of_lt (show k < 2 ^ 64 by omega), Nat.shiftLeft_eq, Nat.mul_mod, Nat.mod_mod, ← Nat.mul_mod]
theorem lx_bit (k : Nat) (hk : k < 64) : lN 1 <<< ((nI k).toInt64 &&& 63) = lN (2 ^ k) := by rw [lx_shl 1 k hk, Nat.one_mul]
theorem lx_tb (a k : Nat) (hk : k < 64) : (lN a >>> ((nI k).toInt64 &&& 63) &&& lN 1 = lN 0) = (a.testBit k = false) := by
  apply propext
  have e : lN a >>> ((nI k).toInt64 &&& 63) &&& lN 1 = lN (a.testBit k).toNat := by
    apply lN_inj'
    rw [Int64.toBitVec_and, Int64.toBitVec_shiftRight, l63 k hk]
    show ((BitVec.ofNat 64 a).sshiftRight' (BitVec.ofNat 64 k)) &&& BitVec.ofNat 64 1 = BitVec.ofNat 64 (a.testBit k).toNat
    apply BitVec.eq_of_getLsbD_eq
    intro i hi
    rw [BitVec.getLsbD_and, BitVec.sshiftRight_eq', BitVec.getLsbD_sshiftRight]
    have hk2 : (BitVec.ofNat 64 k).toNat = k := by simp; omega
    rw [hk2]
    rcases Nat.eq_zero_or_pos i with rfl | hp
    · simp only [BitVec.getLsbD_ofNat, Nat.add_zero, hk, Nat.not_lt_zero, decide_true, Bool.true_and, hi]
      have : ¬ 64 ≤ 0 := by decide
      simp [hk]
      cases a.testBit k <;> rfl
    · have e1 : (BitVec.ofNat 64 1).getLsbD i = false := by
        have : ∀ i : Fin 64, 0 < i.val → (BitVec.ofNat 64 1).getLsbD i.val = false := by decide
        exact this ⟨i, hi⟩ hp
      have e2 : (BitVec.ofNat 64 (a.testBit k).toNat).getLsbD i = false := by
        cases a.testBit k
        · simp
        · exact e1
      rw [e1, e2, Bool.and_false]
  rw [e]
  cases a.testBit k
  · simp
  · have : ¬ lN 1 = lN 0 := by decide
    simp [this]
/-- a set by its members -/
def msk : Nat → (Nat → Bool) → Nat
  | 0, _ => 0
  | n + 1, f => msk n f ||| (f n).toNat * 2 ^ n
theorem msk_tb (f : Nat → Bool) : ∀ (n i : Nat), (msk n f).testBit i = (decide (i < n) && f i)
  | 0, i => by simp [msk]
  | n + 1, i => by
    rw [msk, Nat.testBit_or, msk_tb f n i]
    have e : ((f n).toNat * 2 ^ n).testBit i = (decide (i = n) && f n) := by
      cases f n
      · simp
      · rw [Bool.toNat_true, Nat.one_mul, Nat.testBit_two_pow, Bool.and_true]
        by_cases h : n = i <;> simp [h, eq_comm]
    rw [e]
    by_cases h1 : i < n
    · have : ¬ i = n := by omega
      have : i < n + 1 := by omega
      simp [*]
    · by_cases h2 : i = n
      · subst h2; simp
      · have : ¬ i < n + 1 := by omega
        simp [*]
theorem lt_of_tb {a n : Nat} (h : ∀ i, n ≤ i → a.testBit i = false) : a < 2 ^ n := Nat.lt_pow_two_of_testBit _ h
theorem msk_lt (n : Nat) (f : Nat → Bool) : msk n f < 2 ^ n := lt_of_tb fun i hi => by
  rw [msk_tb]
  have : ¬ i < n := by omega
  simp [this]
theorem msk_c {n : Nat} {f g : Nat → Bool} (h : ∀ i, i < n → f i = g i) : msk n f = msk n g := Nat.eq_of_testBit_eq fun i => by
  rw [msk_tb, msk_tb]
  by_cases hi : i < n
  · rw [h i hi]
  · simp [hi]
theorem msk_s (n : Nat) (f : Nat → Bool) : msk (n + 1) f = msk n f ||| (f n).toNat * 2 ^ n := rfl
theorem tb_ge {a n i : Nat} (h : a < 2 ^ n) (hi : n ≤ i) : a.testBit i = false := Nat.testBit_lt_two_pow (Nat.lt_of_lt_of_le h (p2_le hi))
theorem eq_tb {a b n : Nat} (ha : a < 2 ^ n) (hb : b < 2 ^ n) (h : ∀ i, i < n → a.testBit i = b.testBit i) : a = b := Nat.eq_of_testBit_eq fun i => by
  by_cases hi : i < n
  · exact h i hi
  · rw [tb_ge ha (by omega), tb_ge hb (by omega)]
theorem eq_msk {a n : Nat} {f : Nat → Bool} (ha : a < 2 ^ n) (h : ∀ i, i < n → a.testBit i = f i) : a = msk n f := eq_tb ha (msk_lt n f) fun i hi => by rw [msk_tb, h i hi]; simp [hi]
theorem z_tb {a n : Nat} (ha : a < 2 ^ n) : a = 0 ↔ ∀ i, i < n → a.testBit i = false := by
  constructor
  · rintro rfl i _; simp
  · exact fun h => eq_tb ha (Nat.two_pow_pos n) fun i hi => by rw [h i hi]; simp
theorem and_lt {a b n : Nat} (ha : a < 2 ^ n) : a &&& b < 2 ^ n := lt_of_tb fun i hi => by rw [Nat.testBit_and, tb_ge ha hi, Bool.false_and]
theorem or_lt {a b n : Nat} (ha : a < 2 ^ n) (hb : b < 2 ^ n) : a ||| b < 2 ^ n := Nat.or_lt_two_pow ha hb
theorem dif_lt {a b n : Nat} (ha : a < 2 ^ n) : dif a b < 2 ^ n := lt_of_tb fun i hi => by rw [dif_tb, tb_ge ha hi, Bool.false_and]
theorem msk_and (n : Nat) (f g : Nat → Bool) : msk n f &&& msk n g = msk n fun i => f i && g i := eq_msk (and_lt (msk_lt n f)) fun i hi => by simp [Nat.testBit_and, msk_tb, hi]
theorem msk_or (n : Nat) (f g : Nat → Bool) : msk n f ||| msk n g = msk n fun i => f i || g i := eq_msk (or_lt (msk_lt n f) (msk_lt n g)) fun i hi => by simp [Nat.testBit_or, msk_tb, hi]
theorem msk_dif (n : Nat) (f g : Nat → Bool) : dif (msk n f) (msk n g) = msk n fun i => f i && !g i := eq_msk (dif_lt (msk_lt n f)) fun i hi => by simp [dif_tb, msk_tb, hi]
theorem msk_z (n : Nat) (f : Nat → Bool) : msk n f = 0 ↔ ∀ i, i < n → f i = false := by
  rw [z_tb (msk_lt n f)]
  constructor
  · intro h i hi; have := h i hi; rw [msk_tb] at this; simpa [hi] using this
  · intro h i hi; rw [msk_tb, h i hi, Bool.and_false]
theorem tb_pow {i j : Nat} : (2 ^ i).testBit j = decide (i = j) := Nat.testBit_two_pow
theorem and_pow_z (a k : Nat) : a &&& 2 ^ k = 0 ↔ a.testBit k = false := by
  constructor
  · intro h
    have := congrArg (fun z => z.testBit k) h
    simpa [Nat.testBit_and, tb_pow] using this
  · intro h
    apply Nat.eq_of_testBit_eq
    intro i
    rw [Nat.testBit_and, tb_pow]
    by_cases e : k = i
    · subst e; simp [h]
    · simp [e]
/-! a heap's cells after a change -/
theorem ak_i {h : AH} {a k b : Nat} {v : Int32} : ah_k (ap_i h a k v) b = ah_k h b := rfl
theorem az_i {h : AH} {a k b : Nat} {v : Int32} : ah_z (ap_i h a k v) b = ah_z h b := rfl
theorem ar_i {h : AH} {a k b j : Nat} {v : Int32} : ah_r (ap_i h a k v) b j = ah_r h b j := rfl
theorem al_i {h : AH} {a k b j : Nat} {v : Int32} : ah_l (ap_i h a k v) b j = ah_l h b j := rfl
theorem ai_i {h : AH} {a k b j : Nat} {v : Int32} : ah_i (ap_i h a k v) b j = if b = a ∧ j = k then v else ah_i h b j := rfl
theorem ak_l {h : AH} {a k b : Nat} {v : Int64} : ah_k (ap_l h a k v) b = ah_k h b := rfl
theorem az_l {h : AH} {a k b : Nat} {v : Int64} : ah_z (ap_l h a k v) b = ah_z h b := rfl
theorem ar_l {h : AH} {a k b j : Nat} {v : Int64} : ah_r (ap_l h a k v) b j = ah_r h b j := rfl
theorem ai_l {h : AH} {a k b j : Nat} {v : Int64} : ah_i (ap_l h a k v) b j = ah_i h b j := rfl
theorem al_l {h : AH} {a k b j : Nat} {v : Int64} : ah_l (ap_l h a k v) b j = if b = a ∧ j = k then v else ah_l h b j := rfl
theorem ak_r {h : AH} {a k b : Nat} {v : Option Nat} : ah_k (ap_r h a k v) b = ah_k h b := rfl
theorem az_r {h : AH} {a k b : Nat} {v : Option Nat} : ah_z (ap_r h a k v) b = ah_z h b := rfl
theorem ai_r {h : AH} {a k b j : Nat} {v : Option Nat} : ah_i (ap_r h a k v) b j = ah_i h b j := rfl
theorem al_r {h : AH} {a k b j : Nat} {v : Option Nat} : ah_l (ap_r h a k v) b j = ah_l h b j := rfl
theorem ar_r {h : AH} {a k b j : Nat} {v : Option Nat} : ah_r (ap_r h a k v) b j = if b = a ∧ j = k then v else ah_r h b j := rfl
theorem an_x {h : AH} {a k : Nat} {v : Int32} {w : Int64} {o : Option Nat} : ah_n (ap_i h a k v) = ah_n h ∧ ah_n (ap_l h a k w) = ah_n h ∧ ah_n (ap_r h a k o) = ah_n h ∧ ah_u (ap_i h a k v) = ah_u h ∧ ah_u (ap_l h a k w) = ah_u h ∧ ah_u (ap_r h a k o) = ah_u h := ⟨rfl, rfl, rfl, rfl, rfl, rfl⟩
