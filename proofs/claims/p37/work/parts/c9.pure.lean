/-! WHAT ANSWERS HAVE IN COMMON -/
theorem dif_0 (s : Nat) : dif 0 s = 0 := Nat.eq_of_testBit_eq fun i => by rw [dif_tb, Nat.zero_testBit, Bool.false_and]
theorem dif_s0 (s : Nat) : dif s 0 = s := Nat.eq_of_testBit_eq fun i => by rw [dif_tb, Nat.zero_testBit, Bool.not_false, Bool.and_true]
theorem dif_ss (s : Nat) : dif s s = 0 := Nat.eq_of_testBit_eq fun i => by rw [dif_tb, Nat.zero_testBit]; cases s.testBit i <;> rfl
theorem dif_i {a b : Nat} : dif a b = 0 ↔ ∀ i, a.testBit i = true → b.testBit i = true := by
  constructor
  · intro h i hi
    have := congrArg (fun z => z.testBit i) h
    simp only [dif_tb, hi, Bool.true_and, Nat.zero_testBit] at this
    cases q : b.testBit i
    · rw [q] at this; cases this
    · rfl
  · intro h
    refine Nat.eq_of_testBit_eq fun i => ?_
    rw [dif_tb, Nat.zero_testBit]
    cases q : a.testBit i
    · rfl
    · rw [h i q]; rfl
theorem all_tb {n i : Nat} : (2 ^ n - 1).testBit i = decide (i < n) := Nat.testBit_two_pow_sub_one _ _
theorem mee0 (s : Nat) : mee 0 0 s = true := by
  unfold mee
  rw [dif_0, Nat.zero_and]
  rfl
theorem cnt_0 {f : Nat → Bool} : ∀ {n : Nat}, cnt f n = 0 ↔ ∀ s, s < n → f s = false
  | 0 => ⟨fun _ s h => absurd h (Nat.not_lt_zero _), fun _ => rfl⟩
  | n + 1 => by
    rw [cnt_s]
    constructor
    · intro h s hs
      have h1 : cnt f n = 0 := by omega
      by_cases e : s = n
      · rw [e]
        cases q : f n
        · rfl
        · rw [q] at h
          have : (true : Bool).toNat = 1 := rfl
          omega
      · exact cnt_0.mp h1 s (by omega)
    · intro h
      rw [cnt_0.mpr fun s hs => h s (by omega), h n (by omega)]
      rfl
theorem cnt_p {f : Nat → Bool} {n : Nat} : 0 < cnt f n ↔ ∃ s, s < n ∧ f s = true := by
  constructor
  · intro h
    obtain ⟨s, h1, h2, _⟩ := cnt_ex h
    exact ⟨s, h1, h2⟩
  · rintro ⟨s, h1, h2⟩
    refine Nat.pos_of_ne_zero fun z => ?_
    rw [cnt_0.mp z s h1] at h2
    cases h2
theorem cnt_1 {f : Nat → Bool} {n x : Nat} (hx : x < n) (h1 : f x = true) (e : ∀ s, s < n → f s = true → s = x) : cnt f n = 1 := by
  rw [cnt_c (g := fun y => decide (y = x) || (fun _ => false) y) fun s hs => by
    by_cases q : s = x
    · rw [q, h1, decide_eq_true rfl]; rfl
    · rw [decide_eq_false q]
      cases w : f s
      · rfl
      · exact absurd (e s hs w) q]
  rw [cnt_add rfl hx, cnt_z]
theorem nths_s (f : Nat → Bool) (k n : Nat) : nths f k (n + 1) = bif f n && decide (cnt f n = k) then n else nths f k n := rfl
theorem nths_c {f : Nat → Bool} {s : Nat} (hs : f s = true) : ∀ {n : Nat}, s < n → nths f (cnt f s) n = s
  | 0, h => absurd h (by omega)
  | n + 1, h => by
    rw [nths_s]
    by_cases e : s = n
    · rw [← e, hs]; simp
    · have := cnt_mono f (a := s + 1) (b := n) (by omega)
      rw [← cnt_t hs] at this
      have : ¬ cnt f n = cnt f s := by omega
      rw [decide_eq_false this, Bool.and_false, cond_false]
      exact nths_c hs (by omega)
theorem nths_lt {f : Nat → Bool} {i n : Nat} (h : i + 1 < cnt f n) : nths f i n < nths f (i + 1) n := by
  obtain ⟨a1, a2, a3⟩ := nths_ok (f := f) (k := i) (n := n) (by omega)
  obtain ⟨b1, b2, b3⟩ := nths_ok (f := f) (k := i + 1) (n := n) h
  refine Nat.lt_of_not_le fun z => ?_
  have := cnt_mono f z
  omega
theorem anU_tb {f : Nat → Bool} {z a : Nat} : ∀ {k : Nat}, (anU f z k).testBit a = true ↔ z.testBit a = true ∧ ∀ s, s < k → f s = true → s.testBit a = true
  | 0 => ⟨fun h => ⟨h, fun s q => absurd q (Nat.not_lt_zero _)⟩, fun h => h.1⟩
  | k + 1 => by
    unfold anU
    have ih := anU_tb (f := f) (z := z) (a := a) (k := k)
    cases e : f k
    · rw [cond_false, ih]
      constructor
      · rintro ⟨h1, h2⟩
        refine ⟨h1, fun s hs q => ?_⟩
        by_cases w : s = k
        · rw [w, e] at q; cases q
        · exact h2 s (by omega) q
      · exact fun ⟨h1, h2⟩ => ⟨h1, fun s hs q => h2 s (by omega) q⟩
    · rw [cond_true, Nat.testBit_and, Bool.and_eq_true, ih]
      constructor
      · rintro ⟨⟨h1, h2⟩, h3⟩
        refine ⟨h1, fun s hs q => ?_⟩
        by_cases w : s = k
        · rw [w]; exact h3
        · exact h2 s (by omega) q
      · exact fun ⟨h1, h2⟩ => ⟨⟨h1, fun s hs q => h2 s (by omega) q⟩, h2 k (by omega) e⟩
section SETS
variable {f : Nat → Bool} {n : Nat}
theorem f_as0 : cnt (fun s => f s && mee 0 0 s) 4096 = cnt f 4096 := cnt_c fun i _ => by rw [mee0, Bool.and_true]
theorem f_prj0 : cnt (prj f 0 4096) 4096 = if 0 < cnt f 4096 then 1 else 0 := by
  by_cases h : 0 < cnt f 4096
  · rw [if_pos h]
    obtain ⟨s, h1, h2⟩ := cnt_p.mp h
    refine cnt_1 (x := 0) (by decide) (bP_of ⟨s, h1, h2, Nat.and_zero _⟩) fun v _ q => ?_
    unfold prj at q
    rw [bP_t] at q
    obtain ⟨s, _, _, e⟩ := q
    rw [← e, Nat.and_zero]
  · rw [if_neg h, cnt_0]
    intro v _
    refine bP_no fun ⟨s, h1, h2, _⟩ => h (cnt_p.mpr ⟨s, h1, h2⟩)
theorem f_prja (hn : n ≤ 12) (hf : ∀ s, f s = true → s < 2 ^ n) : cnt (prj f (2 ^ n - 1) 4096) 4096 = cnt f 4096 := by
  have pn : 2 ^ n ≤ 4096 := p2_le (n := 12) hn
  have e : ∀ s, f s = true → s &&& (2 ^ n - 1) = s := fun s q => by rw [Nat.and_two_pow_sub_one_eq_mod, Nat.mod_eq_of_lt (hf s q)]
  refine cnt_c fun v hv => ?_
  unfold prj
  cases q : f v
  · refine bP_no fun ⟨s, h1, h2, h3⟩ => ?_
    rw [e s h2] at h3
    rw [h3, q] at h2
    cases h2
  · exact bP_of ⟨v, hv, q, e v q⟩
theorem f_cb (hn : n ≤ 12) (hf : ∀ s, f s = true → s < 2 ^ n) : dif (anU f (2 ^ n - 1) (2 ^ n)) (orU f (2 ^ n)) = if 0 < cnt f 4096 then 0 else 2 ^ n - 1 := by
  by_cases h : 0 < cnt f 4096
  · rw [if_pos h, dif_i]
    obtain ⟨s, h1, h2⟩ := cnt_p.mp h
    intro i hi
    exact orU_tb.mpr ⟨s, hf s h2, h2, (anU_tb.mp hi).2 s (hf s h2) h2⟩
  · rw [if_neg h]
    have no : ∀ s, f s = false := fun s => by
      cases q : f s
      · rfl
      · have := hf s q
        have pn : 2 ^ n ≤ 4096 := p2_le (n := 12) hn
        exact absurd (cnt_p.mpr ⟨s, by omega, q⟩) h
    refine Nat.eq_of_testBit_eq fun i => ?_
    rw [dif_tb]
    have o : (orU f (2 ^ n)).testBit i = false := by
      cases q : (orU f (2 ^ n)).testBit i
      · rfl
      · obtain ⟨s, _, h2, _⟩ := orU_tb.mp q
        rw [no s] at h2; cases h2
    rw [o, Bool.not_false, Bool.and_true]
    cases q : (2 ^ n - 1).testBit i
    · cases w : (anU f (2 ^ n - 1) (2 ^ n)).testBit i
      · rfl
      · rw [(anU_tb.mp w).1] at q; cases q
    · exact anU_tb.mpr ⟨q, fun s _ h => by rw [no s] at h; cases h⟩
theorem f_sb {s : Nat} (hf : ∀ s, f s = true → s < 2 ^ n) (hs : f s = true) : dif s (orU f (2 ^ n)) = 0 := dif_i.mpr fun i hi => orU_tb.mpr ⟨s, hf s hs, hs, hi⟩
theorem f_cs {s : Nat} (hf : ∀ s, f s = true → s < 2 ^ n) (hs : f s = true) : dif (anU f (2 ^ n - 1) (2 ^ n)) s = 0 := dif_i.mpr fun _ hi => (anU_tb.mp hi).2 s (hf s hs) hs
theorem f_one {s : Nat} (hn : n ≤ 12) (hf : ∀ s, f s = true → s < 2 ^ n) (hs : f s = true) : cnt (fun t => f t && mee s (dif (2 ^ n - 1) s) t) 4096 = 1 := by
  have pn : 2 ^ n ≤ 4096 := p2_le (n := 12) hn
  have sl := hf s hs
  refine cnt_1 (x := s) (by omega) ?_ fun t _ q => ?_
  · show (f s && mee s (dif (2 ^ n - 1) s) s) = true
    unfold mee
    rw [hs, dif_ss, Bool.true_and, Bool.and_eq_true, decide_eq_true_eq, decide_eq_true_eq]
    refine ⟨rfl, Nat.eq_of_testBit_eq fun i => ?_⟩
    rw [Nat.testBit_and, dif_tb, Nat.zero_testBit]
    cases s.testBit i <;> simp
  · have q : (f t && mee s (dif (2 ^ n - 1) s) t) = true := q
    unfold mee at q
    rw [Bool.and_eq_true, Bool.and_eq_true, decide_eq_true_eq, decide_eq_true_eq] at q
    obtain ⟨q1, q2, q3⟩ := q
    refine eq_tb (hf t q1) sl fun i hi => ?_
    have e3 := congrArg (fun z => z.testBit i) q3
    simp only [Nat.testBit_and, dif_tb, all_tb, Nat.zero_testBit, decide_eq_true hi, Bool.true_and] at e3
    cases w : s.testBit i
    · rw [w] at e3
      simpa using e3
    · exact dif_i.mp q2 i w
/-- the first k of them, together -/
def smk (f : Nat → Bool) : Nat → Nat
  | 0 => 0
  | k + 1 => smk f k ||| nths f k 4096
theorem smk_tb {a : Nat} : ∀ {k : Nat}, (smk f k).testBit a = true ↔ ∃ i, i < k ∧ (nths f i 4096).testBit a = true
  | 0 => by
    unfold smk
    rw [Nat.zero_testBit]
    exact ⟨fun z => (by cases z), fun ⟨i, h, _⟩ => absurd h (Nat.not_lt_zero _)⟩
  | k + 1 => by
    unfold smk
    rw [Nat.testBit_or, Bool.or_eq_true, smk_tb (k := k)]
    constructor
    · rintro (⟨i, h1, h2⟩ | h)
      · exact ⟨i, by omega, h2⟩
      · exact ⟨k, by omega, h⟩
    · rintro ⟨i, h1, h2⟩
      by_cases e : i = k
      · exact Or.inr (e ▸ h2)
      · exact Or.inl ⟨i, by omega, h2⟩
theorem smk_all (hn : n ≤ 12) (hf : ∀ s, f s = true → s < 2 ^ n) : smk f (cnt f 4096) = orU f (2 ^ n) := by
  have pn : 2 ^ n ≤ 4096 := p2_le (n := 12) hn
  refine Nat.eq_of_testBit_eq fun a => Bool.eq_iff_iff.mpr ?_
  rw [smk_tb, orU_tb]
  constructor
  · rintro ⟨i, h1, h2⟩
    obtain ⟨a1, a2, a3⟩ := nths_ok h1
    exact ⟨_, hf _ a2, a2, h2⟩
  · rintro ⟨s, h1, h2, h3⟩
    have l : s < 4096 := by omega
    refine ⟨cnt f s, ?_, by rw [nths_c h2 l]; exact h3⟩
    have := cnt_mono f (a := s + 1) (b := 4096) (by omega)
    rw [← cnt_t h2] at this
    omega
end SETS
section BEST
variable {P : PG} {T F : Nat}
theorem ch_min (f : Nat → Bool) : ∀ k, (∀ s, s < k → f s = false) ∨ ∃ x, x < k ∧ f x = true ∧ ∀ s, s < k → f s = true → ¬ L3 P s x
  | 0 => Or.inl fun s h => absurd h (Nat.not_lt_zero _)
  | k + 1 => by
    cases q : f k
    · rcases ch_min f k with h | ⟨x, h1, h2, h3⟩
      · refine Or.inl fun s hs => ?_
        by_cases e : s = k
        · rw [e]; exact q
        · exact h s (by omega)
      · refine Or.inr ⟨x, by omega, h2, fun s hs w => ?_⟩
        by_cases e : s = k
        · rw [e, q] at w; cases w
        · exact h3 s (by omega) w
    · rcases ch_min f k with h | ⟨x, h1, h2, h3⟩
      · refine Or.inr ⟨k, by omega, q, fun s hs w => ?_⟩
        by_cases e : s = k
        · rw [e]; exact L3_irr P k
        · rw [h s (by omega)] at w; cases w
      · by_cases l : L3 P k x
        · refine Or.inr ⟨k, by omega, q, fun s hs w => ?_⟩
          by_cases e : s = k
          · rw [e]; exact L3_irr P k
          · exact fun z => h3 s (by omega) w (L3_tr z l)
        · refine Or.inr ⟨x, by omega, h2, fun s hs w => ?_⟩
          by_cases e : s = k
          · rw [e]; exact l
          · exact h3 s (by omega) w
theorem best_ex (hn : P_n P ≤ 12) (h : 0 < cnt (aset P T F) 4096) : ∃ i, i < cnt (aset P T F) 4096 ∧ best P T F (nths (aset P T F) i 4096) := by
  have pn : 2 ^ P_n P ≤ 4096 := p2_le (n := 12) hn
  obtain ⟨s, h1, h2⟩ := cnt_p.mp h
  rcases ch_min (P := P) (aset P T F) 4096 with k | ⟨x, x1, x2, x3⟩
  · rw [k s h1] at h2; cases h2
  · refine ⟨cnt (aset P T F) x, ?_, ?_⟩
    · have := cnt_mono (aset P T F) (a := x + 1) (b := 4096) (by omega)
      rw [← cnt_t x2] at this
      omega
    · rw [nths_c x2 x1]
      intro t ht
      have := aset_n ht
      exact x3 t (by omega) ht
/-- a best one among the first k, or none is there -/
noncomputable def hcB (P : PG) (T F k : Nat) : Bool := decide (cnt (aset P T F) 4096 = 0) || bP (∃ i, i < k ∧ best P T F (nths (aset P T F) i 4096))
theorem hcB_0 : hcB P T F 0 = decide (cnt (aset P T F) 4096 = 0) := by
  unfold hcB
  rw [bP_no fun ⟨i, h, _⟩ => absurd h (Nat.not_lt_zero _), Bool.or_false]
theorem hcB_t {k : Nat} (b : best P T F (nths (aset P T F) k 4096)) : hcB P T F (k + 1) = true := by
  unfold hcB
  rw [bP_of ⟨k, Nat.lt_succ_self _, b⟩, Bool.or_true]
theorem hcB_n {k : Nat} (b : ¬ best P T F (nths (aset P T F) k 4096)) : hcB P T F (k + 1) = hcB P T F k := by
  unfold hcB
  rw [bP_c (q := ∃ i, i < k ∧ best P T F (nths (aset P T F) i 4096)) ⟨fun ⟨i, h1, h2⟩ => ⟨i, by
    by_cases e : i = k
    · rw [e] at h2; exact absurd h2 b
    · omega, h2⟩, fun ⟨i, h1, h2⟩ => ⟨i, by omega, h2⟩⟩]
theorem hcB_u {k : Nat} (b : hcB P T F k = true) : hcB P T F (k + 1) = true := by
  unfold hcB at *
  rw [Bool.or_eq_true] at *
  rcases b with b | b
  · exact Or.inl b
  · right
    rw [bP_t] at *
    obtain ⟨i, h1, h2⟩ := b
    exact ⟨i, by omega, h2⟩
theorem hcB_all (hn : P_n P ≤ 12) : hcB P T F (cnt (aset P T F) 4096) = true := by
  unfold hcB
  by_cases h : cnt (aset P T F) 4096 = 0
  · rw [decide_eq_true h, Bool.true_or]
  · obtain ⟨i, h1, h2⟩ := best_ex (T := T) (F := F) hn (Nat.pos_of_ne_zero h)
    rw [bP_of ⟨i, h1, h2⟩, Bool.or_true]
theorem rkr_b {pc : Nat} {pa pb : Nat → Nat} {s : Nat} {v : Int32} (a : rkr P T F pc pa pb s v) : (nI 0 < v) = best P T F s := by
  rcases a with ⟨a1, rfl⟩ | ⟨a1, _, rfl⟩ | ⟨a1, _, rfl⟩
  · exact propext ⟨fun z => absurd z (by decide), fun z => absurd z a1⟩
  · exact propext ⟨fun _ => a1, fun _ => by decide⟩
  · exact propext ⟨fun _ => a1, fun _ => by decide⟩
theorem f_u0 {n : Nat} : orU (unf P T F 0) (2 ^ n) = 0 := by
  refine Nat.eq_of_testBit_eq fun i => ?_
  rw [Nat.zero_testBit]
  cases q : (orU (unf P T F 0) (2 ^ n)).testBit i
  · rfl
  · obtain ⟨s, _, h2, h3⟩ := orU_tb.mp q
    unfold unf at h2
    rw [Bool.and_eq_true, decide_eq_true_eq, dif_s0] at h2
    rw [h2.1, Nat.zero_testBit] at h3
    cases h3
theorem f_val (o : P_ok P) (s : Nat) {x : Nat} (hx : x < 4) : Int32.ofInt (vals P (Hd P (hl P s)) x) ≤ nI 0 := by
  have b := rds_bnd o (H := Hd P (hl P s)) Hd_k 5 x hx
  have e : vals P (Hd P (hl P s)) x = (rds P (Hd P (hl P s)) 5).1 x := rfl
  rw [e]
  generalize (rds P (Hd P (hl P s)) 5).1 x = y at *
  rw [Int32.le_iff_toInt_le, nI_toInt (by decide), Int32.toInt_ofInt]
  have : y.bmod (2 ^ 32) = y := Int.bmod_eq_of_le (by omega) (by omega)
  rw [this]
  omega
theorem f_loop {a : Nat} (ha : a < P_n P) : lop P a = 0 ∨ (lop P a).testBit a = true := by
  unfold lop
  cases q : (rch P a 12).testBit a
  · exact Or.inl rfl
  · right
    rw [cond_true, msk_tb, q, decide_eq_true ha]; rfl
theorem f_bar {a : Nat} {v : Int32} (hb : barr P T F a v) (mb : P_m P ≤ 60) : (v = -1) = ((orU (aset P T F) (2 ^ P_n P)).testBit a = true) := by
  have e : (orU (aset P T F) (2 ^ P_n P)).testBit a = true ↔ ∃ s, aset P T F s = true ∧ s.testBit a = true := by
    rw [orU_tb]
    exact ⟨fun ⟨s, _, h2, h3⟩ => ⟨s, h2, h3⟩, fun ⟨s, h2, h3⟩ => ⟨s, aset_n h2, h2, h3⟩⟩
  rw [propext e]
  rcases hb with ⟨h1, rfl⟩ | ⟨h1, _, rfl⟩ | ⟨h1, i, rfl, hi, _⟩
  · exact propext ⟨fun _ => h1, fun _ => rfl⟩
  · exact propext ⟨fun z => absurd z (by decide), fun z => absurd z h1⟩
  · refine propext ⟨fun z => absurd z (n_m1 ?_), fun z => absurd z h1⟩
    have : i < 60 := by
      have : (brm P T F a (2 ^ P_n P)).testBit i = true := hi
      unfold brm at this
      rw [msk_tb, Bool.and_eq_true, decide_eq_true_eq] at this
      exact Nat.lt_of_lt_of_le this.1 mb
    omega
theorem cmt_p {a : Nat} (ha : a < 12) : cmt P T F (2 ^ a + 4096 * 0) ↔ ∃ s, aset P T F s = true ∧ s.testBit a = true := by
  have l : 2 ^ a < 4096 := p2_lt (n := 12) ha
  unfold cmt mee
  rw [Nat.mul_zero, Nat.add_zero, Nat.mod_eq_of_lt l, Nat.div_eq_of_lt l]
  constructor
  · rintro ⟨s, h1, h2⟩
    rw [Bool.and_eq_true, decide_eq_true_eq] at h2
    exact ⟨s, h1, dif_i.mp h2.1 a (by rw [tb_pow]; simp)⟩
  · rintro ⟨s, h1, h2⟩
    refine ⟨s, h1, ?_⟩
    rw [Bool.and_eq_true, decide_eq_true_eq, decide_eq_true_eq]
    refine ⟨dif_i.mpr fun i hi => ?_, Nat.zero_and _⟩
    rw [tb_pow, decide_eq_true_eq] at hi
    rw [← hi]; exact h2
theorem f_cfl {a : Nat} (ha : a < 12) {v : Int32} (c : cfG P T F (2 ^ a + 4096 * 0) v) : (v = -1) = ((orU (aset P T F) (2 ^ P_n P)).testBit a = true) := by
  have e : (orU (aset P T F) (2 ^ P_n P)).testBit a = true ↔ ∃ s, aset P T F s = true ∧ s.testBit a = true := by
    rw [orU_tb]
    exact ⟨fun ⟨s, _, h2, h3⟩ => ⟨s, h2, h3⟩, fun ⟨s, h2, h3⟩ => ⟨s, aset_n h2, h2, h3⟩⟩
  rw [propext e, ← propext (cmt_p (P := P) (T := T) (F := F) ha)]
  rcases c with ⟨rfl, c⟩ | ⟨z, rfl, z1, z2, _⟩
  · exact propext ⟨fun _ => c, fun _ => rfl⟩
  · have l : 2 ^ a < 4096 := p2_lt (n := 12) ha
    have zl : z ≤ 2 ^ a + 4096 * 0 := by rw [← z1]; exact Nat.and_le_right
    exact propext ⟨fun y => absurd y (n_m1 (by omega)), fun y => absurd (cmt_sub z1 y) z2⟩
theorem f_c0 (h : cnt (aset P T F) 4096 = 0) (hn : P_n P ≤ 12) {x : Nat} (hx : x < 4) {v : Int32} (c : cfG P T F (x + 4096 * 0) v) : v = nI 0 := by
  have no : ∀ y, ¬ cmt P T F y := fun y ⟨s, h1, _⟩ => by
    have := aset_n h1
    have pn : 2 ^ P_n P ≤ 4096 := p2_le (n := 12) hn
    rw [cnt_0.mp h s (by omega)] at h1
    cases h1
  rcases c with ⟨_, c⟩ | ⟨z, rfl, z1, z2, z3⟩
  · exact absurd c (no _)
  · have i0 := z3 0 (Nat.zero_and _) (no _)
    unfold ils at i0
    rw [decide_eq_false_iff_not] at i0
    have p0 : pop 0 24 = 0 := by decide
    rw [p0] at i0
    have : z = 0 := by
      by_cases q : pop z 24 = 0
      · rw [q] at i0
        omega
      · exact absurd (Or.inl (Nat.pos_of_ne_zero q)) i0
    rw [this]
theorem f_asm {a : Nat} (hn : P_n P ≤ 12) : (0 < cnt (fun s => aset P T F s && mee (2 ^ a) 0 s) 4096) = ((orU (aset P T F) (2 ^ P_n P)).testBit a = true) := by
  have pn : 2 ^ P_n P ≤ 4096 := p2_le (n := 12) hn
  refine propext (cnt_p.trans ?_)
  rw [orU_tb]
  constructor
  · rintro ⟨s, h1, h2⟩
    rw [Bool.and_eq_true] at h2
    have h3 := h2.2
    unfold mee at h3
    rw [Bool.and_eq_true, decide_eq_true_eq] at h3
    exact ⟨s, aset_n h2.1, h2.1, dif_i.mp h3.1 a (by rw [tb_pow]; simp)⟩
  · rintro ⟨s, h1, h2, h3⟩
    refine ⟨s, by omega, ?_⟩
    rw [Bool.and_eq_true]
    refine ⟨h2, ?_⟩
    unfold mee
    rw [Bool.and_eq_true, decide_eq_true_eq, decide_eq_true_eq]
    refine ⟨dif_i.mpr fun i hi => ?_, Nat.zero_and _⟩
    rw [tb_pow, decide_eq_true_eq] at hi
    rw [← hi]; exact h3
theorem pop_p {a : Nat} : pop (2 ^ a) 12 + pop 0 12 ≤ 8 := by
  rw [show pop 0 12 = 0 from by decide, Nat.add_zero]
  have : ∀ n, pop (2 ^ a) n ≤ 1 ∧ (n ≤ a → pop (2 ^ a) n = 0) := by
    intro n
    induction n with
    | zero => exact ⟨Nat.zero_le _, fun _ => rfl⟩
    | succ n ih =>
      rw [pop_s, tb_pow]
      by_cases e : a = n
      · have := ih.2 (by omega)
        rw [this, decide_eq_true e]
        exact ⟨Nat.le_refl _, fun z => by omega⟩
      · rw [decide_eq_false e]
        exact ⟨ih.1, fun z => ih.2 (by omega)⟩
  have := (this 12).1
  omega
theorem pop_3 {x : Nat} (hx : x < 4) : pop x 12 + pop 0 12 ≤ 8 := by
  have : x = 0 ∨ x = 1 ∨ x = 2 ∨ x = 3 := by omega
  rcases this with rfl | rfl | rfl | rfl <;> decide
end BEST
