/-! SETS WITHIN A SET, downwards one by one -/
/-- the place of a set among those within m -/
def rk (m s : Nat) : Nat → Nat
  | 0 => 0
  | n + 1 => rk m s n + (m.testBit n && s.testBit n).toNat * 2 ^ pop m n
theorem pop_s (m n : Nat) : pop m (n + 1) = pop m n + (m.testBit n).toNat := rfl
theorem rk_s (m s n : Nat) : rk m s (n + 1) = rk m s n + (m.testBit n && s.testBit n).toNat * 2 ^ pop m n := rfl
theorem rk_lt (m s : Nat) : ∀ n, rk m s n < 2 ^ pop m n
  | 0 => by simp [rk, pop]
  | n + 1 => by
    have := rk_lt m s n
    rw [rk_s, pop_s]
    cases m.testBit n
    · simpa using this
    · rw [Bool.true_and, Bool.toNat_true, Nat.pow_succ]
      cases s.testBit n
      · simp; omega
      · simp; omega
theorem rk_c {m s t : Nat} : ∀ {n : Nat}, (∀ i, i < n → s.testBit i = t.testBit i) → rk m s n = rk m t n
  | 0, _ => rfl
  | n + 1, h => by rw [rk_s, rk_s, rk_c (n := n) fun i hi => h i (by omega), h n (by omega)]
theorem rk_full {m s : Nat} : ∀ {n : Nat}, (∀ i, i < n → m.testBit i = true → s.testBit i = true) → rk m s n + 1 = 2 ^ pop m n
  | 0, _ => by simp [rk, pop]
  | n + 1, h => by
    have ih := rk_full (n := n) fun i hi => h i (by omega)
    rw [rk_s, pop_s]
    cases e : m.testBit n
    · simpa using ih
    · rw [h n (by omega) e, Bool.true_and, Bool.toNat_true, Nat.pow_succ]
      omega
theorem rk_zero {m s : Nat} : ∀ {n : Nat}, (∀ i, i < n → m.testBit i = true → s.testBit i = false) → rk m s n = 0
  | 0, _ => rfl
  | n + 1, h => by
    have ih := rk_zero (n := n) fun i hi => h i (by omega)
    rw [rk_s, ih]
    cases e : m.testBit n
    · simp
    · rw [h n (by omega) e]; simp
theorem tb_top {n r : Nat} (hr : r < 2 ^ n) : ∀ i, i ≤ n → (2 ^ n + r).testBit i = if i = n then true else r.testBit i := by
  intro i hi
  by_cases e : i = n
  · subst e
    rw [Nat.testBit_two_pow_add_eq, tb_ge hr (Nat.le_refl _)]
    simp
  · rw [if_neg e, Nat.testBit_two_pow_add_gt (by omega)]
theorem rk_pred {m : Nat} : ∀ {n s : Nat}, s < 2 ^ n → s ≠ 0 → (∀ i, s.testBit i = true → m.testBit i = true) → rk m ((s - 1) &&& m) n + 1 = rk m s n
  | 0, s, h, h0, _ => by
    rw [Nat.pow_zero] at h
    omega
  | n + 1, s, h, h0, hs => by
    rw [Nat.pow_succ] at h
    by_cases hn : s < 2 ^ n
    · have ih := rk_pred (n := n) hn h0 hs
      rw [rk_s, rk_s, tb_ge hn (Nat.le_refl _), Nat.testBit_and, tb_ge (show s - 1 < 2 ^ n by omega) (Nat.le_refl _)]
      simpa using ih
    · obtain ⟨r, rfl⟩ : ∃ r, s = 2 ^ n + r := ⟨s - 2 ^ n, by omega⟩
      have hr : r < 2 ^ n := by omega
      have tn : (2 ^ n + r).testBit n = true := by rw [tb_top hr n (Nat.le_refl _), if_pos rfl]
      have mn := hs n tn
      by_cases r0 : r = 0
      · subst r0
        rw [rk_s, rk_s, tn, mn]
        have e1 : ∀ i, (2 ^ n + 0 - 1).testBit i = decide (i < n) := fun i => by rw [Nat.add_zero, Nat.testBit_two_pow_sub_one]
        have e2 : rk m (2 ^ n + 0) n = 0 := rk_zero fun i hi _ => by rw [tb_top hr i (by omega), if_neg (by omega)]; simp
        have e3 : rk m ((2 ^ n + 0 - 1) &&& m) n + 1 = 2 ^ pop m n := rk_full fun i hi hm => by rw [Nat.testBit_and, e1, hm]; simp [hi]
        rw [Nat.testBit_and, e1, e2]
        simp
        rw [← e3]
        simp
      · have e : 2 ^ n + r - 1 = 2 ^ n + (r - 1) := by omega
        have ih := rk_pred (n := n) hr r0 fun i hi => hs i (by
          by_cases q : i < n
          · rw [tb_top hr i (by omega), if_neg (by omega)]; exact hi
          · rw [tb_ge hr (by omega)] at hi; cases hi)
        have hr1 : r - 1 < 2 ^ n := by omega
        rw [rk_s, rk_s, tn, mn, e, Nat.testBit_and, tb_top hr1 n (Nat.le_refl _), if_pos rfl, mn]
        have a1 : rk m ((2 ^ n + (r - 1)) &&& m) n = rk m ((r - 1) &&& m) n := rk_c fun i hi => by
          rw [Nat.testBit_and, Nat.testBit_and, tb_top hr1 i (by omega), if_neg (by omega)]
        have a2 : rk m (2 ^ n + r) n = rk m r n := rk_c fun i hi => by rw [tb_top hr i (by omega), if_neg (by omega)]
        rw [a1, a2]
        simp only [Bool.and_self, Bool.toNat_true, Nat.one_mul]
        omega
theorem rk_inj {m s t : Nat} : ∀ {n : Nat}, (∀ i, s.testBit i = true → m.testBit i = true) → (∀ i, t.testBit i = true → m.testBit i = true) → rk m s n = rk m t n → ∀ i, i < n → s.testBit i = t.testBit i
  | 0, _, _, _ => fun i hi => absurd hi (by omega)
  | n + 1, hs, ht, h => by
    rw [rk_s, rk_s] at h
    have l1 := rk_lt m s n
    have l2 := rk_lt m t n
    have key : s.testBit n = t.testBit n ∧ rk m s n = rk m t n := by
      cases e1 : s.testBit n <;> cases e2 : t.testBit n
      · rw [e1, e2] at h; simpa using h
      · rw [e1, e2, ht n e2] at h; simp at h; omega
      · rw [e1, e2, hs n e1] at h; simp at h; omega
      · rw [e1, e2, hs n e1] at h; simp at h; exact ⟨rfl, h⟩
    intro i hi
    by_cases q : i = n
    · rw [q]; exact key.1
    · exact rk_inj hs ht key.2 i (by omega)
/-- within -/
theorem sub_tb {s m : Nat} : s &&& m = s ↔ ∀ i, s.testBit i = true → m.testBit i = true := by
  constructor
  · intro h i hi
    have := congrArg (fun z => z.testBit i) h
    simpa [Nat.testBit_and, hi] using this
  · intro h
    apply Nat.eq_of_testBit_eq
    intro i
    rw [Nat.testBit_and]
    cases e : s.testBit i
    · rfl
    · rw [h i e]; rfl
/-- the walk: what was seen from m down to s -/
theorem wk_0 {m n : Nat} {p : Nat → Prop} (hm : m < 2 ^ n) : ∀ t, t &&& m = t → rk m m n ≤ rk m t n → t ≠ m → p t := by
  intro t ht hr hn
  have l := rk_lt m t n
  have f : rk m m n + 1 = 2 ^ pop m n := rk_full fun i _ h => h
  have e : rk m t n = rk m m n := by omega
  refine (hn (eq_tb (n := n) (Nat.lt_of_le_of_lt (ht ▸ Nat.and_le_right) hm) hm ?_)).elim
  exact rk_inj (sub_tb.mp ht) (fun _ h => h) e
theorem wk_s {m n s : Nat} {p : Nat → Prop} (hm : m < 2 ^ n) (hs : s &&& m = s) (h0 : s ≠ 0) (H : ∀ t, t &&& m = t → rk m s n ≤ rk m t n → t ≠ m → p t) (hp : p ((s - 1) &&& m)) : ∀ t, t &&& m = t → rk m ((s - 1) &&& m) n ≤ rk m t n → t ≠ m → p t := by
  intro t ht hr hn
  have hl : s < 2 ^ n := Nat.lt_of_le_of_lt (hs ▸ Nat.and_le_right) hm
  have e := rk_pred hl h0 (sub_tb.mp hs)
  by_cases q : rk m s n ≤ rk m t n
  · exact H t ht q hn
  · have e2 : rk m t n = rk m ((s - 1) &&& m) n := by omega
    have hl2 : (s - 1) &&& m < 2 ^ n := Nat.lt_of_le_of_lt Nat.and_le_right hm
    have : t = (s - 1) &&& m := eq_tb (n := n) (Nat.lt_of_le_of_lt (ht ▸ Nat.and_le_right) hm) hl2 (rk_inj (sub_tb.mp ht) (sub_tb.mp (by rw [Nat.and_assoc, Nat.and_self])) e2)
    rw [this]; exact hp
theorem wk_z {m n s : Nat} (hm : m < 2 ^ n) (hs : s &&& m = s) (h : rk m s n = 0) : s = 0 := by
  have : rk m 0 n = 0 := rk_zero fun i _ _ => Nat.zero_testBit i
  refine eq_tb (n := n) (Nat.lt_of_le_of_lt (hs ▸ Nat.and_le_right) hm) (Nat.two_pow_pos n) (rk_inj (sub_tb.mp hs) (fun i hi => ?_) (h.trans this.symm))
  rw [Nat.zero_testBit] at hi; cases hi
theorem rk_0 (m n : Nat) : rk m 0 n = 0 := rk_zero fun i _ _ => Nat.zero_testBit i
theorem pop_le (m : Nat) : ∀ n, pop m n ≤ n
  | 0 => Nat.le_refl _
  | n + 1 => by
    have := pop_le m n
    rw [pop_s]
    cases m.testBit n <;> simp <;> omega
