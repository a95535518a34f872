/-! THE PROGRAM OF ROWS, ATOMS AND INSTANCES -/
/-- a digit of an instance's constants -/
def dgt (t v : Nat) : Nat := if v = 0 then t / 1000 % 10 else if v = 1 then t / 100 % 10 else if v = 2 then t / 10 % 10 else if v = 3 then t % 10 else 0
def ict (I : List Nat) (i : Nat) : Nat → Nat := dgt (lat I i % 10000)
def irl (I : List Nat) (i : Nat) : Nat := lat I i / 10000
theorem dgt_le (t v : Nat) : dgt t v ≤ 9 := by
  unfold dgt
  split
  · omega
  · split
    · omega
    · split
      · omega
      · split <;> omega
theorem dgt_z {t v : Nat} (h : 4 ≤ v) : dgt t v = 0 := by
  unfold dgt
  rw [if_neg (by omega), if_neg (by omega), if_neg (by omega), if_neg (by omega)]
theorem ict_of {n : Nat} {c : Nat → Nat} (h9 : ∀ v, c v ≤ 9) (z : ∀ u, 4 ≤ u → c u = 0) : dgt (tl4 n c % 10000) = c ∧ tl4 n c / 10000 = n := by
  have a0 := h9 0
  have a1 := h9 1
  have a2 := h9 2
  have a3 := h9 3
  have e : tl4 n c = n * 10000 + (1000 * c 0 + 100 * c 1 + 10 * c 2 + c 3) := rfl
  refine ⟨funext fun v => ?_, by omega⟩
  unfold dgt
  by_cases q0 : v = 0
  · rw [if_pos q0, q0]; omega
  · rw [if_neg q0]
    by_cases q1 : v = 1
    · rw [if_pos q1, q1]; omega
    · rw [if_neg q1]
      by_cases q2 : v = 2
      · rw [if_pos q2, q2]; omega
      · rw [if_neg q2]
        by_cases q3 : v = 3
        · rw [if_pos q3, q3]; omega
        · rw [if_neg q3, z v (by omega)]
def lcd (R : RW) (l k z : Nat) (c : Nat → Nat) : Nat := R_p R l k * 100 + tv (R_a R l k) z c * 10 + tv (R_b R l k) z c
/-- the atoms of a list that are there -/
def lmk (R : RW) (l : Nat) (c : Nat → Nat) (A : List Nat) : Nat → Nat
  | 0 => 0
  | k + 1 => if idx A (lcd R l k 0 c) = 0 then lmk R l c A k else lmk R l c A k ||| 2 ^ (idx A (lcd R l k 0 c) - 1)
theorem lmk_s (R : RW) (l : Nat) (c : Nat → Nat) (A : List Nat) (k : Nat) : lmk R l c A (k + 1) = if idx A (lcd R l k 0 c) = 0 then lmk R l c A k else lmk R l c A k ||| 2 ^ (idx A (lcd R l k 0 c) - 1) := rfl
theorem lmk_lt (R : RW) (l : Nat) (c : Nat → Nat) (A : List Nat) : ∀ k, lmk R l c A k < 2 ^ A.length
  | 0 => Nat.two_pow_pos _
  | k + 1 => by
    rw [lmk_s]
    have ih := lmk_lt R l c A k
    by_cases e : idx A (lcd R l k 0 c) = 0
    · rw [if_pos e]; exact ih
    · rw [if_neg e]
      have := idx_le A (lcd R l k 0 c)
      exact or_lt ih (p2_lt (by omega))
/-- how many constants Z stands for -/
def znm (R : RW) (k : Nat) : Nat := if R_a R 4 k = 0 ∨ R_b R 4 k = 0 then 10 else 1
/-- what an atom gets, of the first constants of an element -/
def wzz (R : RW) (c : Nat → Nat) (A : List Nat) (a k : Nat) (w : Int64) : Nat → Int64
  | 0 => w
  | z + 1 => if idx A (lcd R 4 k z c) = a + 1 then wzz R c A a k w z + (R_w R k).toInt64 else wzz R c A a k w z
theorem wzz_s (R : RW) (c : Nat → Nat) (A : List Nat) (a k : Nat) (w : Int64) (z : Nat) : wzz R c A a k w (z + 1) = if idx A (lcd R 4 k z c) = a + 1 then wzz R c A a k w z + (R_w R k).toInt64 else wzz R c A a k w z := rfl
def wkk (R : RW) (c : Nat → Nat) (A : List Nat) (a : Nat) : Nat → Int64
  | 0 => lN 0
  | k + 1 => wzz R c A a k (wkk R c A a k) (znm R k)
theorem wkk_s (R : RW) (c : Nat → Nat) (A : List Nat) (a k : Nat) : wkk R c A a (k + 1) = wzz R c A a k (wkk R c A a k) (znm R k) := rfl
def PGo (Ro : Nat → RW) (A I : List Nat) : PG := (A.length, I.length, fun i => lmk (Ro (irl I i)) 0 (ict I i) A (R_n (Ro (irl I i)) 0), fun i => lmk (Ro (irl I i)) 1 (ict I i) A (R_n (Ro (irl I i)) 1), fun i => lmk (Ro (irl I i)) 2 (ict I i) A (R_n (Ro (irl I i)) 2),
  fun i => R_kd (Ro (irl I i)), fun i => R_gv (Ro (irl I i)), fun i => R_su (Ro (irl I i)), fun i => R_lo (Ro (irl I i)), fun i => R_hi (Ro (irl I i)), fun i a => wkk (Ro (irl I i)) (ict I i) A a (R_n (Ro (irl I i)) 4))
/-- every instance is of a rule that is there, with constants in its ranges -/
def irs (Ro : Nat → RW) (m : Nat) (A I : List Nat) : Prop := ∀ i, i < I.length → irl I i < m ∧ (∀ v, v < 4 → voc true (Ro (irl I i)) v = true → ict I i v ≤ 8)
theorem irs_of {E : Nat → Prop} {Ro : Nat → RW} {m : Nat} {S : gS} (o : RsO Ro m) (g : GV E Ro m S) : irs Ro m S.1 S.2.1 := fun i hi => by
  obtain ⟨n, c, hn, z, e, h⟩ := g.2.2.1 _ (lat_mem hi)
  obtain ⟨e1, e2⟩ := ict_of (n := n) (z.le (o.2 n hn)) z.2
  unfold irl ict
  rw [e, e2, e1]
  exact ⟨hn, h.1⟩
theorem PGo_ok {Ro : Nat → RW} {m : Nat} {A I : List Nat} (o : RsO Ro m) (hA : A.length ≤ 12) (hI : I.length ≤ 60) (r : irs Ro m A I) : P_ok (PGo Ro A I) := by
  refine ⟨hA, hI, fun i hi => ?_⟩
  obtain ⟨hn, _⟩ := r i hi
  have ro := o.2 _ hn
  exact ⟨lmk_lt _ _ _ _ _, lmk_lt _ _ _ _ _, lmk_lt _ _ _ _ _, ro.1, ro.2.2.2.2.2.2.2.1, ro.2.2.2.2.2.2.2.2.1, ro.2.2.2.2.2.2.2.2.2.1⟩
