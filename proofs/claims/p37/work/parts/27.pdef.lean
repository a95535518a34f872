/-! THE SHAPE: the objects that stand from the start -/
def SH0 (h : AH) : Prop := ah_k h 0 = 11 ∧ ah_r h 0 0 = some 1 ∧ ah_r h 0 2 = some 2 ∧ ah_r h 0 5 = some 19 ∧ ah_r h 0 6 = some 23 ∧ ah_r h 0 7 = some 27 ∧ ah_r h 0 8 = some 28 ∧ ah_r h 0 9 = some 31 ∧ ah_r h 0 10 = some 43 ∧ ah_r h 0 11 = some 45 ∧ ah_r h 0 12 = some 46 ∧ ah_k h 1 = 20 ∧ ah_z h 1 = 6 ∧ ah_k h 2 = 23 ∧ ah_z h 2 = 20
def SH19 (h : AH) : Prop := ah_k h 19 = 4 ∧ ah_r h 19 0 = some 20 ∧ ah_r h 19 2 = some 21 ∧ ah_r h 19 4 = some 22 ∧ ah_k h 20 = 20 ∧ ah_z h 20 = 12 ∧ ah_k h 21 = 20 ∧ ah_z h 21 = 60 ∧ ah_k h 22 = 20 ∧ ah_z h 22 = 4
def SH23 (h : AH) : Prop := ah_k h 23 = 4 ∧ ah_r h 23 0 = some 24 ∧ ah_r h 23 2 = some 25 ∧ ah_r h 23 4 = some 26 ∧ ah_k h 24 = 20 ∧ ah_z h 24 = 12 ∧ ah_k h 25 = 20 ∧ ah_z h 25 = 60 ∧ ah_k h 26 = 20 ∧ ah_z h 26 = 4
def SH27 (h : AH) : Prop := ah_k h 27 = 2
def SH28 (h : AH) : Prop := ah_k h 28 = 6 ∧ ah_r h 28 0 = some 29 ∧ ah_r h 28 1 = some 30 ∧ ah_k h 29 = 20 ∧ ah_z h 29 = 6 ∧ ah_k h 30 = 20 ∧ ah_z h 30 = 6
def SH31 (h : AH) : Prop := ah_k h 31 = 7 ∧ ah_r h 31 0 = some 32 ∧ ah_r h 31 1 = some 33 ∧ ah_r h 31 2 = some 34 ∧ ah_r h 31 3 = some 35 ∧ ah_r h 31 4 = some 36 ∧ ah_r h 31 5 = some 37 ∧ ah_r h 31 6 = some 38 ∧ ah_r h 31 7 = some 39 ∧ ah_r h 31 8 = some 40 ∧ ah_r h 31 9 = some 41 ∧ ah_r h 31 10 = some 42 ∧ ah_k h 32 = 23 ∧ ah_z h 32 = 60 ∧ ah_k h 33 = 20 ∧ ah_z h 33 = 60 ∧ ah_k h 34 = 20 ∧ ah_z h 34 = 60 ∧ ah_k h 35 = 20 ∧ ah_z h 35 = 60 ∧ ah_k h 36 = 21 ∧ ah_z h 36 = 720 ∧ ah_k h 37 = 21 ∧ ah_z h 37 = 4096 ∧ ah_k h 38 = 21 ∧ ah_z h 38 = 64 ∧ ah_k h 39 = 21 ∧ ah_z h 39 = 64 ∧ ah_k h 40 = 21 ∧ ah_z h 40 = 64 ∧ ah_k h 41 = 21 ∧ ah_z h 41 = 64 ∧ ah_k h 42 = 20 ∧ ah_z h 42 = 4
def SH43 (h : AH) : Prop := ah_k h 43 = 0 ∧ ah_r h 43 0 = some 44 ∧ ah_k h 44 = 20 ∧ ah_z h 44 = 4
def SH45 (h : AH) : Prop := ah_k h 45 = 9 ∧ ah_r h 45 0 = some 31 ∧ ah_r h 45 1 = some 27 ∧ ah_r h 45 2 = some 43
def SH46 (h : AH) : Prop := ah_k h 46 = 3 ∧ ah_r h 46 0 = some 47 ∧ ah_r h 46 1 = some 48 ∧ ah_k h 47 = 21 ∧ ah_z h 47 = 64 ∧ ah_k h 48 = 21 ∧ ah_z h 48 = 64
def SH49 (h : AH) : Prop := ah_k h 49 = 12 ∧ ah_r h 49 1 = some 50 ∧ ah_r h 49 3 = some 51 ∧ ah_r h 49 4 = some 52 ∧ ah_r h 49 6 = some 53 ∧ ah_r h 49 8 = some 54 ∧ ah_r h 49 10 = some 55 ∧ ah_r h 49 11 = some 56 ∧ ah_r h 49 13 = some 57 ∧ ah_r h 49 14 = some 58 ∧ ah_r h 49 16 = some 59 ∧ ah_r h 49 17 = some 60 ∧ ah_r h 49 18 = some 61 ∧ ah_r h 49 19 = some 62 ∧ ah_r h 49 20 = some 63 ∧ ah_r h 49 24 = some 64 ∧ ah_r h 49 25 = some 65 ∧ ah_r h 49 29 = some 66 ∧ ah_r h 49 30 = some 67 ∧ ah_r h 49 32 = some 68 ∧ ah_k h 50 = 20 ∧ ah_z h 50 = 6 ∧ ah_k h 51 = 20 ∧ ah_z h 51 = 73 ∧ ah_k h 52 = 20 ∧ ah_z h 52 = 1460 ∧ ah_k h 53 = 20 ∧ ah_z h 53 = 600 ∧ ah_k h 54 = 20 ∧ ah_z h 54 = 12 ∧ ah_k h 55 = 20 ∧ ah_z h 55 = 12 ∧ ah_k h 56 = 20 ∧ ah_z h 56 = 12 ∧ ah_k h 57 = 20 ∧ ah_z h 57 = 60 ∧ ah_k h 58 = 20 ∧ ah_z h 58 = 60 ∧ ah_k h 59 = 20 ∧ ah_z h 59 = 60 ∧ ah_k h 60 = 20 ∧ ah_z h 60 = 60 ∧ ah_k h 61 = 20 ∧ ah_z h 61 = 60 ∧ ah_k h 62 = 22 ∧ ah_z h 62 = 60 ∧ ah_k h 63 = 21 ∧ ah_z h 63 = 720 ∧ ah_k h 64 = 20 ∧ ah_z h 64 = 4 ∧ ah_k h 65 = 20 ∧ ah_z h 65 = 4096 ∧ ah_k h 66 = 21 ∧ ah_z h 66 = 4 ∧ ah_k h 67 = 20 ∧ ah_z h 67 = 60 ∧ ah_k h 68 = 20 ∧ ah_z h 68 = 73
def SHP (h : AH) : Prop := SH0 h ∧ SH19 h ∧ SH23 h ∧ SH27 h ∧ SH28 h ∧ SH31 h ∧ SH43 h ∧ SH45 h ∧ SH46 h ∧ SH49 h
theorem hs_0 {h : AH} (q : SHP h) : SH0 h := q.1
theorem hs_19 {h : AH} (q : SHP h) : SH19 h := q.2.1
theorem hs_23 {h : AH} (q : SHP h) : SH23 h := q.2.2.1
theorem hs_27 {h : AH} (q : SHP h) : SH27 h := q.2.2.2.1
theorem hs_28 {h : AH} (q : SHP h) : SH28 h := q.2.2.2.2.1
theorem hs_31 {h : AH} (q : SHP h) : SH31 h := q.2.2.2.2.2.1
theorem hs_43 {h : AH} (q : SHP h) : SH43 h := q.2.2.2.2.2.2.1
theorem hs_45 {h : AH} (q : SHP h) : SH45 h := q.2.2.2.2.2.2.2.1
theorem hs_46 {h : AH} (q : SHP h) : SH46 h := q.2.2.2.2.2.2.2.2.1
theorem hs_49 {h : AH} (q : SHP h) : SH49 h := q.2.2.2.2.2.2.2.2.2
theorem ss_0 {h : AH} (q : SHP h) : ah_k h 0 = 11 ∧ ah_r h 0 0 = some 1 ∧ ah_r h 0 2 = some 2 ∧ ah_r h 0 5 = some 19 ∧ ah_r h 0 6 = some 23 ∧ ah_r h 0 7 = some 27 ∧ ah_r h 0 8 = some 28 ∧ ah_r h 0 9 = some 31 ∧ ah_r h 0 10 = some 43 ∧ ah_r h 0 11 = some 45 ∧ ah_r h 0 12 = some 46 ∧ ah_k h 1 = 20 ∧ ah_z h 1 = 6 ∧ ah_k h 2 = 23 ∧ ah_z h 2 = 20 := hs_0 q
theorem ss_19 {h : AH} (q : SHP h) : ah_k h 19 = 4 ∧ ah_r h 19 0 = some 20 ∧ ah_r h 19 2 = some 21 ∧ ah_r h 19 4 = some 22 ∧ ah_k h 20 = 20 ∧ ah_z h 20 = 12 ∧ ah_k h 21 = 20 ∧ ah_z h 21 = 60 ∧ ah_k h 22 = 20 ∧ ah_z h 22 = 4 := hs_19 q
theorem ss_23 {h : AH} (q : SHP h) : ah_k h 23 = 4 ∧ ah_r h 23 0 = some 24 ∧ ah_r h 23 2 = some 25 ∧ ah_r h 23 4 = some 26 ∧ ah_k h 24 = 20 ∧ ah_z h 24 = 12 ∧ ah_k h 25 = 20 ∧ ah_z h 25 = 60 ∧ ah_k h 26 = 20 ∧ ah_z h 26 = 4 := hs_23 q
theorem ss_27 {h : AH} (q : SHP h) : ah_k h 27 = 2 := hs_27 q
theorem ss_28 {h : AH} (q : SHP h) : ah_k h 28 = 6 ∧ ah_r h 28 0 = some 29 ∧ ah_r h 28 1 = some 30 ∧ ah_k h 29 = 20 ∧ ah_z h 29 = 6 ∧ ah_k h 30 = 20 ∧ ah_z h 30 = 6 := hs_28 q
theorem ss_31 {h : AH} (q : SHP h) : ah_k h 31 = 7 ∧ ah_r h 31 0 = some 32 ∧ ah_r h 31 1 = some 33 ∧ ah_r h 31 2 = some 34 ∧ ah_r h 31 3 = some 35 ∧ ah_r h 31 4 = some 36 ∧ ah_r h 31 5 = some 37 ∧ ah_r h 31 6 = some 38 ∧ ah_r h 31 7 = some 39 ∧ ah_r h 31 8 = some 40 ∧ ah_r h 31 9 = some 41 ∧ ah_r h 31 10 = some 42 ∧ ah_k h 32 = 23 ∧ ah_z h 32 = 60 ∧ ah_k h 33 = 20 ∧ ah_z h 33 = 60 ∧ ah_k h 34 = 20 ∧ ah_z h 34 = 60 ∧ ah_k h 35 = 20 ∧ ah_z h 35 = 60 ∧ ah_k h 36 = 21 ∧ ah_z h 36 = 720 ∧ ah_k h 37 = 21 ∧ ah_z h 37 = 4096 ∧ ah_k h 38 = 21 ∧ ah_z h 38 = 64 ∧ ah_k h 39 = 21 ∧ ah_z h 39 = 64 ∧ ah_k h 40 = 21 ∧ ah_z h 40 = 64 ∧ ah_k h 41 = 21 ∧ ah_z h 41 = 64 ∧ ah_k h 42 = 20 ∧ ah_z h 42 = 4 := hs_31 q
theorem ss_43 {h : AH} (q : SHP h) : ah_k h 43 = 0 ∧ ah_r h 43 0 = some 44 ∧ ah_k h 44 = 20 ∧ ah_z h 44 = 4 := hs_43 q
theorem ss_45 {h : AH} (q : SHP h) : ah_k h 45 = 9 ∧ ah_r h 45 0 = some 31 ∧ ah_r h 45 1 = some 27 ∧ ah_r h 45 2 = some 43 := hs_45 q
theorem ss_46 {h : AH} (q : SHP h) : ah_k h 46 = 3 ∧ ah_r h 46 0 = some 47 ∧ ah_r h 46 1 = some 48 ∧ ah_k h 47 = 21 ∧ ah_z h 47 = 64 ∧ ah_k h 48 = 21 ∧ ah_z h 48 = 64 := hs_46 q
theorem ss_49 {h : AH} (q : SHP h) : ah_k h 49 = 12 ∧ ah_r h 49 1 = some 50 ∧ ah_r h 49 3 = some 51 ∧ ah_r h 49 4 = some 52 ∧ ah_r h 49 6 = some 53 ∧ ah_r h 49 8 = some 54 ∧ ah_r h 49 10 = some 55 ∧ ah_r h 49 11 = some 56 ∧ ah_r h 49 13 = some 57 ∧ ah_r h 49 14 = some 58 ∧ ah_r h 49 16 = some 59 ∧ ah_r h 49 17 = some 60 ∧ ah_r h 49 18 = some 61 ∧ ah_r h 49 19 = some 62 ∧ ah_r h 49 20 = some 63 ∧ ah_r h 49 24 = some 64 ∧ ah_r h 49 25 = some 65 ∧ ah_r h 49 29 = some 66 ∧ ah_r h 49 30 = some 67 ∧ ah_r h 49 32 = some 68 ∧ ah_k h 50 = 20 ∧ ah_z h 50 = 6 ∧ ah_k h 51 = 20 ∧ ah_z h 51 = 73 ∧ ah_k h 52 = 20 ∧ ah_z h 52 = 1460 ∧ ah_k h 53 = 20 ∧ ah_z h 53 = 600 ∧ ah_k h 54 = 20 ∧ ah_z h 54 = 12 ∧ ah_k h 55 = 20 ∧ ah_z h 55 = 12 ∧ ah_k h 56 = 20 ∧ ah_z h 56 = 12 ∧ ah_k h 57 = 20 ∧ ah_z h 57 = 60 ∧ ah_k h 58 = 20 ∧ ah_z h 58 = 60 ∧ ah_k h 59 = 20 ∧ ah_z h 59 = 60 ∧ ah_k h 60 = 20 ∧ ah_z h 60 = 60 ∧ ah_k h 61 = 20 ∧ ah_z h 61 = 60 ∧ ah_k h 62 = 22 ∧ ah_z h 62 = 60 ∧ ah_k h 63 = 21 ∧ ah_z h 63 = 720 ∧ ah_k h 64 = 20 ∧ ah_z h 64 = 4 ∧ ah_k h 65 = 20 ∧ ah_z h 65 = 4096 ∧ ah_k h 66 = 21 ∧ ah_z h 66 = 4 ∧ ah_k h 67 = 20 ∧ ah_z h 67 = 60 ∧ ah_k h 68 = 20 ∧ ah_z h 68 = 73 := hs_49 q
/-! A PROGRAM of instances, as both sides have it: atoms, instances, heads, needs, bans, kinds, what is given, whether there is a sum, its least and greatest, the weights -/
abbrev PG : Type := Nat × Nat × (Nat → Nat) × (Nat → Nat) × (Nat → Nat) × (Nat → Nat) × (Nat → Nat → Int32) × (Nat → Bool) × (Nat → Int32) × (Nat → Int32) × (Nat → Nat → Int64)
def P_n (P : PG) : Nat := P.1
def P_m (P : PG) : Nat := P.2.1
def P_hd (P : PG) : Nat → Nat := P.2.2.1
def P_nd (P : PG) : Nat → Nat := P.2.2.2.1
def P_bn (P : PG) : Nat → Nat := P.2.2.2.2.1
def P_kd (P : PG) : Nat → Nat := P.2.2.2.2.2.1
def P_gv (P : PG) : Nat → Nat → Int32 := P.2.2.2.2.2.2.1
def P_hs (P : PG) : Nat → Bool := P.2.2.2.2.2.2.2.1
def P_lo (P : PG) : Nat → Int32 := P.2.2.2.2.2.2.2.2.1
def P_hi (P : PG) : Nat → Int32 := P.2.2.2.2.2.2.2.2.2.1
def P_wt (P : PG) : Nat → Nat → Int64 := P.2.2.2.2.2.2.2.2.2.2
/-- what is right of any -/
def P_ok (P : PG) : Prop := P_n P ≤ 12 ∧ P_m P ≤ 60 ∧ ∀ i, i < P_m P → P_hd P i < 2 ^ P_n P ∧ P_nd P i < 2 ^ P_n P ∧ P_bn P i < 2 ^ P_n P ∧ P_kd P i ≤ 3 ∧
  (P_kd P i = 1 → ∃ a b : Nat, a ≤ 3 ∧ b ≤ 3 ∧ P_gv P i 0 = nI a ∧ P_gv P i 1 = nI b) ∧
  (P_kd P i = 2 → ∃ b : Nat, b ≤ 2 ∧ P_gv P i 1 = nI b) ∧
  (P_kd P i = 3 → ∃ a b c : Nat, a ≤ 3 ∧ b ≤ 3 ∧ c ≤ 200 ∧ P_gv P i 0 = nI a ∧ P_gv P i 1 = nI b ∧ P_gv P i 2 + nI 100 = nI c)
/-- the sum of an instance in a set, of the first atoms -/
def tot (P : PG) (i s : Nat) : Nat → Int64
  | 0 => lN 0
  | a + 1 => if s.testBit a = true then tot P i s a + P_wt P i a else tot P i s a
/-- the body of an instance holds in a set -/
def holds (P : PG) (i s : Nat) : Bool := decide (s &&& P_nd P i = P_nd P i) && decide (s &&& P_bn P i = 0) && (!P_hs P i || (decide ((P_lo P i).toInt64 ≤ tot P i s (P_n P)) && decide (tot P i s (P_n P) ≤ (P_hi P i).toInt64)))
/-- how many of the first bits are set -/
def pop (s : Nat) : Nat → Nat
  | 0 => 0
  | n + 1 => pop s n + (s.testBit n).toNat
/-- an instance that a set doesn't satisfy -/
def wch (P : PG) (i s : Nat) : Bool := decide (P_gv P i 0 ≤ nI (pop (P_hd P i &&& s) 12)) && decide (nI (pop (P_hd P i &&& s) 12) ≤ P_gv P i 1)
def usat (P : PG) (s i : Nat) : Bool := holds P i s && ((decide (P_kd P i = 0) && decide (P_hd P i &&& s = 0)) || (decide (P_kd P i = 1) && !wch P i s))
/-- an instance of the reduced ones that a smaller set doesn't satisfy -/
def usa2 (P : PG) (t s i : Nat) : Bool := holds P i t && holds P i s && ((decide (P_kd P i = 0) && decide (P_hd P i &&& t = 0)) || (decide (P_kd P i = 1) && !decide (P_hd P i &&& dif s t = 0)))
/-- the rule of an instance, as the class holds it -/
def RuI (h : AH) (r : Nat) (P : PG) (i : Nat) : Prop := ah_k h r = 8 ∧ ah_r h r 0 = some (r + 1) ∧ ah_k h (r + 1) = 5 ∧ ah_r h r 4 = some (r + 10) ∧ ah_k h (r + 10) = 10 ∧ ah_i h (r + 1) 0 = nI (P_kd P i) ∧
  (P_kd P i = 1 → ah_i h (r + 1) 2 = P_gv P i 0 ∧ ah_i h (r + 1) 3 = P_gv P i 1) ∧ (P_kd P i = 2 → ah_i h (r + 1) 4 = P_gv P i 0 ∧ ah_i h (r + 1) 5 = P_gv P i 1) ∧
  (P_kd P i = 3 → ah_i h (r + 1) 6 = P_gv P i 0 ∧ ah_i h (r + 1) 7 = P_gv P i 1 ∧ ah_i h (r + 1) 8 = P_gv P i 2) ∧ (P_hs P i = true → ah_i h (r + 10) 1 = P_lo P i ∧ ah_i h (r + 10) 2 = P_hi P i)
/-- the class holds a program: its instances -/
def RPI (h : AH) (P : PG) : Prop := ah_i h 31 11 = nI (P_n P) ∧ ah_i h 31 12 = nI (P_m P) ∧
  ah_l h 31 13 = lN (msk (P_m P) fun i => decide (P_kd P i = 0)) ∧ ah_l h 31 14 = lN (msk (P_m P) fun i => decide (P_kd P i = 1)) ∧ ah_l h 31 15 = lN (msk (P_m P) (P_hs P)) ∧
  ah_l h 31 16 = lN (msk (P_m P) fun i => decide (P_kd P i = 2)) ∧ ah_l h 31 17 = lN (msk (P_m P) fun i => decide (P_kd P i = 3)) ∧
  ∀ i, i < P_m P → ah_i h 33 i = nI (P_hd P i) ∧ ah_i h 34 i = nI (P_nd P i) ∧ ah_i h 35 i = nI (P_bn P i) ∧ (P_hs P i = true → ∀ a, a < P_n P → ah_l h 36 (i * 12 + a) = P_wt P i a) ∧ ∃ r, ah_r h 32 i = some r ∧ RuI h r P i
/-- and its tables -/
def RPT (h : AH) (P : PG) : Prop := RPI h P ∧ (∀ s, s < 2 ^ P_n P → ah_l h 37 s = lN (msk (P_m P) fun i => holds P i s)) ∧
  (∀ p, p < 64 → ah_l h 38 p = lN (msk (P_m P) fun i => !decide (P_hd P i &&& p = 0)) ∧ ah_l h 39 p = lN (msk (P_m P) fun i => !decide (P_hd P i / 64 &&& p = 0)))
