/-! THE ABSTRACT MACHINE: a heap of typed slots, instructions with their links resolved, runs of methods as a relation -/
abbrev AH : Type := Nat × Nat × (Nat → Nat × Nat) × (Nat → Nat → Int32) × (Nat → Nat → Int64) × (Nat → Nat → Option Nat)
/-- cells, slots, an address's kind and length, its ints, longs, references -/
def ah_n (h : AH) : Nat := h.1
def ah_u (h : AH) : Nat := h.2.1
def ah_k (h : AH) (a : Nat) : Nat := if a < h.1 then (h.2.2.1 a).1 else 99
def ah_z (h : AH) (a : Nat) : Nat := (h.2.2.1 a).2
def ah_i (h : AH) (a k : Nat) : Int32 := h.2.2.2.1 a k
def ah_l (h : AH) (a k : Nat) : Int64 := h.2.2.2.2.1 a k
def ah_r (h : AH) (a k : Nat) : Option Nat := h.2.2.2.2.2 a k
def ap_i (h : AH) (a k : Nat) (v : Int32) : AH := (h.1, h.2.1, h.2.2.1, (fun b j => if b = a ∧ j = k then v else h.2.2.2.1 b j), h.2.2.2.2.1, h.2.2.2.2.2)
def ap_l (h : AH) (a k : Nat) (v : Int64) : AH := (h.1, h.2.1, h.2.2.1, h.2.2.2.1, (fun b j => if b = a ∧ j = k then v else h.2.2.2.2.1 b j), h.2.2.2.2.2)
def ap_r (h : AH) (a k : Nat) (v : Option Nat) : AH := (h.1, h.2.1, h.2.2.1, h.2.2.2.1, h.2.2.2.2.1, (fun b j => if b = a ∧ j = k then v else h.2.2.2.2.2 b j))
/-- a new cell of a kind and a length, which takes so many slots -/
def ap_n (h : AH) (kd len us : Nat) : AH := (h.1 + 1, h.2.1 + us, (fun b => if b = h.1 then (kd, len) else h.2.2.1 b), (fun b j => if b = h.1 then 0 else h.2.2.2.1 b j), (fun b j => if b = h.1 then 0 else h.2.2.2.2.1 b j), (fun b j => if b = h.1 then none else h.2.2.2.2.2 b j))
/-- no value is known there -/
def unk : Value := .retAddr 0
/-- the script -/
def scr : Value := .retAddr 1
def knw : Value → Bool
  | .retAddr n => n == 1
  | .double _ => false
  | .float _ => false
  | _ => true
def isLg : Value → Bool
  | .long _ => true
  | _ => false
/-- a reference, null, or the script -/
def isRf : Value → Bool
  | .ref _ => true
  | .null => true
  | .retAddr n => n == 1
  | _ => false
def st1 (ls : List Value) (k : Nat) (v : Value) : List Value := match k with
  | 0 => ls.set 0 v
  | j + 1 => if isLg (ls.getD j unk) = true then (ls.set j unk).set (j + 1) v else ls.set (j + 1) v
def st2 (ls : List Value) (k : Nat) (v : Value) : List Value := (st1 ls k v).set (k + 1) unk
abbrev Rs : Type := Option Value ⊕ Nat
def pI (st : List Value) (F : Int32 → List Value → Prop) : Prop := match st with
  | .int x :: r => F x r
  | _ => False
def pL (st : List Value) (F : Int64 → List Value → Prop) : Prop := match st with
  | .long x :: r => F x r
  | _ => False
def pA (st : List Value) (F : Nat → List Value → Prop) : Prop := match st with
  | .ref x :: r => F x r
  | _ => False
def pV (st : List Value) (F : Value → List Value → Prop) : Prop := match st with
  | x :: r => F x r
  | _ => False
/-- a reference or null -/
def pQ (st : List Value) (F : Option Nat → List Value → Prop) : Prop := match st with
  | .ref x :: r => F (some x) r
  | .null :: r => F none r
  | _ => False
def pE (st : List Value) (F : Prop) : Prop := match st with
  | [] => F
  | _ => False
theorem pI_inv {st : List Value} {F : Int32 → List Value → Prop} (h : pI st F) : ∃ x r, st = .int x :: r ∧ F x r := by
  unfold pI at h
  split at h
  · exact ⟨_, _, rfl, h⟩
  · exact h.elim
theorem pL_inv {st : List Value} {F : Int64 → List Value → Prop} (h : pL st F) : ∃ x r, st = .long x :: r ∧ F x r := by
  unfold pL at h
  split at h
  · exact ⟨_, _, rfl, h⟩
  · exact h.elim
theorem pA_inv {st : List Value} {F : Nat → List Value → Prop} (h : pA st F) : ∃ x r, st = .ref x :: r ∧ F x r := by
  unfold pA at h
  split at h
  · exact ⟨_, _, rfl, h⟩
  · exact h.elim
theorem pV_inv {st : List Value} {F : Value → List Value → Prop} (h : pV st F) : ∃ x r, st = x :: r ∧ F x r := by
  unfold pV at h
  split at h
  · exact ⟨_, _, rfl, h⟩
  · exact h.elim
theorem pQ_inv {st : List Value} {F : Option Nat → List Value → Prop} (h : pQ st F) : ∃ x r, st = va_rf x :: r ∧ F x r := by
  unfold pQ at h
  split at h
  · exact ⟨_, _, rfl, h⟩
  · exact ⟨_, _, rfl, h⟩
  · exact h.elim
theorem pE_inv {st : List Value} {F : Prop} (h : pE st F) : st = [] ∧ F := by
  unfold pE at h
  split at h
  · exact ⟨rfl, h⟩
  · exact h.elim
/-- the arguments of a call off the stack -/
def popA : Nat → List Value → List Value → (List Value → List Value → Prop) → Prop
  | 0, acc, st, F => F acc st
  | n + 1, acc, st, F => match st with
    | v :: r => knw v = true ∧ popA n (v :: acc) r F
    | [] => False
def cmpC (c : ClassFile.Cond) (x y : Int32) : Prop := match c with
  | .eq => x = y
  | .ne => ¬ x = y
  | .lt => x < y
  | .ge => y ≤ x
  | .gt => y < x
  | .le => x ≤ y
/-- a field's value: its type's sign 0 int, 3 boolean, 1 long, 2 reference -/
def fvl (t : Nat) (h : AH) (a k : Nat) : Value := match t with
  | 1 => .long (ah_l h a k)
  | 2 => va_rf (ah_r h a k)
  | _ => .int (ah_i h a k)
def fput (t : Nat) (st : List Value) (h : AH) (k : Nat) (F : Nat → List Value → AH → Prop) : Prop := match t with
  | 0 => pI st fun v st => pA st fun a st => F a st (ap_i h a k v)
  | 1 => pL st fun v st => pA st fun a st => F a st (ap_l h a k v)
  | 2 => pQ st fun v st => pA st fun a st => F a st (ap_r h a k v)
  | _ => pI st fun v st => (v = 0 ∨ v = 1) ∧ pA st fun a st => F a st (ap_i h a k v)
def aKind : ArrayType → Nat
  | .int => 20
  | .long => 21
  | .boolean => 22
  | _ => 99
/-- the signs of the classes' fields, and their number, come from the tables of 03 (fty, nfl); of the methods: how many arguments, the class, the cells' words -/
def stp (nA mC : Nat → Nat) (fty : Nat → Nat → Nat) (nfl : Nat → Nat) (sc : (Nat → Int32) × Nat) (i : Instr) (ip : Nat) (ls st : List Value) (h : AH)
    (K : Nat → List Value → List Value → AH → Prop) (KC : Nat → List Value → List Value → Prop) (KR : Rs → AH → Prop) : Prop := match i with
  | .iload k => pI [ls.getD k unk] fun x _ => K (ip + 1) ls (.int x :: st) h
  | .lload k => pL [ls.getD k unk] fun x _ => K (ip + 1) ls (.long x :: st) h
  | .aload k => isRf (ls.getD k unk) = true ∧ K (ip + 1) ls (ls.getD k unk :: st) h
  | .istore k => pI st fun x st => k < ls.length ∧ K (ip + 1) (st1 ls k (.int x)) st h
  | .astore k => pQ st fun x st => k < ls.length ∧ K (ip + 1) (st1 ls k (va_rf x)) st h
  | .lstore k => pL st fun v st => k + 1 < ls.length ∧ K (ip + 1) (st2 ls k (.long v)) st h
  | .iconst n => K (ip + 1) ls (.int (Int32.ofInt n) :: st) h
  | .sipush n => K (ip + 1) ls (.long (Int64.ofInt n) :: st) h
  | .aconst_null => K (ip + 1) ls (.null :: st) h
  | .iadd => pI st fun y st => pI st fun x st => K (ip + 1) ls (.int (x + y) :: st) h
  | .isub => pI st fun y st => pI st fun x st => K (ip + 1) ls (.int (x - y) :: st) h
  | .imul => pI st fun y st => pI st fun x st => K (ip + 1) ls (.int (x * y) :: st) h
  | .iand => pI st fun y st => pI st fun x st => K (ip + 1) ls (.int (x &&& y) :: st) h
  | .ior => pI st fun y st => pI st fun x st => K (ip + 1) ls (.int (x ||| y) :: st) h
  | .ixor => pI st fun y st => pI st fun x st => K (ip + 1) ls (.int (x ^^^ y) :: st) h
  | .idiv => pI st fun y st => pI st fun x st => ¬ y = 0 ∧ K (ip + 1) ls (.int (x / y) :: st) h
  | .irem => pI st fun y st => pI st fun x st => ¬ y = 0 ∧ K (ip + 1) ls (.int (x - x / y * y) :: st) h
  | .ishl => pI st fun y st => pI st fun x st => K (ip + 1) ls (.int (x <<< (y &&& 31)) :: st) h
  | .ishr => pI st fun y st => pI st fun x st => K (ip + 1) ls (.int (x >>> (y &&& 31)) :: st) h
  | .iushr => pI st fun y st => pI st fun x st => K (ip + 1) ls (.int (x.toUInt32 >>> (y.toUInt32 &&& Int32.toUInt32 31)).toInt32 :: st) h
  | .ladd => pL st fun y st => pL st fun x st => K (ip + 1) ls (.long (x + y) :: st) h
  | .lsub => pL st fun y st => pL st fun x st => K (ip + 1) ls (.long (x - y) :: st) h
  | .land => pL st fun y st => pL st fun x st => K (ip + 1) ls (.long (x &&& y) :: st) h
  | .lor => pL st fun y st => pL st fun x st => K (ip + 1) ls (.long (x ||| y) :: st) h
  | .lxor => pL st fun y st => pL st fun x st => K (ip + 1) ls (.long (x ^^^ y) :: st) h
  | .lneg => pL st fun x st => K (ip + 1) ls (.long (-x) :: st) h
  | .lshl => pI st fun y st => pL st fun x st => K (ip + 1) ls (.long (x <<< (y.toInt64 &&& 63)) :: st) h
  | .lshr => pI st fun y st => pL st fun x st => K (ip + 1) ls (.long (x >>> (y.toInt64 &&& 63)) :: st) h
  | .lushr => pI st fun y st => pL st fun x st => K (ip + 1) ls (.long (x.toUInt64 >>> (y.toInt64.toUInt64 &&& Int64.toUInt64 63)).toInt64 :: st) h
  | .i2l => pI st fun x st => K (ip + 1) ls (.long x.toInt64 :: st) h
  | .l2i => pL st fun x st => K (ip + 1) ls (.int x.toInt32 :: st) h
  | .lcmp => pL st fun y st => pL st fun x st => K (ip + 1) ls (.int (lg_cmp x y) :: st) h
  | .dup => pV st fun v st => isLg v = false ∧ knw v = true ∧ K (ip + 1) ls (v :: v :: st) h
  | .pop => pV st fun v st => isLg v = false ∧ knw v = true ∧ K (ip + 1) ls st h
  | .dup2 => pV st fun v st => pV st fun w st => isLg v = false ∧ knw v = true ∧ isLg w = false ∧ knw w = true ∧ K (ip + 1) ls (v :: w :: v :: w :: st) h
  | .i2c => pI st fun y st => pI st fun x st => st.length ≤ 4 ∧ K (ip + 1) ls (.int (if x < y then y else x) :: st) h
  | .i2s => pI st fun y st => pI st fun x st => st.length ≤ 4 ∧ K (ip + 1) ls (.int (if y < x then y else x) :: st) h
  | .monitorenter => pA st fun _ st => st.length ≤ 4 ∧ K (ip + 1) ls st h
  | .ifCond c t => pI st fun x st => (cmpC c x 0 → K t.toNat ls st h) ∧ (¬ cmpC c x 0 → K (ip + 1) ls st h)
  | .if_icmp c t => pI st fun y st => pI st fun x st => (cmpC c x y → K t.toNat ls st h) ∧ (¬ cmpC c x y → K (ip + 1) ls st h)
  | .ifnull t => pQ st fun x st => (x = none → K t.toNat ls st h) ∧ (¬ x = none → K (ip + 1) ls st h)
  | .goto t => K t.toNat ls st h
  | .iinc k n => pI [ls.getD k unk] fun x _ => k < ls.length ∧ K (ip + 1) (st1 ls k (.int (x + Int32.ofInt n))) st h
  | .tableswitch d lo hi os => pI st fun x st => ((x.toInt < lo ∨ hi < x.toInt) → K d.toNat ls st h) ∧ (¬ x.toInt < lo → ¬ hi < x.toInt → ∃ t, os[(x.toInt - lo).toNat]? = some t ∧ K t.toNat ls st h)
  | .ireturn => pI st fun x st => pE st (KR (.inl (some (.int x))) h)
  | .freturn => pI st fun x st => pE st ((x = 0 ∨ x = 1) ∧ KR (.inl (some (.int x))) h)
  | .lreturn => pL st fun x st => pE st (KR (.inl (some (.long x))) h)
  | .areturn => pQ st fun x st => pE st (KR (.inl (some (va_rf x))) h)
  | .return_ => pE st (KR (.inl none) h)
  | .ldc E => st.length ≤ 4 ∧ KR (.inr E) (ap_n h 30 0 6)
  | .getfield n => pA st fun a st => ah_k h a = n / 100 ∧ K (ip + 1) ls (fvl (fty (n / 100) (n % 100)) h a (n % 100) :: st) h
  | .putfield n => fput (fty (n / 100) (n % 100)) st h (n % 100) fun a st h => ah_k h a = n / 100 ∧ K (ip + 1) ls st h
  | .iaload => pI st fun i st => pV st fun v st => match v with
    | .ref a => ah_k h a = 20 ∧ vp_in i (ah_z h a) ∧ K (ip + 1) ls (.int (ah_i h a i.toNatClampNeg) :: st) h
    | .retAddr 1 => vp_in i sc.2 ∧ K (ip + 1) ls (.int (sc.1 i.toNatClampNeg) :: st) h
    | _ => False
  | .iastore => pI st fun x st => pI st fun i st => pA st fun a st => ah_k h a = 20 ∧ vp_in i (ah_z h a) ∧ K (ip + 1) ls st (ap_i h a i.toNatClampNeg x)
  | .laload => pI st fun i st => pA st fun a st => ah_k h a = 21 ∧ vp_in i (ah_z h a) ∧ K (ip + 1) ls (.long (ah_l h a i.toNatClampNeg) :: st) h
  | .lastore => pL st fun x st => pI st fun i st => pA st fun a st => ah_k h a = 21 ∧ vp_in i (ah_z h a) ∧ K (ip + 1) ls st (ap_l h a i.toNatClampNeg x)
  | .baload => pI st fun i st => pA st fun a st => ah_k h a = 22 ∧ vp_in i (ah_z h a) ∧ K (ip + 1) ls (.int (ah_i h a i.toNatClampNeg) :: st) h
  | .bastore => pI st fun x st => pI st fun i st => pA st fun a st => ah_k h a = 22 ∧ vp_in i (ah_z h a) ∧ (x = 0 ∨ x = 1) ∧ K (ip + 1) ls st (ap_i h a i.toNatClampNeg x)
  | .aaload => pI st fun i st => pA st fun a st => ah_k h a = 23 ∧ vp_in i (ah_z h a) ∧ K (ip + 1) ls (va_rf (ah_r h a i.toNatClampNeg) :: st) h
  | .aastore => pQ st fun v st => pI st fun i st => pA st fun a st => ah_k h a = 23 ∧ vp_in i (ah_z h a) ∧ (∀ q, v = some q → ah_k h q = 8) ∧ K (ip + 1) ls st (ap_r h a i.toNatClampNeg v)
  | .arraylength => pV st fun v st => match v with
    | .ref a => 20 ≤ ah_k h a ∧ ah_k h a ≤ 23 ∧ K (ip + 1) ls (.int (Int32.ofNat (ah_z h a)) :: st) h
    | .retAddr 1 => K (ip + 1) ls (.int (Int32.ofNat sc.2) :: st) h
    | _ => False
  | .newarray t => pI st fun n st => aKind t ≤ 23 ∧ ¬ n < 0 ∧ n.toNatClampNeg ≤ 10000 ∧ K (ip + 1) ls (.ref (ah_n h) :: st) (ap_n h (aKind t) n.toNatClampNeg n.toNatClampNeg)
  | .anewarray _ => pI st fun n st => ¬ n < 0 ∧ n.toNatClampNeg ≤ 10000 ∧ K (ip + 1) ls (.ref (ah_n h) :: st) (ap_n h 23 n.toNatClampNeg n.toNatClampNeg)
  | .new c => K (ip + 1) ls (.ref (ah_n h) :: st) (ap_n h c 0 (nfl c))
  | .invokestatic mi => popA (nA mi) [] st fun as rest => rest.length ≤ 4 ∧ KC mi as rest
  | .invokespecial mi => popA (nA mi) [] st fun as rest => pA as fun _ _ => rest.length ≤ 4 ∧ KC mi as rest
  | .invokevirtual mi => popA (nA mi) [] st fun as rest => pA as fun a _ => ah_k h a = mC mi ∧ rest.length ≤ 4 ∧ KC mi as rest
  | _ => False
/-- the locals at a method's entry -/
def entL : List Value → List Value
  | [] => []
  | v :: l => if isLg v = true then v :: unk :: entL l else v :: entL l
def padL (n : Nat) (l : List Value) : List Value := l ++ List.replicate (n - l.length) unk
/-! runs: of a method's code, so many steps; the calls by C -/
section RUNS
variable (nA mC : Nat → Nat) (fty : Nat → Nat → Nat) (nfl : Nat → Nat) (sc : (Nat → Int32) × Nat)
variable (mT : Nat → Bool)
def SR (cd : Nat → Option Instr) (hd : Nat → Nat → Option (Nat × Nat)) (C : Nat → List Value → AH → Rs → AH → Prop) : Nat → Nat → List Value → List Value → AH → Rs → AH → Prop
  | 0 => fun _ _ _ _ _ _ => False
  | n + 1 => fun ip ls st h r h' => ∃ i, cd ip = some i ∧ stp nA mC fty nfl sc i ip ls st h (fun ip ls st h => SR cd hd C n ip ls st h r h')
      (fun mi as rest => ∃ r1 h1, C mi as h r1 h1 ∧ match r1 with
        | .inl v => SR cd hd C n (ip + 1) ls (v.toList ++ rest) h1 r h'
        | .inr E => (mT mi = true ∧ E < 3) ∧ match hd ip E with
          | some (t, k) => k < ls.length ∧ SR cd hd C n t (st1 ls k unk) [] h1 r h'
          | none => r = .inr E ∧ h' = h1)
      (fun r0 h0 => r = r0 ∧ h' = h0)
variable (mL : Nat → Nat) (cdo : Nat → Nat → Option Instr) (hdo : Nat → Nat → Nat → Option (Nat × Nat))
def Rn : Nat → Nat → List Value → AH → Rs → AH → Prop
  | 0 => fun _ _ _ _ _ => False
  | d + 1 => fun mi as h r h' => (entL as).length ≤ mL mi ∧ ∃ n, SR nA mC fty nfl sc mT (cdo mi) (hdo mi) (Rn d) n 0 (padL (mL mi) (entL as)) [] h r h'
end RUNS
/-- a step goes on at one place, by what it finds: LIN -/
abbrev TK : Type := Nat → List Value → List Value → AH → Prop
abbrev TKC : Type := Nat → List Value → List Value → Prop
abbrev TKR : Type := Rs → AH → Prop
def LIN (P : TK → TKC → TKR → Prop) : Prop :=
  (∃ ip ls st h, ∀ K KC KR, P K KC KR ↔ K ip ls st h) ∨ (∃ mi as rest, ∀ K KC KR, P K KC KR ↔ KC mi as rest) ∨ (∃ r h, ∀ K KC KR, P K KC KR ↔ KR r h) ∨ ∀ K KC KR, ¬ P K KC KR
theorem lin_K (ip : Nat) (ls st : List Value) (h : AH) : LIN (fun K _ _ => K ip ls st h) := Or.inl ⟨ip, ls, st, h, fun _ _ _ => Iff.rfl⟩
theorem lin_C (mi : Nat) (as rest : List Value) : LIN (fun _ KC _ => KC mi as rest) := Or.inr (Or.inl ⟨mi, as, rest, fun _ _ _ => Iff.rfl⟩)
theorem lin_R (r : Rs) (h : AH) : LIN (fun _ _ KR => KR r h) := Or.inr (Or.inr (Or.inl ⟨r, h, fun _ _ _ => Iff.rfl⟩))
theorem lin_F : LIN (fun _ _ _ => False) := Or.inr (Or.inr (Or.inr fun _ _ _ h => h))
theorem lin_iff {P Q : TK → TKC → TKR → Prop} (h : ∀ K KC KR, P K KC KR ↔ Q K KC KR) (hQ : LIN Q) : LIN P := by
  rcases hQ with ⟨a, b, c, d, g⟩ | ⟨a, b, c, g⟩ | ⟨a, b, g⟩ | g
  · exact Or.inl ⟨a, b, c, d, fun K KC KR => (h K KC KR).trans (g K KC KR)⟩
  · exact Or.inr (Or.inl ⟨a, b, c, fun K KC KR => (h K KC KR).trans (g K KC KR)⟩)
  · exact Or.inr (Or.inr (Or.inl ⟨a, b, fun K KC KR => (h K KC KR).trans (g K KC KR)⟩))
  · exact Or.inr (Or.inr (Or.inr fun K KC KR q => g K KC KR ((h K KC KR).mp q)))
theorem lin_and {c : Prop} {P : TK → TKC → TKR → Prop} (hP : LIN P) : LIN (fun K KC KR => c ∧ P K KC KR) := by
  by_cases hc : c
  · exact lin_iff (fun K KC KR => ⟨fun q => q.2, fun q => ⟨hc, q⟩⟩) hP
  · exact Or.inr (Or.inr (Or.inr fun K KC KR q => hc q.1))
theorem lin_if {c : Prop} {P Q : TK → TKC → TKR → Prop} (hP : LIN P) (hQ : LIN Q) : LIN (fun K KC KR => (c → P K KC KR) ∧ (¬ c → Q K KC KR)) := by
  by_cases hc : c
  · exact lin_iff (fun K KC KR => ⟨fun q => q.1 hc, fun q => ⟨fun _ => q, fun z => absurd hc z⟩⟩) hP
  · exact lin_iff (fun K KC KR => ⟨fun q => q.2 hc, fun q => ⟨fun z => absurd z hc, fun _ => q⟩⟩) hQ
theorem lin_pI {st : List Value} {F : Int32 → List Value → TK → TKC → TKR → Prop} (hF : ∀ x r, LIN (F x r)) : LIN (fun K KC KR => pI st fun x r => F x r K KC KR) := by
  unfold pI
  split
  · exact hF _ _
  · exact lin_F
theorem lin_pL {st : List Value} {F : Int64 → List Value → TK → TKC → TKR → Prop} (hF : ∀ x r, LIN (F x r)) : LIN (fun K KC KR => pL st fun x r => F x r K KC KR) := by
  unfold pL
  split
  · exact hF _ _
  · exact lin_F
theorem lin_pA {st : List Value} {F : Nat → List Value → TK → TKC → TKR → Prop} (hF : ∀ x r, LIN (F x r)) : LIN (fun K KC KR => pA st fun x r => F x r K KC KR) := by
  unfold pA
  split
  · exact hF _ _
  · exact lin_F
theorem lin_pV {st : List Value} {F : Value → List Value → TK → TKC → TKR → Prop} (hF : ∀ x r, LIN (F x r)) : LIN (fun K KC KR => pV st fun x r => F x r K KC KR) := by
  unfold pV
  split
  · exact hF _ _
  · exact lin_F
theorem lin_pQ {st : List Value} {F : Option Nat → List Value → TK → TKC → TKR → Prop} (hF : ∀ x r, LIN (F x r)) : LIN (fun K KC KR => pQ st fun x r => F x r K KC KR) := by
  unfold pQ
  split
  · exact hF _ _
  · exact hF _ _
  · exact lin_F
theorem lin_pE {st : List Value} {P : TK → TKC → TKR → Prop} (hP : LIN P) : LIN (fun K KC KR => pE st (P K KC KR)) := by
  unfold pE
  split
  · exact hP
  · exact lin_F
theorem lin_popA {F : List Value → List Value → TK → TKC → TKR → Prop} (hF : ∀ x r, LIN (F x r)) : ∀ (n : Nat) (acc st : List Value), LIN (fun K KC KR => popA n acc st fun x r => F x r K KC KR)
  | 0, acc, st => hF _ _
  | n + 1, acc, [] => lin_F
  | n + 1, acc, v :: r => lin_and (lin_popA hF n (v :: acc) r)
theorem lin_fput {t : Nat} {st : List Value} {h : AH} {k : Nat} {F : Nat → List Value → AH → TK → TKC → TKR → Prop} (hF : ∀ a st h, LIN (F a st h)) : LIN (fun K KC KR => fput t st h k fun a st h => F a st h K KC KR) := by
  unfold fput
  split
  · exact lin_pI fun _ _ => lin_pA fun _ _ => hF _ _ _
  · exact lin_pL fun _ _ => lin_pA fun _ _ => hF _ _ _
  · exact lin_pQ fun _ _ => lin_pA fun _ _ => hF _ _ _
  · exact lin_pI fun _ _ => lin_and (lin_pA fun _ _ => hF _ _ _)
section LINS
variable {nA mC : Nat → Nat} {fty : Nat → Nat → Nat} {nfl : Nat → Nat} {sc : (Nat → Int32) × Nat}
set_option maxHeartbeats 4000000 in
theorem stp_lin (i : Instr) (ip : Nat) (ls st : List Value) (h : AH) : LIN (stp nA mC fty nfl sc i ip ls st h) := by
  cases i
  case iload k => exact lin_pI fun _ _ => lin_K _ _ _ _
  case lload k => exact lin_pL fun _ _ => lin_K _ _ _ _
  case aload k => exact lin_and (lin_K _ _ _ _)
  case istore k => exact lin_pI fun _ _ => lin_and (lin_K _ _ _ _)
  case astore k => exact lin_pQ (F := fun x st K KC KR => k < ls.length ∧ K (ip + 1) (st1 ls k (va_rf x)) st h) fun _ _ => lin_and (lin_K _ _ _ _)
  case lstore k => exact lin_pL fun _ _ => lin_and (lin_K _ _ _ _)
  case iconst => exact lin_K _ _ _ _
  case sipush => exact lin_K _ _ _ _
  case aconst_null => exact lin_K _ _ _ _
  case iadd => exact lin_pI fun _ _ => lin_pI fun _ _ => lin_K _ _ _ _
  case isub => exact lin_pI fun _ _ => lin_pI fun _ _ => lin_K _ _ _ _
  case imul => exact lin_pI fun _ _ => lin_pI fun _ _ => lin_K _ _ _ _
  case iand => exact lin_pI fun _ _ => lin_pI fun _ _ => lin_K _ _ _ _
  case ior => exact lin_pI fun _ _ => lin_pI fun _ _ => lin_K _ _ _ _
  case ixor => exact lin_pI fun _ _ => lin_pI fun _ _ => lin_K _ _ _ _
  case idiv => exact lin_pI fun _ _ => lin_pI fun _ _ => lin_and (lin_K _ _ _ _)
  case irem => exact lin_pI fun _ _ => lin_pI fun _ _ => lin_and (lin_K _ _ _ _)
  case ishl => exact lin_pI fun _ _ => lin_pI fun _ _ => lin_K _ _ _ _
  case ishr => exact lin_pI fun _ _ => lin_pI fun _ _ => lin_K _ _ _ _
  case iushr => exact lin_pI fun _ _ => lin_pI fun _ _ => lin_K _ _ _ _
  case ladd => exact lin_pL fun _ _ => lin_pL fun _ _ => lin_K _ _ _ _
  case lsub => exact lin_pL fun _ _ => lin_pL fun _ _ => lin_K _ _ _ _
  case land => exact lin_pL fun _ _ => lin_pL fun _ _ => lin_K _ _ _ _
  case lor => exact lin_pL fun _ _ => lin_pL fun _ _ => lin_K _ _ _ _
  case lxor => exact lin_pL fun _ _ => lin_pL fun _ _ => lin_K _ _ _ _
  case lcmp => exact lin_pL fun _ _ => lin_pL fun _ _ => lin_K _ _ _ _
  case lneg => exact lin_pL fun _ _ => lin_K _ _ _ _
  case i2l => exact lin_pI fun _ _ => lin_K _ _ _ _
  case l2i => exact lin_pL fun _ _ => lin_K _ _ _ _
  case lshl => exact lin_pI fun _ _ => lin_pL fun _ _ => lin_K _ _ _ _
  case lshr => exact lin_pI fun _ _ => lin_pL fun _ _ => lin_K _ _ _ _
  case lushr => exact lin_pI fun _ _ => lin_pL fun _ _ => lin_K _ _ _ _
  case dup => exact lin_pV fun _ _ => lin_and (lin_and (lin_K _ _ _ _))
  case pop => exact lin_pV fun _ _ => lin_and (lin_and (lin_K _ _ _ _))
  case dup2 => exact lin_pV fun _ _ => lin_pV fun _ _ => lin_and (lin_and (lin_and (lin_and (lin_K _ _ _ _))))
  case i2c => exact lin_pI fun _ _ => lin_pI fun _ _ => lin_and (lin_K _ _ _ _)
  case i2s => exact lin_pI fun _ _ => lin_pI fun _ _ => lin_and (lin_K _ _ _ _)
  case monitorenter => exact lin_pA fun _ _ => lin_and (lin_K _ _ _ _)
  case ifCond c t => exact lin_pI fun _ _ => lin_if (lin_K _ _ _ _) (lin_K _ _ _ _)
  case if_icmp c t => exact lin_pI fun _ _ => lin_pI fun _ _ => lin_if (lin_K _ _ _ _) (lin_K _ _ _ _)
  case ifnull t => exact lin_pQ (F := fun x st K KC KR => (x = none → K t.toNat ls st h) ∧ (¬ x = none → K (ip + 1) ls st h)) fun x r => lin_if (P := fun K _ _ => K t.toNat ls r h) (Q := fun K _ _ => K (ip + 1) ls r h) (lin_K _ _ _ _) (lin_K _ _ _ _)
  case goto t => exact lin_K _ _ _ _
  case iinc k n => exact lin_pI fun _ _ => lin_and (lin_K _ _ _ _)
  case tableswitch d lo hi os =>
    refine lin_pI fun x r => ?_
    by_cases h1 : x.toInt < lo ∨ hi < x.toInt
    · exact lin_iff (fun K KC KR => ⟨fun q => q.1 h1, fun q => ⟨fun _ => q, fun a b => absurd h1 (fun z => z.elim a b)⟩⟩) (lin_K d.toNat ls r h)
    · have n1 : ¬ x.toInt < lo := fun z => h1 (Or.inl z)
      have n2 : ¬ hi < x.toInt := fun z => h1 (Or.inr z)
      cases ho : os[(x.toInt - lo).toNat]? with
      | none =>
        refine Or.inr (Or.inr (Or.inr fun K KC KR q => ?_))
        obtain ⟨t, e, -⟩ := q.2 n1 n2
        cases e
      | some t =>
        refine lin_iff (fun K KC KR => Iff.intro (fun q => ?_) (fun q => ⟨fun z => absurd z h1, fun _ _ => ⟨t, rfl, q⟩⟩)) (lin_K t.toNat ls r h)
        obtain ⟨t', e, g⟩ := q.2 n1 n2
        cases e
        exact g
  case ireturn => exact lin_pI fun _ _ => lin_pE (lin_R _ _)
  case freturn => exact lin_pI fun _ _ => lin_pE (lin_and (lin_R _ _))
  case lreturn => exact lin_pL fun _ _ => lin_pE (lin_R _ _)
  case areturn => exact lin_pQ (F := fun x st K KC KR => pE st (KR (.inl (some (va_rf x))) h)) fun _ _ => lin_pE (lin_R _ _)
  case return_ => exact lin_pE (lin_R _ _)
  case ldc E => exact lin_and (lin_R _ _)
  case getfield n => exact lin_pA fun _ _ => lin_and (lin_K _ _ _ _)
  case putfield n => exact lin_fput (F := fun a st h K KC KR => ah_k h a = n / 100 ∧ K (ip + 1) ls st h) fun _ _ _ => lin_and (lin_K _ _ _ _)
  case iaload =>
    refine lin_pI fun _ _ => lin_pV fun v r => ?_
    split
    · exact lin_and (lin_and (lin_K _ _ _ _))
    · exact lin_and (lin_K _ _ _ _)
    · exact lin_F
  case iastore => exact lin_pI fun _ _ => lin_pI fun _ _ => lin_pA fun _ _ => lin_and (lin_and (lin_K _ _ _ _))
  case laload => exact lin_pI fun _ _ => lin_pA fun _ _ => lin_and (lin_and (lin_K _ _ _ _))
  case lastore => exact lin_pL fun _ _ => lin_pI fun _ _ => lin_pA fun _ _ => lin_and (lin_and (lin_K _ _ _ _))
  case baload => exact lin_pI fun _ _ => lin_pA fun _ _ => lin_and (lin_and (lin_K _ _ _ _))
  case bastore => exact lin_pI fun _ _ => lin_pI fun _ _ => lin_pA fun _ _ => lin_and (lin_and (lin_and (lin_K _ _ _ _)))
  case aaload => exact lin_pI fun _ _ => lin_pA fun _ _ => lin_and (lin_and (lin_K _ _ _ _))
  case aastore => exact lin_pQ (F := fun v st K KC KR => pI st fun i st => pA st fun a st => ah_k h a = 23 ∧ vp_in i (ah_z h a) ∧ (∀ q, v = some q → ah_k h q = 8) ∧ K (ip + 1) ls st (ap_r h a i.toNatClampNeg v)) fun _ _ => lin_pI fun _ _ => lin_pA fun _ _ => lin_and (lin_and (lin_and (lin_K _ _ _ _)))
  case arraylength =>
    refine lin_pV fun v r => ?_
    split
    · exact lin_and (lin_and (lin_K _ _ _ _))
    · exact lin_K _ _ _ _
    · exact lin_F
  case newarray t => exact lin_pI fun _ _ => lin_and (lin_and (lin_and (lin_K _ _ _ _)))
  case anewarray t => exact lin_pI fun _ _ => lin_and (lin_and (lin_K _ _ _ _))
  case new c => exact lin_K _ _ _ _
  case invokestatic mi => exact lin_popA (fun _ _ => lin_and (lin_C _ _ _)) _ _ _
  case invokespecial mi => exact lin_popA (fun _ _ => lin_pA fun _ _ => lin_and (lin_C _ _ _)) _ _ _
  case invokevirtual mi => exact lin_popA (fun _ _ => lin_pA fun _ _ => lin_and (lin_and (lin_C _ _ _))) _ _ _
  all_goals exact lin_F
theorem stp_mono {i : Instr} {ip : Nat} {ls st : List Value} {h : AH} {K K2 : TK} {KC KC2 : TKC} {KR KR2 : TKR}
    (hK : ∀ ip ls st h, K ip ls st h → K2 ip ls st h) (hC : ∀ mi as rest, KC mi as rest → KC2 mi as rest) (hR : ∀ r h, KR r h → KR2 r h)
    (H : stp nA mC fty nfl sc i ip ls st h K KC KR) : stp nA mC fty nfl sc i ip ls st h K2 KC2 KR2 := by
  rcases stp_lin (nA := nA) (mC := mC) (fty := fty) (nfl := nfl) (sc := sc) i ip ls st h with ⟨a, b, c, d, g⟩ | ⟨a, b, c, g⟩ | ⟨a, b, g⟩ | g
  · exact (g _ _ _).mpr (hK _ _ _ _ ((g _ _ _).mp H))
  · exact (g _ _ _).mpr (hC _ _ _ ((g _ _ _).mp H))
  · exact (g _ _ _).mpr (hR _ _ ((g _ _ _).mp H))
  · exact (g _ _ _ H).elim
variable {mT : Nat → Bool} {cd : Nat → Option Instr} {hd : Nat → Nat → Option (Nat × Nat)} {C C2 : Nat → List Value → AH → Rs → AH → Prop}
theorem SR_mono (hC : ∀ mi as h r h', C mi as h r h' → C2 mi as h r h') : ∀ (n : Nat) (ip : Nat) (ls st : List Value) (h : AH) (r : Rs) (h' : AH), SR nA mC fty nfl sc mT cd hd C n ip ls st h r h' → SR nA mC fty nfl sc mT cd hd C2 n ip ls st h r h'
  | 0, _, _, _, _, _, _, H => H.elim
  | n + 1, ip, ls, st, h, r, h', H => by
    obtain ⟨i, hi, H⟩ := H
    refine ⟨i, hi, stp_mono (fun ip ls st h q => SR_mono hC n _ _ _ _ _ _ q) ?_ (fun _ _ q => q) H⟩
    rintro mi as rest ⟨r1, h1, c1, q⟩
    refine ⟨r1, h1, hC _ _ _ _ _ c1, ?_⟩
    cases r1 with
    | inl v => exact SR_mono hC n _ _ _ _ _ _ q
    | inr E =>
      dsimp only at q ⊢
      refine ⟨q.1, ?_⟩
      have q := q.2
      split at q
      · exact ⟨q.1, SR_mono hC n _ _ _ _ _ _ q.2⟩
      · exact q
theorem SR_det (hC : ∀ mi as h r h' r2 h2, C mi as h r h' → C mi as h r2 h2 → r = r2 ∧ h' = h2) : ∀ (n n2 : Nat) (ip : Nat) (ls st : List Value) (h : AH) (r : Rs) (h' : AH) (r2 : Rs) (h2 : AH), SR nA mC fty nfl sc mT cd hd C n ip ls st h r h' → SR nA mC fty nfl sc mT cd hd C n2 ip ls st h r2 h2 → r = r2 ∧ h' = h2
  | 0, _, _, _, _, _, _, _, _, _, H, _ => H.elim
  | _ + 1, 0, _, _, _, _, _, _, _, _, _, H => H.elim
  | n + 1, n2 + 1, ip, ls, st, h, r, h', r2, h2, H, G => by
    obtain ⟨i, hi, H⟩ := H
    obtain ⟨i2, hi2, G⟩ := G
    cases hi.symm.trans hi2
    rcases stp_lin (nA := nA) (mC := mC) (fty := fty) (nfl := nfl) (sc := sc) i ip ls st h with ⟨a, b, c, d, g⟩ | ⟨a, b, c, g⟩ | ⟨a, b, g⟩ | g
    · exact SR_det hC n n2 _ _ _ _ _ _ _ _ ((g _ _ _).mp H) ((g _ _ _).mp G)
    · obtain ⟨r1, h1, c1, q⟩ := (g _ _ _).mp H
      obtain ⟨r3, h3, c3, q3⟩ := (g _ _ _).mp G
      obtain ⟨rfl, rfl⟩ := hC _ _ _ _ _ _ _ c1 c3
      cases r1 with
      | inl v => exact SR_det hC n n2 _ _ _ _ _ _ _ _ q q3
      | inr E =>
        dsimp only at q q3
        have q := q.2
        have q3 := q3.2
        split at q
        · next t k e =>
          rw [e] at q3
          exact SR_det hC n n2 _ _ _ _ _ _ _ _ q.2 q3.2
        · next e =>
          rw [e] at q3
          exact ⟨q.1.trans q3.1.symm, q.2.trans q3.2.symm⟩
    · obtain ⟨rfl, rfl⟩ := (g _ _ _).mp H
      obtain ⟨rfl, rfl⟩ := (g _ _ _).mp G
      exact ⟨rfl, rfl⟩
    · exact (g _ _ _ H).elim
variable {mL : Nat → Nat} {cdo : Nat → Nat → Option Instr} {hdo : Nat → Nat → Nat → Option (Nat × Nat)}
theorem Rn_det : ∀ (d mi : Nat) (as : List Value) (h : AH) (r : Rs) (h' : AH) (r2 : Rs) (h2 : AH), Rn nA mC fty nfl sc mT mL cdo hdo d mi as h r h' → Rn nA mC fty nfl sc mT mL cdo hdo d mi as h r2 h2 → r = r2 ∧ h' = h2
  | 0, _, _, _, _, _, _, _, H, _ => H.elim
  | d + 1, _, _, _, _, _, _, _, H, G => by
    obtain ⟨-, n, H⟩ := H
    obtain ⟨-, n2, G⟩ := G
    exact SR_det (fun mi as h r h' r2 h2 a b => Rn_det d mi as h r h' r2 h2 a b) _ _ _ _ _ _ _ _ _ _ H G
theorem Rn_up : ∀ (d mi : Nat) (as : List Value) (h : AH) (r : Rs) (h' : AH), Rn nA mC fty nfl sc mT mL cdo hdo d mi as h r h' → Rn nA mC fty nfl sc mT mL cdo hdo (d + 1) mi as h r h'
  | 0, _, _, _, _, _, H => H.elim
  | d + 1, _, _, _, _, _, ⟨z, n, H⟩ => ⟨z, n, SR_mono (fun _ _ _ _ _ q => Rn_up d _ _ _ _ _ q) n _ _ _ _ _ _ H⟩
end LINS
