/-! the code tables agree with the bytes, the links with the words of the tables -/
def ipOf : List Nat → Nat → Option Nat
  | [], _ => none
  | a :: l, x => if a = x then some 0 else (ipOf l x).map (· + 1)
theorem ipOf_get : ∀ (l : List Nat) (x i : Nat), ipOf l x = some i → l[i]? = some x
  | [], _, _, h => by cases h
  | a :: l, x, i, h => by
    unfold ipOf at h
    split at h
    · cases h
      simp [*]
    · cases hj : ipOf l x with
      | none => rw [hj] at h; cases h
      | some j =>
        rw [hj] at h
        cases h
        simpa using ipOf_get l x j hj
/-- a jump's goal, by place -/
def jto (P : List Nat) (pc : Nat) (off : Int) : Option Int := if (((pc : Int) + off).toNat : Int) = (pc : Int) + off then (ipOf P ((pc : Int) + off).toNat).map (fun t => (t : Int)) else none
def jtos (P : List Nat) (pc : Nat) : List Int → Option (List Int)
  | [] => some []
  | a :: l => match jto P pc a, jtos P pc l with
    | some t, some r => some (t :: r)
    | _, _ => none
def flW (e : Nat × Nat × Nat × Nat × Bool × Nat) : Jvm.Cond := match e with
  | (o, i, c, k, false, _) => .fieldLink (cnm o) i (cTb c k).1 (cTb c k).2.1 (cTb c k).2.2.1
  | (o, i, c, k, true, _) => .fieldLinkNest (cnm o) i (cTb c k).1 (cTb c k).2.1 (cTb c k).2.2.1 "StableFoundry"
def ffl (o i : Nat) : Option (Nat × Nat × Nat × Nat × Bool × Nat) := FLK.find? fun e => e.1 == o && e.2.1 == i
def fcl (o i : Nat) : Option (Nat × Nat × Nat × Nat × Nat) := CLK.find? fun e => e.1 == o && e.2.1 == i
def fnl (o i : Nat) : Option (Nat × Nat × Nat × Nat) := NLK.find? fun e => e.1 == o && e.2.1 == i
def fll (o i : Nat) : Option (Nat × Nat × Int × Nat) := LLK.find? fun e => e.1 == o && e.2.1 == i
def fil (o i : Nat) : Option (Nat × Nat × Int × Nat) := ILK.find? fun e => e.1 == o && e.2.1 == i
def fol (o i : Nat) : Option (Nat × Nat × Nat) := OLK.find? fun e => e.1 == o && e.2.1 == i
def MAXN : Nat := 281
def MINN : Nat := 282
/-- an instruction with its links resolved: owner o, zr: the method returns a boolean, P: the places' counters -/
def absI (o : Nat) (zr ini : Bool) (P : List Nat) (pc : Nat) (ci : Instr) : Option Instr := match ci with
  | .iload k => some (.iload k)
  | .iload_n k => some (.iload k.val)
  | .aload k => some (.aload k)
  | .aload_n k => some (.aload k.val)
  | .lload k => some (.lload k)
  | .lload_n k => some (.lload k.val)
  | .istore k => some (.istore k)
  | .istore_n k => some (.istore k.val)
  | .astore k => some (.astore k)
  | .astore_n k => some (.astore k.val)
  | .lstore k => some (.lstore k)
  | .lstore_n k => some (.lstore k.val)
  | .iconst n => some (.iconst n)
  | .bipush n => if (Int8.ofInt n).toInt32 = Int32.ofInt n then some (.iconst n) else none
  | .sipush n => if (Int16.ofInt n).toInt32 = Int32.ofInt n then some (.iconst n) else none
  | .lconst n => if Int64.ofNat (n : Nat) = Int64.ofInt ((n : Nat) : Int) then some (.sipush ((n : Nat) : Int)) else none
  | .ldc i => (fil o i).map fun e => .iconst e.2.2.1
  | .ldc_w i => (fil o i).map fun e => .iconst e.2.2.1
  | .ldc2_w i => (fll o i).map fun e => .sipush e.2.2.1
  | .aconst_null => some .aconst_null
  | .iadd => some .iadd
  | .isub => some .isub
  | .imul => some .imul
  | .iand => some .iand
  | .ior => some .ior
  | .ixor => some .ixor
  | .idiv => some .idiv
  | .irem => some .irem
  | .ishl => some .ishl
  | .ishr => some .ishr
  | .iushr => some .iushr
  | .ladd => some .ladd
  | .lsub => some .lsub
  | .land => some .land
  | .lor => some .lor
  | .lxor => some .lxor
  | .lneg => some .lneg
  | .lshl => some .lshl
  | .lshr => some .lshr
  | .lushr => some .lushr
  | .i2l => some .i2l
  | .l2i => some .l2i
  | .lcmp => some .lcmp
  | .dup => some .dup
  | .pop => some .pop
  | .dup2 => some .dup2
  | .ifCond c off => (jto P pc off).map (.ifCond c)
  | .if_icmp c off => (jto P pc off).map (.if_icmp c)
  | .ifnull off => (jto P pc off).map .ifnull
  | .goto off => (jto P pc off).map .goto
  | .iinc k n => some (.iinc k n)
  | .tableswitch d lo hi os => match jto P pc d, jtos P pc os.toList with
    | some t, some r => some (.tableswitch t lo hi r.toArray)
    | _, _ => none
  | .ireturn => some (if zr then .freturn else .ireturn)
  | .lreturn => some .lreturn
  | .areturn => some .areturn
  | .return_ => some .return_
  | .getfield i => (ffl o i).map fun e => .getfield (e.2.2.1 * 100 + e.2.2.2.1)
  | .putfield i => match ffl o i with
    | some e => if (cTb e.2.2.1 e.2.2.2.1).2.2.2 = true → (ini = true ∧ e.2.2.1 = o ∧ e.2.2.2.2.1 = false) then some (.putfield (e.2.2.1 * 100 + e.2.2.2.1)) else none
    | none => none
  | .iaload => some .iaload
  | .iastore => some .iastore
  | .laload => some .laload
  | .lastore => some .lastore
  | .baload => some .baload
  | .bastore => some .bastore
  | .aaload => some .aaload
  | .aastore => some .aastore
  | .arraylength => some .arraylength
  | .newarray t => match t with
    | .int => some (.newarray .int)
    | .long => some (.newarray .long)
    | _ => none
  | .anewarray i => match fnl o i with
    | some e => if e.2.2.1 = 8 then some (.anewarray 0) else none
    | none => none
  | .new i => (fnl o i).map fun e => .new e.2.2.1
  | .invokevirtual i => match fcl o i with
    | some e => if e.2.2.2.1 = 0 then some (.invokevirtual e.2.2.1) else none
    | none => none
  | .invokestatic i => match fcl o i with
    | some e => if e.2.2.1 = MAXN then some .i2c else if e.2.2.1 = MINN then some .i2s else if e.2.2.2.1 = 1 ∨ e.2.2.2.1 = 3 then some (.invokestatic e.2.2.1) else none
    | none => none
  | .invokespecial i => match fol o i with
    | some _ => some .monitorenter
    | none => match fcl o i with
      | some e => if e.2.2.2.1 = 2 ∨ e.2.2.2.1 = 4 then some (.invokespecial e.2.2.1) else none
      | none => none
  | _ => none
/-- throw new E("text") from pc on; the text's index -/
def thrT (b : ByteArray) (pc o E : Nat) : Option (Nat × String × Bool) :=
  if o = 11 ∧ E < 3 ∧ decode b pc = .ok (.new (xik E), 3) ∧ decode b (pc + 3) = .ok (.dup, 1) then
    match decode b (pc + 4) with
    | .ok (.ldc i, 2) => if decode b (pc + 6) = .ok (.invokespecial (xic E), 3) ∧ decode b (pc + 9) = .ok (.athrow, 1) then (STK.find? fun e => e.1 == i).map fun e => (i, e.2, false) else none
    | .ok (.ldc_w i, 3) => if decode b (pc + 7) = .ok (.invokespecial (xic E), 3) ∧ decode b (pc + 10) = .ok (.athrow, 1) then (STK.find? fun e => e.1 == i).map fun e => (i, e.2, true) else none
    | _ => none
  else none
def isEnd (i : Instr) : Bool := match i with
  | .ireturn => true
  | .lreturn => true
  | .areturn => true
  | .return_ => true
  | .goto _ => true
  | .tableswitch .. => true
  | _ => false
/-- how long an instruction is -/
def lenI (i : Instr) : Nat := match i with
  | .iload _ => 2
  | .aload _ => 2
  | .lload _ => 2
  | .istore _ => 2
  | .astore _ => 2
  | .lstore _ => 2
  | .bipush _ => 2
  | .ldc _ => 2
  | .newarray _ => 2
  | .sipush _ => 3
  | .ldc_w _ => 3
  | .ldc2_w _ => 3
  | .ifCond .. => 3
  | .if_icmp .. => 3
  | .ifnull _ => 3
  | .goto _ => 3
  | .iinc .. => 3
  | .getfield _ => 3
  | .putfield _ => 3
  | .anewarray _ => 3
  | .new _ => 3
  | .invokevirtual _ => 3
  | .invokestatic _ => 3
  | .invokespecial _ => 3
  | _ => 1
def okLen (i : Instr) (len : Nat) : Bool := match i with
  | .tableswitch .. => true
  | _ => decide (len = lenI i)
def chk1 (o : Nat) (zr ini : Bool) (b : ByteArray) (P : List Nat) (pc : Nat) (a : Instr) (nx : Option Nat) : Bool := match a with
  | .nop => true
  | .ldc E => (thrT b pc o E).isSome
  | _ => match decode b pc with
    | .ok (ci, len) => decide (absI o zr ini P pc ci = some a) && okLen ci len && (isEnd ci || decide (nx = some (pc + len)))
    | .error _ => false
def chkA (o : Nat) (zr ini : Bool) (b : ByteArray) (P : List Nat) : List Nat → List Instr → Bool
  | pc :: ps, a :: as => chk1 o zr ini b P pc a ps.head? && chkA o zr ini b P ps as
  | [], [] => true
  | _, _ => false
theorem chkA_get {o : Nat} {zr ini : Bool} {b : ByteArray} {P : List Nat} : ∀ (ps : List Nat) (as : List Instr), chkA o zr ini b P ps as = true → ∀ (ip : Nat) (a : Instr), as[ip]? = some a → ∃ pc, ps[ip]? = some pc ∧ chk1 o zr ini b P pc a ps[ip + 1]? = true
  | [], [], _, ip, a, h => by cases h
  | [], _ :: _, h, _, _, _ => by cases h
  | _ :: _, [], h, _, _, _ => by cases h
  | pc :: ps, x :: as, h, ip, a, ha => by
    simp only [chkA, Bool.and_eq_true] at h
    cases ip with
    | zero =>
      cases ha
      refine ⟨pc, rfl, ?_⟩
      have h1 := h.1
      rwa [List.head?_eq_getElem?] at h1
    | succ j =>
      obtain ⟨pc', h1, h2⟩ := chkA_get ps as h.2 j a (by simpa using ha)
      exact ⟨pc', by simpa using h1, by simpa using h2⟩
def isZr (r : Option FieldType) : Bool := match r with
  | some .boolean => true
  | _ => false
/-- a word that holds in every later state, whatever the arguments -/
def kwB (w : Jvm.Cond) : Bool := goodWord w || (w.onTables && (w.keepsFace || (match w with
  | .fieldLinkNest .. => true
  | .methodLinkNest .. => true
  | _ => false)))
def inT (p : Nat) (w : Jvm.Cond) : Bool := decide (lw_tbl[p]? = some w) && kwB w
theorem inT_mem {p : Nat} {w : Jvm.Cond} (h : inT p w = true) : w ∈ lw_tbl ∧ kwB w = true := by
  simp only [inT, Bool.and_eq_true, decide_eq_true_eq] at h
  exact ⟨List.mem_of_getElem? h.1, h.2⟩
/-- the law's own number -/
def LAWN : Nat := 277
def mSt : List Bool := [false, false, false, false, false, false, false, false, false, false, false, false, false, false, false, false, true, false, false, true, false, false, false, false, false, false, false, false, false, false, false, true, false, false, false, false, true, true, true, false, true, true, false, false, false, false, false, false, false, true, false, false, true, false, false, true, true, true, true, true, true, true, true, true, true, true, true, true, true, true, true, true, true, true, true, true, true, true, true, true, true, true, true, true, true, true, true, true, true, true, true, true, true, true, true, true, true, true, true, true, true, true, true, true, true, true, true, true, true, true, true, true, true, true, true, true, true, true, true, true, true, true, true, true, true, true, true, true, true, true, true, true, true, true, true, true, true, true, true, true, true, true, true, true, true, true, true, true, true, true, false, false, false, false, false, false, false, false, false, true, true, true, true, true, true, true, true, true, true, false, true, false, false, false, false, false, false, false, false, false, false, false, false, false, false, false, false, false, false, false, false, false, false, false, false, false, false, false, false, false, false, false, false, false, false, false, false, false, false, false, false, false, false, false, false, false, false, false, false, false, false, false, false, false, false, false, true, false, false, false, false, false, false, false, false, false, false, false, false, false, false, false, false, true, false, false, false, false, false, false, true, true, true, true, true, true, true, true, true, true, true, true, true, true, true, true, true, true, true, true, true, true, true, true, true, true, true, true, true, true, true, true, true]
/-- may throw -/
def mTl : List Bool := [false, true, true, true, true, true, true, true, true, true, true, false, true, true, true, true, false, false, false, false, false, false, true, true, true, true, true, true, false, false, true, false, true, true, true, true, false, false, true, true, true, true, true, true, true, false, false, false, false, false, false, false, false, false, false, false, false, false, false, false, false, false, false, false, false, false, false, false, false, false, false, false, false, false, false, false, false, false, false, false, false, false, false, false, false, false, false, false, false, false, false, false, false, false, false, false, false, false, false, false, false, false, false, false, false, false, false, false, false, false, false, false, false, false, false, false, false, false, false, false, false, false, false, false, false, false, false, false, false, false, false, false, false, false, false, false, false, false, false, false, false, false, false, false, false, false, false, false, false, false, false, false, false, false, false, false, false, false, false, false, false, false, false, false, false, false, false, false, false, false, false, false, false, false, false, false, false, false, false, false, false, false, false, false, false, false, false, false, false, false, false, false, false, false, false, false, false, false, false, false, false, false, false, false, false, false, false, false, false, false, false, false, false, false, false, false, false, false, false, false, false, false, false, false, false, false, false, false, false, false, false, false, false, false, false, false, false, false, false, false, false, false, false, false, false, false, false, false, false, false, false, false, false, false, false, false, false, false, false, false, false, false, false, false, false, false, false, false, false, false, false, false, false, false, false, false, false, false, false, false, false, false, false]
set_option maxRecDepth 100000 in
theorem flk_ok : FLK.all (fun e => inT e.2.2.2.2.2 (flW e) && decide (e.2.2.1 < 12) && decide (e.2.2.2.1 < nfl e.2.2.1) && decide (e.2.2.2.1 < 100) && decide (parseFieldDescriptor (cTb e.2.2.1 e.2.2.2.1).2.2.1 = some (cTy e.2.2.1 e.2.2.2.1)) && decide ((cTb e.2.2.1 e.2.2.2.1).1 = cnm e.2.2.1)) = true := by decide +kernel
def clW (e : Nat × Nat × Nat × Nat × Nat) : Jvm.Cond := if e.2.2.2.1 ≤ 2 then .methodLink (cnm e.1) e.2.1 (mrow e.2.2.1).1 else .methodLinkNest (cnm e.1) e.2.1 (mrow e.2.2.1).1 "StableFoundry"
set_option maxRecDepth 100000 in
theorem clk_ok : CLK.all (fun e => inT e.2.2.2.2 (clW e) && decide (e.2.2.1 < MTB.length) && decide (e.2.2.1 ≠ LAWN)) = true := by decide +kernel
set_option maxRecDepth 100000 in
theorem nlk_ok : NLK.all (fun e => inT e.2.2.2 (.classLink (cnm e.1) e.2.1 (cnm e.2.2.1)) && decide (e.2.2.1 < 12)) = true := by decide +kernel
set_option maxRecDepth 100000 in
theorem llk_ok : LLK.all (fun e => inT e.2.2.2 (.constantLong (cnm e.1) e.2.1 (Int64.ofInt e.2.2.1))) = true := by decide +kernel
set_option maxRecDepth 100000 in
theorem ilk_ok : ILK.all (fun e => inT e.2.2.2 (.constant (cnm e.1) e.2.1 (Int32.ofInt e.2.2.1))) = true := by decide +kernel
set_option maxRecDepth 100000 in
theorem olk_ok : OLK.all (fun e => inT e.2.2 (.methodLink (cnm e.1) e.2.1 Lib.objectInit)) = true := by decide +kernel
/-- a method's own words: its class is initialised, its code, that it is static or not, that it selects itself -/
def mwK (r : MRow) (st : Bool) (w : Nat × Nat × Nat × Nat) : Bool :=
  inT w.1 (.initialized r.1.cls) && inT w.2.1 (if r.2.2.2.2.1 = [] then .code r.1 r.2.1 r.2.2.1 r.2.2.2.1 else .codeWith r.1 r.2.1 r.2.2.1 r.2.2.2.1 r.2.2.2.2.1)
  && decide (r.1.cls = cnm r.2.2.2.2.2.1) && plainName r.1.cls && decide ((parseMethodDescriptor r.1.desc).map (fun d => d.parameters.length) = some (if st then r.2.2.2.2.2.2 else r.2.2.2.2.2.2 - 1))
  && (if st then inT w.2.2.1 (.static r.1) else inT w.2.2.1 (.instanceMethod r.1) && decide (0 < r.2.2.2.2.2.2) && (if r.1.name = "<init>" then true else inT w.2.2.2 (.selects r.1.cls r.1 r.1)))
  && decide (r.1.cls ≠ "java/lang/invoke/MethodHandle") && decide (r.1.cls ≠ "java/lang/invoke/VarHandle")
set_option maxRecDepth 100000 in
theorem math_ok : (mrow MAXN).1 = Lib.Math.max.name ∧ (mrow MINN).1 = Lib.Math.min.name ∧ inT (MWP.getD MAXN (0, 0, 0, 0)).1 (.initialized "java/lang/Math") = true ∧ inT (MWP.getD MAXN (0, 0, 0, 0)).2.2.1 (.static Lib.Math.max.name) = true ∧ inT (MWP.getD MINN (0, 0, 0, 0)).2.2.1 (.static Lib.Math.min.name) = true
  ∧ inT (MWP.getD MAXN (0, 0, 0, 0)).2.1 (.code Lib.Math.max.name Lib.Math.max.code 2 (some .int)) = true ∧ inT (MWP.getD MINN (0, 0, 0, 0)).2.1 (.code Lib.Math.min.name Lib.Math.min.code 2 (some .int)) = true := by decide +kernel
/-- the words of a throw of each of the three exceptions, in the class 11 -/
def xwords (E : Nat) : List Jvm.Cond := .classLink RX11 (xik E) (xnm E) :: .initialized (xnm E) :: vx_atS RX11 (xic E) (xnm E) ["java/lang/RuntimeException", "java/lang/Exception"]
set_option maxRecDepth 100000 in
theorem xw_ok : ∀ E, E < 3 → (xwords E).all (fun w => decide (w ∈ lw_tbl) && kwB w && vx_ot w) = true := by decide +kernel
set_option maxRecDepth 100000 in
theorem xcast_ok : ∀ E, E < 3 → decide (Jvm.Cond.castable (xnm E) (xnm E) ∈ lw_tbl) && kwB (.castable (xnm E) (xnm E)) && Bundle.fit (xnm E) = true := by decide +kernel
theorem xfit_ok : ∀ n ∈ ["java/lang/RuntimeException", "java/lang/Exception"], Bundle.fit n = true := by decide +kernel
set_option maxRecDepth 100000 in
theorem cls_ok : ∀ c, c < 12 → ((u_ws (cnm c) (cTb c) (nfl c)).all (fun w => decide (w ∈ lw_tbl) && kwB w && goodWord w) && decide (Jvm.Cond.instantiable (cnm c) (nfl c) ∈ lw_tbl) && kwB (.instantiable (cnm c) (nfl c)) && decide (Jvm.Cond.initialized (cnm c) ∈ lw_tbl)) = true := by decide +kernel
theorem arr_ok : decide (Jvm.Cond.arrayClass .int ∈ lw_tbl) && decide (Jvm.Cond.arrayClass .long ∈ lw_tbl) && decide (Jvm.Cond.arrayOver (.object RX8) ∈ lw_tbl) = true := by decide +kernel
theorem obj_ok : decide (Jvm.Cond.instanceMethod Lib.objectInit ∈ lw_tbl) && decide (Jvm.Cond.code Lib.objectInit ⟨#[0xb1]⟩ 1 none ∈ lw_tbl) && kwB (.instanceMethod Lib.objectInit) && kwB (.code Lib.objectInit ⟨#[0xb1]⟩ 1 none) = true := by decide +kernel
theorem cls_nm : ∀ c, c < 12 → ∀ a, a < nfl c → ∀ b, b < nfl c → a ≠ b → (cTb c a).2.1 ≠ (cTb c b).2.1 := by decide +kernel
theorem cls_ty : ∀ c, c < 12 → ∀ k, k < nfl c → parseFieldDescriptor (cTb c k).2.2.1 = some (cTy c k) ∧ (cTb c k).1 = cnm c := by decide +kernel
/-- the fields' signs are their types' -/
def tyS (t : FieldType) : Nat := match t with
  | .int => 0
  | .boolean => 3
  | .long => 1
  | _ => 2
theorem cls_fty : ∀ c, c < 12 → ∀ k, k < nfl c → fty c k = tyS (cTy c k) ∧ (cTy c k = .int ∨ cTy c k = .boolean ∨ cTy c k = .long ∨ (∃ n, cTy c k = .object n) ∨ ∃ t, cTy c k = .array t) := by
  intro c hc k hk
  refine ⟨by revert c k; decide +kernel, ?_⟩
  have h : ∀ c, c < 12 → ∀ k, k < nfl c → (match cTy c k with | .int => true | .boolean => true | .long => true | .object _ => true | .array _ => true | _ => false) = true := by decide +kernel
  have h1 := h c hc k hk
  split at h1 <;> simp_all
theorem mL_ok : mLl.all (fun n => decide (n ≤ 40)) = true := by decide +kernel
def cdL (mi : Nat) : List Instr := CCL.getD mi []
def ppo (mi : Nat) : List Nat := PPL.getD mi []
def cdo (mi ip : Nat) : Option Instr := (cdL mi)[ip]?
def mT (mi : Nat) : Bool := mTl.getD mi false
set_option maxRecDepth 100000 in
theorem mT_ok : CLK.all (fun e => !mT e.2.2.1 || (decide (e.2.2.2.1 ≤ 1) && decide ((mrow e.2.2.1).2.2.2.2.1 = []))) = true := by decide +kernel
/-- what a handler catches: the class of the law's constant -/
def xct (ct : Nat) : Nat := match ct with
  | 17 => 0
  | 19 => 1
  | 14 => 2
  | _ => 9
set_option maxRecDepth 100000 in
theorem xct_ok : ∀ ct, ct ∈ [17, 19, 14] → decide (Jvm.Cond.classLink RL ct (xnm (xct ct)) ∈ lw_tbl) && kwB (.classLink RL ct (xnm (xct ct))) = true := by decide +kernel
def hsel : List (Nat × Nat × Nat × Nat) → Nat → Nat → Option Nat
  | [], _, _ => none
  | q :: r, pc, E => if q.1 ≤ pc ∧ pc < q.2.1 then (if xct q.2.2.2 = E then some q.2.2.1 else hsel r pc E) else hsel r pc E
def hdF (b : ByteArray) (P : List Nat) (hh : List (Nat × Nat × Nat × Nat)) (pc E : Nat) : Option (Nat × Nat) := match hsel hh pc E with
  | none => none
  | some hp => match decode b hp with
    | .ok (.astore k, len) => if len = 2 then ((ipOf P (hp + 2)).map fun t => (t, k)).or (some (99999, 0)) else some (99999, 0)
    | .ok (.astore_n k, len) => if len = 1 then ((ipOf P (hp + 1)).map fun t => (t, k.val)).or (some (99999, 0)) else some (99999, 0)
    | _ => some (99999, 0)
def hdo (mi ip E : Nat) : Option (Nat × Nat) := match (ppo mi)[ip]? with
  | some pc => hdF (mrow mi).2.1 (ppo mi) (mrow mi).2.2.2.2.1 pc E
  | none => none
set_option maxRecDepth 100000 in
theorem hh_ok : MTB.all (fun r => r.2.2.2.2.1.all fun q => decide (q.2.2.2 ∈ [17, 19, 14])) = true := by decide +kernel
theorem vwCl_at : ∀ c, c < 12 → vwCl[c]? = some (cnm c, cTb c, nfl c)
  | 0, _ => rfl
  | 1, _ => rfl
  | 2, _ => rfl
  | 3, _ => rfl
  | 4, _ => rfl
  | 5, _ => rfl
  | 6, _ => rfl
  | 7, _ => rfl
  | 8, _ => rfl
  | 9, _ => rfl
  | 10, _ => rfl
  | 11, _ => rfl
  | n + 12, h => absurd h (by omega)
theorem jto_spec {P : List Nat} {pc : Nat} {off t : Int} (h : jto P pc off = some t) : ∃ i x : Nat, t = (i : Int) ∧ (pc : Int) + off = (x : Int) ∧ P[i]? = some x := by
  unfold jto at h
  split at h
  · next h1 =>
    cases hi : ipOf P ((pc : Int) + off).toNat with
    | none => rw [hi] at h; cases h
    | some i =>
      rw [hi] at h
      cases h
      exact ⟨i, _, rfl, h1.symm, ipOf_get _ _ _ hi⟩
  · cases h
theorem jtos_spec {P : List Nat} {pc : Nat} : ∀ (l : List Int) (r : List Int), jtos P pc l = some r → ∀ (k : Nat) (t : Int), r[k]? = some t → ∃ off, l[k]? = some off ∧ jto P pc off = some t
  | [], r, h, k, t, hk => by
    cases h
    cases hk
  | a :: l, r, h, k, t, hk => by
    unfold jtos at h
    split at h
    · next t0 r0 h1 h2 =>
      cases h
      cases k with
      | zero =>
        cases hk
        exact ⟨a, rfl, h1⟩
      | succ j =>
        obtain ⟨off, q1, q2⟩ := jtos_spec l r0 h2 j t (by simpa using hk)
        exact ⟨off, by simpa using q1, q2⟩
    · cases h
