/-! CALLS, RETURNS, THROWS: methods by their numbers -/
set_option maxRecDepth 100000 in
theorem clk2_ok : CLK.all (fun e => (decide (e.2.2.2.1 = 1) || decide (e.2.2.1 < 281)) && (decide (e.2.2.2.1 ≠ 0) || decide (mC e.2.2.1 < 12)) && decide (e.2.2.2.1 ≤ 4) && (if e.2.2.2.1 = 1 ∨ e.2.2.2.1 = 3 then mSt.getD e.2.2.1 false else !(mSt.getD e.2.2.1 false)) && (decide (e.2.2.2.1 = 0) == decide ((mrow e.2.2.1).1.name ≠ "<init>" ∧ mSt.getD e.2.2.1 false = false)) && (decide (e.2.2.2.1 = 1) || decide ((mrow e.2.2.1).2.2.2.2.1 = [])) && (decide (e.2.2.2.1 ≠ 2 ∧ e.2.2.2.1 ≠ 4) || decide ((mrow e.2.2.1).2.2.2.1 = none))) = true := by decide +kernel
/-- the handler that catches E at pc, behind its store; (99999, 0): none that fits, though one stands there -/
def hdX (mi ip E : Nat) : Option (Nat × Nat) := match (ppo mi)[ip]? with
  | some pc => if (mrow mi).2.2.2.2.1.all (fun q => !(decide (q.1 ≤ pc) && decide (pc < q.2.1))) then none else some ((hdF (mrow mi).2.1 (ppo mi) (mrow mi).2.2.2.2.1 pc E).getD (99999, 0))
  | none => some (99999, 0)
def cwrd (mi : Nat) : Jvm.Cond := if (mrow mi).2.2.2.2.1 = [] then .code (mrow mi).1 (mrow mi).2.1 (mrow mi).2.2.1 (mrow mi).2.2.2.1 else .codeWith (mrow mi).1 (mrow mi).2.1 (mrow mi).2.2.1 (mrow mi).2.2.2.1 (mrow mi).2.2.2.2.1
def rmD (d mc ms : Nat) : Room := { frames := d + 6, cells := mc, slots := ms, locals := 100 + 60 * d }
section CALLS
variable {p : Program} {l : Launch} {e : Env} {R : Room} {s : State} {m : MethodId} {args : Array Value} {below : List Frame} {meth : Method} {c : Code} {Q : State → Prop} {cc : ByteArray}
variable {D : va_G} {base b : Nat} {sc : (Nat → Int32) × Nat} {nL n0 u0 : Nat}
def QRet (D : va_G) (base b : Nat) (sc : (Nat → Int32) × Nat) (v : Option Value) (h1 : AH) : Array Value → State → Outcome → State → Prop := fun _ st oc t => oc = .returned (v.map (cvv base b)) ∧ HV D base b sc t t.heap h1 ∧ va_F (fun q => base ≤ q) st t
def XRet (D : va_G) (base b : Nat) (sc : (Nat → Int32) × Nat) (E : Nat) (h1 : AH) : String → State → State → Prop := fun nm st t => nm = xnm E ∧ HV D base b sc t t.heap h1 ∧ va_F (fun q => base ≤ q) st t
def PcA (D : va_G) (base b : Nat) (sc : (Nat → Int32) × Nat) (as : List Value) (h : AH) : Array Value → State → Prop := fun a U => a = (as.map (cvv base b)).toArray ∧ EV D U ∧ HV D base b sc U U.heap h
/-- a run of a method is the JVM's -/
def MET (l : Launch) (D : va_G) (base b : Nat) (sc : (Nat → Int32) × Nat) (d mi : Nat) (as : List Value) (h : AH) (r : Rs) (h1 : AH) : Prop := ah_n h ≤ ah_n h1 ∧ ah_u h ≤ ah_u h1 ∧ match r with
  | .inl v => Met l (mrow mi).1 [cwrd mi] (rmD d (ah_n h1 - ah_n h) (ah_u h1 - ah_u h)) (PcA D base b sc as h) (QRet D base b sc v h1) (ah_n h1 - ah_n h) (ah_u h1 - ah_u h) (fun q => base ≤ q)
  | .inr E => vx_Met l (mrow mi).1 [cwrd mi] (rmD d (ah_n h1 - ah_n h) (ah_u h1 - ah_u h)) (PcA D base b sc as h) (fun _ _ _ _ => False) (XRet D base b sc E h1) (ah_n h1 - ah_n h) (ah_u h1 - ah_u h) (fun q => base ≤ q)
theorem PcA_blind {as : List Value} {h : AH} : FrameBlind (PcA D base b sc as h) := fun a U g mk q => ⟨q.1, q.2.1.warm (State.WarmedH.refl U), q.2.2.moved (Vm.Alike.refl U.vm)⟩
theorem popA_inv : ∀ (n : Nat) (acc st : List Value) (F : List Value → List Value → Prop), popA n acc st F → ∃ l rest, l.length = n ∧ st = l.reverse ++ rest ∧ (∀ v ∈ l, knw v = true) ∧ F (l ++ acc) rest
  | 0, acc, st, F, h => ⟨[], st, rfl, rfl, fun _ q => absurd q List.not_mem_nil, h⟩
  | n + 1, acc, [], F, h => h.elim
  | n + 1, acc, v :: r, F, h => by
    obtain ⟨l, rest, h1, h2, hk, h3⟩ := popA_inv n (v :: acc) r F h.2
    refine ⟨l ++ [v], rest, by simp [h1], by simp [h2], fun w hw => (List.mem_append.mp hw).elim (hk w) (fun q => by rw [List.mem_singleton.mp q]; exact h.1), ?_⟩
    rw [List.append_assoc]
    exact h3
theorem clk_at {o i : Nat} {q : Nat × Nat × Nat × Nat × Nat} (h : fcl o i = some q) : q ∈ CLK ∧ q.1 = o ∧ q.2.1 = i ∧ clW q ∈ lw_tbl ∧ kwB (clW q) = true ∧ q.2.2.1 ≠ LAWN := by
  obtain ⟨h1, h2, h3⟩ := find_spec h
  have h4 := List.all_eq_true.mp clk_ok q h1
  simp only [Bool.and_eq_true, decide_eq_true_eq] at h4
  exact ⟨h1, h2, h3, (inT_mem h4.1.1).1, (inT_mem h4.1.1).2, h4.2⟩
/-- what the tables say of a method -/
def MW (mi : Nat) : Prop := ((Jvm.Cond.initialized (mrow mi).1.cls) ∈ lw_tbl ∧ kwB (.initialized (mrow mi).1.cls) = true) ∧ (cwrd mi ∈ lw_tbl ∧ kwB (cwrd mi) = true) ∧ (mrow mi).1.cls = cnm (mC mi) ∧ plainName (mrow mi).1.cls = true ∧ (parseMethodDescriptor (mrow mi).1.desc).map (fun d => d.parameters.length) = some (if mSt.getD mi false = true then nA mi else nA mi - 1)
  ∧ (mSt.getD mi false = true → (Jvm.Cond.static (mrow mi).1) ∈ lw_tbl ∧ kwB (.static (mrow mi).1) = true) ∧ (mSt.getD mi false = false → ((Jvm.Cond.instanceMethod (mrow mi).1) ∈ lw_tbl ∧ kwB (.instanceMethod (mrow mi).1) = true) ∧ 0 < nA mi ∧ ((mrow mi).1.name ≠ "<init>" → (Jvm.Cond.selects (mrow mi).1.cls (mrow mi).1 (mrow mi).1) ∈ lw_tbl ∧ kwB (.selects (mrow mi).1.cls (mrow mi).1 (mrow mi).1) = true))
  ∧ ((mrow mi).1.cls ≠ "java/lang/invoke/MethodHandle" ∧ (mrow mi).1.cls ≠ "java/lang/invoke/VarHandle") ∧ mL mi = (mrow mi).2.2.1 ∧ (ppo mi)[0]? = some 0
  ∧ chkA (mC mi) (isZr (mrow mi).2.2.2.1) (decide ((mrow mi).1.name = "<init>")) (mrow mi).2.1 (ppo mi) (ppo mi) (cdL mi) = true
theorem mw_at {mi : Nat} (h : mi < 281) (hn : mi ≠ LAWN) : MW mi := by
  have hm := mok_at h hn
  unfold mok mwK mcd at hm
  simp only [Bool.and_eq_true, decide_eq_true_eq] at hm
  obtain ⟨⟨⟨⟨⟨⟨⟨⟨h1, h2⟩, h3⟩, h4⟩, h5⟩, h6⟩, h7⟩, h8⟩, ⟨⟨⟨⟨g1, g2⟩, g3⟩, g4⟩, g5⟩⟩ := hm
  unfold MW
  rw [g3, g2, g4]
  refine ⟨inT_mem h1, ?_, h3, h4, h5, fun q => ?_, fun q => ?_, ⟨h7, h8⟩, rfl, ?_, g1⟩
  · unfold cwrd
    exact inT_mem h2
  · rw [if_pos q] at h6
    exact inT_mem h6
  · rw [if_neg (by rw [q]; decide)] at h6
    simp only [Bool.and_eq_true, decide_eq_true_eq] at h6
    obtain ⟨⟨k1, k2⟩, k3⟩ := h6
    refine ⟨inT_mem k1, k2, fun z => ?_⟩
    rw [if_neg z] at k3
    exact inT_mem k3
  · rw [← List.head?_eq_getElem?]
    exact g5
theorem mL_le (mi : Nat) : mL mi ≤ 40 := by
  unfold mL
  rw [List.getD_eq_getElem?_getD]
  cases h : mLl[mi]? with
  | none => exact Nat.zero_le _
  | some n =>
    have := List.all_eq_true.mp mL_ok n (List.mem_of_getElem? h)
    exact of_decide_eq_true this
/-- a call's end, when it returned -/
theorem call_ret {H : Heap} {locs : List Loc} {cells slots mc ms pc : Nat} {lsA : Array Slot} {st0 rest : List Value} {v : Option Value} {h1 : AH} {ca : Array Value} (hr : va_Run p l e R s m args below meth c H locs cells slots mc ms (F0 m pc lsA st0) rest (QRet D base b sc v h1 ca) (fun q => base ≤ q)) (hS : va_S (fun q => base ≤ q) s.heap H locs)
    (kk : ∀ (H1 : Heap) (locs1 : List Loc), HV D base b sc s H1 h1 → va_S (fun q => base ≤ q) s.heap H1 locs1 → W p l e R s m args below meth c H1 locs1 (cells + mc) (slots + ms) Q (F0 m (pc + 3) lsA ((v.map (cvv base b)).toList ++ rest))) : W p l e R s m args below meth c H locs cells slots Q (F0 m pc lsA st0) := by
  intro T hT X
  obtain ⟨v', st₀, t, T', L, h0, X', hL, e1, e2, ⟨hv, hh, hF⟩, st⟩ := hr T hT X
  cases hv
  obtain ⟨k1, k2, k3⟩ := vx_keep h0 e1 hS (fun _ _ h => h) (fun _ h => h) hL hF
  have hal : t.vm.Alike s.vm := by rw [← e2]; exact X'.warmed.alike.symm
  obtain ⟨t2, a1, b1⟩ := kk T'.heap (locs ++ L) (by rw [e1]; exact hh.moved hal) k3 T' rfl X'
  exact ⟨t2, st t2 a1, b1⟩
/-- a call's end, when it threw -/
theorem call_thr {H : Heap} {locs : List Loc} {cells slots mc ms pc E : Nat} {lsA : Array Slot} {st0 rest : List Value} {h1 : AH} {ca : Array Value} (hr : vx_Run p l e R s m args below meth c H locs cells slots mc ms (F0 m pc lsA st0) rest ((fun (_ : Array Value) (_ : State) (_ : Outcome) (_ : State) => False) ca) (XRet D base b sc E h1) (fun q => base ≤ q)) (hS : va_S (fun q => base ≤ q) s.heap H locs)
    (kk : ∀ (H1 : Heap) (locs1 : List Loc) (q : Addr) (ce : Cell), HV D base b sc s H1 h1 → va_S (fun q => base ≤ q) s.heap H1 locs1 → H1[q]? = some ce → ce.vm = .none → s.vm.findClass (xnm E) = some ce.cls → vx_W p l e R s m args below meth c H1 locs1 (cells + mc) (slots + ms) Q (F0 m pc lsA rest) q) : W p l e R s m args below meth c H locs cells slots Q (F0 m pc lsA st0) := by
  intro T hT X
  rcases hr T hT X with ⟨v, st₀, t, T', L, h0, X', hL, e1, e2, hf, st⟩ | ⟨q, st₀, t, T', L, nm, ce, h0, X', hL, e1, e2, ⟨rfl, hh, hF⟩, hce, hcv, hcl, st⟩
  · exact hf.elim
  · obtain ⟨k1, k2, k3⟩ := vx_keep h0 e1 hS (fun _ _ h => h) (fun _ h => h) hL hF
    have hal : t.vm.Alike s.vm := by rw [← e2]; exact X'.warmed.alike.symm
    obtain ⟨t2, a1, b1⟩ := kk T'.heap (locs ++ L) q ce (by rw [e1]; exact hh.moved hal) k3 (by rw [e1]; exact hce) hcv hcl T' rfl X'
    exact ⟨t2, st.trans a1, b1⟩
theorem lenP {d : String} {n : Nat} (h : (parseMethodDescriptor d).map (fun d => d.parameters.length) = some n) : ∀ sig, parseMethodDescriptor d = some sig → n = sig.parameters.length := by
  intro sig hs
  rw [hs] at h
  exact (Option.some.inj h).symm
theorem wsW {mi : Nat} (hE : EV D s) (hw : MW mi) : ∀ w ∈ [cwrd mi], ∀ (a' : Array Value) (U : State), s.WarmedH U.vm → w.before a' U = true := by
  intro w h a' U hW
  rw [List.mem_singleton.mp h]
  exact kwB_warm hw.2.1.2 hW a' (fun A => hE.1 _ hw.2.1.1 hw.2.1.2 A)
theorem preA {H : Heap} {h : AH} {as : List Value} (hE : EV D s) (hr : HV D base b sc s H h) : ∀ U : State, U.heap = H → s.WarmedH U.vm → PcA D base b sc as h (as.map (cvv base b)).toArray U := by
  intro U hU hW
  exact ⟨rfl, hE.warm hW, by rw [hU]; exact hr.moved hW.alike⟩
/-- the stack of a call -/
theorem stkA {as rest : List Value} : (as.reverse ++ rest).map (cvv base b) = (as.map (cvv base b)).reverse ++ rest.map (cvv base b) := by simp
theorem roomW {pc : Nat} {lsA : Array Slot} {st0 rest : List Value} (h : rest.length ≤ 4) : 2 * (F0 m pc lsA st0).monitorRoom + ((rest.map (cvv base b)).map fun v => v.category).sum ≤ 8 := lv_room (catS h)
theorem rm_le {d mc ms mi : Nat} (hRf : d + 7 ≤ R.frames) (hRl : 160 + 60 * d ≤ R.locals) (hw : MW mi) : (rmD d mc ms).frames + 1 ≤ R.frames ∧ 8 + ((mrow mi).2.2.1 + 11) + (rmD d mc ms).locals ≤ R.locals := by
  have h1 := mL_le mi
  rw [hw.2.2.2.2.2.2.2.2.1] at h1
  refine ⟨?_, ?_⟩
  · show d + 6 + 1 ≤ _; omega
  · show 8 + ((mrow mi).2.2.1 + 11) + (100 + 60 * d) ≤ _; omega
/-- a call goes on so -/
def GoC (p : Program) (l : Launch) (e : Env) (R : Room) (s : State) (m : MethodId) (args : Array Value) (below : List Frame) (meth : Method) (c : Code) (Q : State → Prop) (D : va_G) (base b : Nat) (sc : (Nat → Int32) × Nat) (nL n0 u0 : Nat) (d pc : Nat) (ls : List Value) (h : AH) (mi : Nat) (as rest : List Value) : Prop :=
  ∃ r1 h1, MET l D base b sc d mi as h r1 h1 ∧ (ah_n h1 ≤ n0 + R.cells ∧ ah_u h1 ≤ u0 + R.slots) ∧ match r1 with
    | .inl v => WA p l e R s m args below meth c Q D base b sc nL n0 u0 (pc + 3) ls (v.toList ++ rest) h1
    | .inr E => mT mi = true ∧ ∀ (H1 : Heap) (locs1 : List Loc) (lsA : Array Slot) (q : Addr) (ce : Cell), HV D base b sc s H1 h1 → va_S (fun q => base ≤ q) s.heap H1 locs1 → LR base b lsA nL ls → H1[q]? = some ce → ce.vm = .none → s.vm.findClass (xnm E) = some ce.cls → vx_W p l e R s m args below meth c H1 locs1 (ah_n h1 - n0) (ah_u h1 - u0) Q (F0 m pc lsA (rest.map (cvv base b))) q
theorem retA {v : Option Value} {rest : List Value} : (v.map (cvv base b)).toList ++ rest.map (cvv base b) = (v.toList ++ rest).map (cvv base b) := by cases v <;> rfl
theorem WA.back {pc : Nat} {ls rest : List Value} {v : Option Value} {h h1 : AH} {lsA : Array Slot} (hn0 : n0 ≤ ah_n h) (hu0 : u0 ≤ ah_u h) (g1 : ah_n h ≤ ah_n h1) (g2 : ah_u h ≤ ah_u h1) (hl : LR base b lsA nL ls)
    (k : WA p l e R s m args below meth c Q D base b sc nL n0 u0 (pc + 3) ls (v.toList ++ rest) h1) : ∀ (H1 : Heap) (locs1 : List Loc), HV D base b sc s H1 h1 → va_S (fun q => base ≤ q) s.heap H1 locs1 → W p l e R s m args below meth c H1 locs1 (ah_n h - n0 + (ah_n h1 - ah_n h)) (ah_u h - u0 + (ah_u h1 - ah_u h)) Q (F0 m (pc + 3) lsA ((v.map (cvv base b)).toList ++ rest.map (cvv base b))) := by
  intro H1 locs1 hv hS
  have e1 : ah_n h - n0 + (ah_n h1 - ah_n h) = ah_n h1 - n0 := by omega
  have e2 : ah_u h - u0 + (ah_u h1 - ah_u h) = ah_u h1 - u0 := by omega
  rw [e1, e2, retA]
  exact k H1 locs1 lsA hv hS hl
set_option maxHeartbeats 8000000 in
theorem callV_ok (hx : p.tables.exec = Jvm.exec) (hb : c.code = cc) (hml : c.maxLocals = nL) {o : Nat} (hown : s.vm.findClass (cnm o) = some m.cls) (hE : EV D s) {d : Nat} (hRf : d + 7 ≤ R.frames) (hRl : 160 + 60 * d ≤ R.locals) {i pc : Nat} {q : Nat × Nat × Nat × Nat × Nat} (hq : fcl o i = some q) (hk0 : q.2.2.2.1 = 0) (hd : decode cc pc = .ok (.invokevirtual i, 3)) {ls : List Value} {a : Nat} {As rest : List Value} {h : AH} (hlenA : As.length + 1 = nA q.2.2.1)
    (hka : ah_k h a = mC q.2.2.1) (hr4 : rest.length ≤ 4) (hn0 : n0 ≤ ah_n h) (hu0 : u0 ≤ ah_u h) (hgo : GoC p l e R s m args below meth c Q D base b sc nL n0 u0 d pc ls h q.2.2.1 (.ref a :: As) rest) : WA p l e R s m args below meth c Q D base b sc nL n0 u0 pc ls ((Value.ref a :: As).reverse ++ rest) h := by
  obtain ⟨r1, h1, ⟨g1, g2, hM⟩, hbd, hgo⟩ := hgo
  obtain ⟨hmem, k1, k2, k3, k4, k5⟩ := clk_at hq
  have k6 := List.all_eq_true.mp clk2_ok q hmem
  simp only [Bool.and_eq_true, Bool.or_eq_true, decide_eq_true_eq] at k6
  obtain ⟨⟨⟨⟨⟨⟨c1, c2⟩, c3⟩, c4⟩, c5⟩, c6⟩, c7⟩ := k6
  have hmi : q.2.2.1 < 281 := c1.resolve_left (by omega)
  have hw := mw_at hmi k5
  have hc13 : mC q.2.2.1 < 12 := c2.resolve_left (fun z => z hk0)
  have hhh : (mrow q.2.2.1).2.2.2.2.1 = [] := c6.resolve_left (by omega)
  have hst : mSt.getD q.2.2.1 false = false := by
    rw [if_neg (by omega)] at c4
    simpa using c4
  have hni : (mrow q.2.2.1).1.name ≠ "<init>" := by
    have : decide (q.2.2.2.1 = 0) = true := decide_eq_true hk0
    rw [this] at c5
    exact (of_decide_eq_true (eq_of_beq c5).symm).1
  obtain ⟨w1, w2, w3, w4, w5, -, w6, w7, w8, -⟩ := id hw
  obtain ⟨v1, v2, v3⟩ := w6 hst
  rw [hst, if_neg (by decide)] at w5
  have hcw : cwrd q.2.2.1 = .code (mrow q.2.2.1).1 (mrow q.2.2.1).2.1 (mrow q.2.2.1).2.2.1 (mrow q.2.2.1).2.2.2.1 := by unfold cwrd; rw [if_pos hhh]
  have hlink : (Jvm.Cond.methodLink (cnm o) i (mrow q.2.2.1).1).before args s = true := by
    have := hE.1 _ k3 k4 args
    unfold clW at this
    rwa [if_pos (by omega), k1, k2] at this
  have hcode : (Jvm.Cond.code (mrow q.2.2.1).1 (mrow q.2.2.1).2.1 (mrow q.2.2.1).2.2.1 (mrow q.2.2.1).2.2.2.1).before args s = true := by
    have := hE.1 _ w2.1 w2.2 args
    rwa [hcw] at this
  have hcwk : CallW R s args (cnm o) (mrow q.2.2.1).1.cls i (mrow q.2.2.1).1 (mrow q.2.2.1).2.1 (mrow q.2.2.1).2.2.1 (mrow q.2.2.1).2.2.2.1 [cwrd q.2.2.1] (rmD d (ah_n h1 - ah_n h) (ah_u h1 - ah_u h)) (ah_n h1 - ah_n h) (ah_u h1 - ah_u h) As.length :=
    ⟨⟨rfl, rfl, (rm_le hRf hRl hw).1, (rm_le hRf hRl hw).2, wsW hE hw, by rw [hcw]; exact List.mem_cons_self, hcode, hE.1 _ w1.1 w1.2 _, w7, fun sig hs => by rw [← lenP w5 sig hs]; omega, hlink⟩, hE.1 _ v1.1 v1.2 _, hE.1 _ (v3 hni).1 (v3 hni).2 _⟩
  intro H locs lsA hr hS hl
  have hlt : a < ah_n h := ah_k_lt hka (by omega)
  obtain ⟨-, -, -, -, hob⟩ := hr.2.2.2.2.2 a hlt
  rw [hka] at hob
  obtain ⟨cell, f1, f2, f3, f4⟩ := hob hc13
  have hKn := hE.2.1.1 _ _ (vwCl_at _ hc13)
  have hrecv : ∃ cellB : Cell, H[base + a]? = some cellB ∧ cellB.vm.isStatics = false ∧ s.vm.findClass (mrow q.2.2.1).1.cls = some cellB.cls := ⟨cell, f1, by rw [f3]; rfl, by rw [f2, w3]; exact hKn.2.1⟩
  have hfit : ah_n h - n0 + (ah_n h1 - ah_n h) ≤ R.cells ∧ ah_u h - u0 + (ah_u h1 - ah_u h) ≤ R.slots := by omega
  have hstk : ((Value.ref a :: As).reverse ++ rest).map (cvv base b) = (As.map (cvv base b)).reverse ++ .ref (base + a) :: rest.map (cvv base b) := by simp [cvv]
  rw [hstk]
  cases r1 with
  | inl v =>
    exact call_ret (va_runV (Ts := []) ⟨hx, hb, hml, hown, fun _ q => absurd q List.not_mem_nil⟩ hM hcwk ⟨PcA_blind, hrecv, preA hE hr⟩ rfl (by simp) hl.1.1 rfl (roomW hr4) hd hfit) hS (WA.back hn0 hu0 g1 g2 hl hgo)
  | inr E =>
    refine call_thr (ca := #[]) (vx_runV (Ts := []) ⟨hx, hb, hml, hown, fun _ q => absurd q List.not_mem_nil⟩ hM hcwk ⟨PcA_blind, hrecv, preA hE hr⟩ rfl (by simp) hl.1.1 rfl (roomW hr4) hd hfit) hS ?_
    intro H1 locs1 q' ce z1 z2 z3 z4 z5
    have e1 : ah_n h - n0 + (ah_n h1 - ah_n h) = ah_n h1 - n0 := by omega
    have e2 : ah_u h - u0 + (ah_u h1 - ah_u h) = ah_u h1 - u0 := by omega
    rw [e1, e2]
    exact hgo.2 H1 locs1 lsA q' ce z1 z2 hl z3 z4 z5
set_option maxHeartbeats 8000000 in
theorem callS_ok (hx : p.tables.exec = Jvm.exec) (hb : c.code = cc) (hml : c.maxLocals = nL) {o : Nat} (hown : s.vm.findClass (cnm o) = some m.cls) (hE : EV D s) {d : Nat} (hRf : d + 7 ≤ R.frames) (hRl : 160 + 60 * d ≤ R.locals) {i pc : Nat} {q : Nat × Nat × Nat × Nat × Nat} (hq : fcl o i = some q) (hk0 : q.2.2.2.1 = 1) (hmi : q.2.2.1 < 281) (hd : decode cc pc = .ok (.invokestatic i, 3)) {ls : List Value} {As : List Value} {rest : List Value} {h : AH} (hlenA : As.length = nA q.2.2.1)
    (hr4 : rest.length ≤ 4) (hn0 : n0 ≤ ah_n h) (hu0 : u0 ≤ ah_u h) (hgo : GoC p l e R s m args below meth c Q D base b sc nL n0 u0 d pc ls h q.2.2.1 As rest) : WA p l e R s m args below meth c Q D base b sc nL n0 u0 pc ls (As.reverse ++ rest) h := by
  obtain ⟨r1, h1, ⟨g1, g2, hM⟩, hbd, hgo⟩ := hgo
  obtain ⟨hmem, k1, k2, k3, k4, k5⟩ := clk_at hq
  have k6 := List.all_eq_true.mp clk2_ok q hmem
  simp only [Bool.and_eq_true, Bool.or_eq_true, decide_eq_true_eq] at k6
  obtain ⟨⟨⟨⟨⟨⟨c1, c2⟩, c3⟩, c4⟩, c5⟩, c6⟩, c7⟩ := k6
  have hmT := List.all_eq_true.mp mT_ok q hmem
  simp only [Bool.and_eq_true, Bool.or_eq_true, decide_eq_true_eq, Bool.not_eq_true'] at hmT
  have hw := mw_at hmi k5
  obtain ⟨w1, w2, w3, w4, w5, w6s, w6, w7, w8, -⟩ := id hw
  have hst : mSt.getD q.2.2.1 false = true := by
    rw [if_pos (by omega)] at c4
    simpa using c4
  have v1 := w6s hst
  rw [hst, if_pos rfl] at w5
  have hlink : (Jvm.Cond.methodLink (cnm o) i (mrow q.2.2.1).1).before args s = true := by
    have := hE.1 _ k3 k4 args
    unfold clW at this
    rwa [if_pos (by omega), k1, k2] at this
  intro H locs lsA hr hS hl
  have hfit : ah_n h - n0 + (ah_n h1 - ah_n h) ≤ R.cells ∧ ah_u h - u0 + (ah_u h1 - ah_u h) ≤ R.slots := by omega
  rw [stkA]
  by_cases hhh : (mrow q.2.2.1).2.2.2.2.1 = []
  · have hcw : cwrd q.2.2.1 = .code (mrow q.2.2.1).1 (mrow q.2.2.1).2.1 (mrow q.2.2.1).2.2.1 (mrow q.2.2.1).2.2.2.1 := by unfold cwrd; rw [if_pos hhh]
    have hcode : (Jvm.Cond.code (mrow q.2.2.1).1 (mrow q.2.2.1).2.1 (mrow q.2.2.1).2.2.1 (mrow q.2.2.1).2.2.2.1).before args s = true := by
      have := hE.1 _ w2.1 w2.2 args
      rwa [hcw] at this
    have hcwk : CallB R s args (cnm o) i (mrow q.2.2.1).1 (mrow q.2.2.1).2.1 (mrow q.2.2.1).2.2.1 (mrow q.2.2.1).2.2.2.1 [cwrd q.2.2.1] (rmD d (ah_n h1 - ah_n h) (ah_u h1 - ah_u h)) (ah_n h1 - ah_n h) (ah_u h1 - ah_u h) As.length ∧ (Jvm.Cond.static (mrow q.2.2.1).1).before args s = true :=
      ⟨⟨rfl, rfl, (rm_le hRf hRl hw).1, (rm_le hRf hRl hw).2, wsW hE hw, by rw [hcw]; exact List.mem_cons_self, hcode, hE.1 _ w1.1 w1.2 _, w7, fun sig hs => by rw [← lenP w5 sig hs]; omega, hlink⟩, hE.1 _ v1.1 v1.2 _⟩
    cases r1 with
    | inl v => exact call_ret (va_runS (Ts := []) ⟨hx, hb, hml, hown, fun _ q => absurd q List.not_mem_nil⟩ hM hcwk ⟨PcA_blind, preA hE hr⟩ rfl (by simp) hl.1.1 rfl (roomW hr4) hd hfit) hS (WA.back hn0 hu0 g1 g2 hl hgo)
    | inr E =>
      refine call_thr (ca := #[]) (vx_runS (Ts := []) ⟨hx, hb, hml, hown, fun _ q => absurd q List.not_mem_nil⟩ hM hcwk ⟨PcA_blind, preA hE hr⟩ rfl (by simp) hl.1.1 rfl (roomW hr4) hd hfit) hS ?_
      intro H1 locs1 q' ce z1 z2 z3 z4 z5
      have e1 : ah_n h - n0 + (ah_n h1 - ah_n h) = ah_n h1 - n0 := by omega
      have e2 : ah_u h - u0 + (ah_u h1 - ah_u h) = ah_u h1 - u0 := by omega
      rw [e1, e2]
      exact hgo.2 H1 locs1 lsA q' ce z1 z2 hl z3 z4 z5
  · have hcw : cwrd q.2.2.1 = .codeWith (mrow q.2.2.1).1 (mrow q.2.2.1).2.1 (mrow q.2.2.1).2.2.1 (mrow q.2.2.1).2.2.2.1 (mrow q.2.2.1).2.2.2.2.1 := by unfold cwrd; rw [if_neg hhh]
    have hcode : (Jvm.Cond.codeWith (mrow q.2.2.1).1 (mrow q.2.2.1).2.1 (mrow q.2.2.1).2.2.1 (mrow q.2.2.1).2.2.2.1 (mrow q.2.2.1).2.2.2.2.1).before args s = true := by
      have := hE.1 _ w2.1 w2.2 args
      rwa [hcw] at this
    have hcwk : vx_CSW R s args (cnm o) i (mrow q.2.2.1).1 (mrow q.2.2.1).2.1 (mrow q.2.2.1).2.2.1 (mrow q.2.2.1).2.2.2.1 (mrow q.2.2.1).2.2.2.2.1 [cwrd q.2.2.1] (rmD d (ah_n h1 - ah_n h) (ah_u h1 - ah_u h)) (ah_n h1 - ah_n h) (ah_u h1 - ah_u h) As.length :=
      ⟨⟨rfl, rfl, (rm_le hRf hRl hw).1, (rm_le hRf hRl hw).2, wsW hE hw, by rw [hcw]; exact List.mem_cons_self⟩, hcode, hE.1 _ w1.1 w1.2 _, w7, fun sig hs => by rw [← lenP w5 sig hs]; omega, hlink, hE.1 _ v1.1 v1.2 _⟩
    cases r1 with
    | inl v => exact call_ret (vx_runSW (Ts := []) ⟨hx, hb, hml, hown, fun _ q => absurd q List.not_mem_nil⟩ hM hcwk ⟨PcA_blind, preA hE hr⟩ rfl (by simp) hl.1.1 rfl (roomW hr4) hd hfit) hS (WA.back hn0 hu0 g1 g2 hl hgo)
    | inr E => exact absurd (hmT.resolve_left (by rw [hgo.1]; decide)).2 hhh
set_option maxHeartbeats 8000000 in
theorem callSN_ok (hx : p.tables.exec = Jvm.exec) (hb : c.code = cc) (hml : c.maxLocals = nL) {o : Nat} (hown : s.vm.findClass (cnm o) = some m.cls) (hE : EV D s) {d : Nat} (hRf : d + 7 ≤ R.frames) (hRl : 160 + 60 * d ≤ R.locals) {i pc : Nat} {q : Nat × Nat × Nat × Nat × Nat} (hq : fcl o i = some q) (hk0 : q.2.2.2.1 = 3) (hmi : q.2.2.1 < 281) (hd : decode cc pc = .ok (.invokestatic i, 3)) {ls : List Value} {As : List Value} {rest : List Value} {h : AH} (hlenA : As.length = nA q.2.2.1)
    (hr4 : rest.length ≤ 4) (hn0 : n0 ≤ ah_n h) (hu0 : u0 ≤ ah_u h) (hgo : GoC p l e R s m args below meth c Q D base b sc nL n0 u0 d pc ls h q.2.2.1 As rest) : WA p l e R s m args below meth c Q D base b sc nL n0 u0 pc ls (As.reverse ++ rest) h := by
  obtain ⟨r1, h1, ⟨g1, g2, hM⟩, hbd, hgo⟩ := hgo
  obtain ⟨hmem, k1, k2, k3, k4, k5⟩ := clk_at hq
  have k6 := List.all_eq_true.mp clk2_ok q hmem
  simp only [Bool.and_eq_true, Bool.or_eq_true, decide_eq_true_eq] at k6
  obtain ⟨⟨⟨⟨⟨⟨c1, c2⟩, c3⟩, c4⟩, c5⟩, c6⟩, c7⟩ := k6
  have hmT := List.all_eq_true.mp mT_ok q hmem
  simp only [Bool.and_eq_true, Bool.or_eq_true, decide_eq_true_eq, Bool.not_eq_true'] at hmT
  have hw := mw_at hmi k5
  obtain ⟨w1, w2, w3, w4, w5, w6s, w6, w7, w8, -⟩ := id hw
  have hst : mSt.getD q.2.2.1 false = true := by
    rw [if_pos (by omega)] at c4
    simpa using c4
  have v1 := w6s hst
  rw [hst, if_pos rfl] at w5
  have hlink : (Jvm.Cond.methodLinkNest (cnm o) i (mrow q.2.2.1).1 "StableFoundry").before args s = true := by
    have := hE.1 _ k3 k4 args
    unfold clW at this
    rwa [if_neg (by omega), k1, k2] at this
  intro H locs lsA hr hS hl
  have hfit : ah_n h - n0 + (ah_n h1 - ah_n h) ≤ R.cells ∧ ah_u h - u0 + (ah_u h1 - ah_u h) ≤ R.slots := by omega
  rw [stkA]
  have hhh : (mrow q.2.2.1).2.2.2.2.1 = [] := c6.resolve_left (by omega)
  have hcw : cwrd q.2.2.1 = .code (mrow q.2.2.1).1 (mrow q.2.2.1).2.1 (mrow q.2.2.1).2.2.1 (mrow q.2.2.1).2.2.2.1 := by unfold cwrd; rw [if_pos hhh]
  have hcode : (Jvm.Cond.code (mrow q.2.2.1).1 (mrow q.2.2.1).2.1 (mrow q.2.2.1).2.2.1 (mrow q.2.2.1).2.2.2.1).before args s = true := by
    have := hE.1 _ w2.1 w2.2 args
    rwa [hcw] at this
  have hcwk : va_CN R s args (cnm o) i (mrow q.2.2.1).1 "StableFoundry" (mrow q.2.2.1).2.1 (mrow q.2.2.1).2.2.1 (mrow q.2.2.1).2.2.2.1 [cwrd q.2.2.1] (rmD d (ah_n h1 - ah_n h) (ah_u h1 - ah_u h)) (ah_n h1 - ah_n h) (ah_u h1 - ah_u h) As.length ∧ (Jvm.Cond.static (mrow q.2.2.1).1).before args s = true ∧ True :=
    ⟨⟨⟨rfl, rfl, (rm_le hRf hRl hw).1, (rm_le hRf hRl hw).2, wsW hE hw, by rw [hcw]; exact List.mem_cons_self⟩, hcode, hE.1 _ w1.1 w1.2 _, w7, fun sig hs => by rw [← lenP w5 sig hs]; omega, hlink⟩, hE.1 _ v1.1 v1.2 _, trivial⟩
  cases r1 with
  | inl v => exact call_ret (va_runSN (Ts := []) ⟨hx, hb, hml, hown, fun _ q => absurd q List.not_mem_nil⟩ hM hcwk ⟨PcA_blind, preA hE hr⟩ rfl (by simp) hl.1.1 rfl (roomW hr4) hd hfit) hS (WA.back hn0 hu0 g1 g2 hl hgo)
  | inr E => exact absurd (hmT.resolve_left (by rw [hgo.1]; decide)).1 (by omega)
set_option maxHeartbeats 8000000 in
theorem callI_ok (hx : p.tables.exec = Jvm.exec) (hb : c.code = cc) (hml : c.maxLocals = nL) {o : Nat} (hown : s.vm.findClass (cnm o) = some m.cls) (hE : EV D s) {d : Nat} (hRf : d + 7 ≤ R.frames) (hRl : 160 + 60 * d ≤ R.locals) {i pc : Nat} {q : Nat × Nat × Nat × Nat × Nat} (hq : fcl o i = some q) (hk0 : q.2.2.2.1 = 2) (hmi : q.2.2.1 < 281) (hd : decode cc pc = .ok (.invokespecial i, 3)) {ls : List Value} {a : Nat} {As : List Value} {rest : List Value} {h : AH} (hlenA : As.length + 1 = nA q.2.2.1)
    (hr4 : rest.length ≤ 4) (hn0 : n0 ≤ ah_n h) (hu0 : u0 ≤ ah_u h) (hgo : GoC p l e R s m args below meth c Q D base b sc nL n0 u0 d pc ls h q.2.2.1 (Value.ref a :: As) rest) : WA p l e R s m args below meth c Q D base b sc nL n0 u0 pc ls ((Value.ref a :: As).reverse ++ rest) h := by
  obtain ⟨r1, h1, ⟨g1, g2, hM⟩, hbd, hgo⟩ := hgo
  obtain ⟨hmem, k1, k2, k3, k4, k5⟩ := clk_at hq
  have k6 := List.all_eq_true.mp clk2_ok q hmem
  simp only [Bool.and_eq_true, Bool.or_eq_true, decide_eq_true_eq] at k6
  obtain ⟨⟨⟨⟨⟨⟨c1, c2⟩, c3⟩, c4⟩, c5⟩, c6⟩, c7⟩ := k6
  have hmT := List.all_eq_true.mp mT_ok q hmem
  simp only [Bool.and_eq_true, Bool.or_eq_true, decide_eq_true_eq, Bool.not_eq_true'] at hmT
  have hw := mw_at hmi k5
  obtain ⟨w1, w2, w3, w4, w5, w6s, w6, w7, w8, -⟩ := id hw
  have hst : mSt.getD q.2.2.1 false = false := by
    rw [if_neg (by omega)] at c4
    simpa using c4
  obtain ⟨v1, v2, -⟩ := w6 hst
  rw [hst, if_neg (by decide)] at w5
  have hlink : (Jvm.Cond.methodLink (cnm o) i (mrow q.2.2.1).1).before args s = true := by
    have := hE.1 _ k3 k4 args
    unfold clW at this
    rwa [if_pos (by omega), k1, k2] at this
  have hini : (mrow q.2.2.1).1.name = "<init>" := by
    by_cases z : (mrow q.2.2.1).1.name = "<init>"
    · exact z
    · rw [decide_eq_false (show ¬ q.2.2.2.1 = 0 by omega), decide_eq_true (show (mrow q.2.2.1).1.name ≠ "<init>" ∧ mSt.getD q.2.2.1 false = false from ⟨z, hst⟩)] at c5
      cases c5
  have hret : (mrow q.2.2.1).2.2.2.1 = none := c7.resolve_left (by omega)
  have hhh : (mrow q.2.2.1).2.2.2.2.1 = [] := c6.resolve_left (by omega)
  have hcw : cwrd q.2.2.1 = .code (mrow q.2.2.1).1 (mrow q.2.2.1).2.1 (mrow q.2.2.1).2.2.1 (mrow q.2.2.1).2.2.2.1 := by unfold cwrd; rw [if_pos hhh]
  have hcode : (Jvm.Cond.code (mrow q.2.2.1).1 (mrow q.2.2.1).2.1 (mrow q.2.2.1).2.2.1 (mrow q.2.2.1).2.2.2.1).before args s = true := by
    have := hE.1 _ w2.1 w2.2 args
    rwa [hcw] at this
  rw [hret] at hcw hcode
  intro H locs lsA hr hS hl
  have hfit : ah_n h - n0 + (ah_n h1 - ah_n h) ≤ R.cells ∧ ah_u h - u0 + (ah_u h1 - ah_u h) ≤ R.slots := by omega
  have hstk : ((Value.ref a :: As).reverse ++ rest).map (cvv base b) = (As.map (cvv base b)).reverse ++ .ref (base + a) :: rest.map (cvv base b) := by simp [cvv]
  rw [hstk]
  have hcwk : CallB R s args (cnm o) i (mrow q.2.2.1).1 (mrow q.2.2.1).2.1 (mrow q.2.2.1).2.2.1 none [cwrd q.2.2.1] (rmD d (ah_n h1 - ah_n h) (ah_u h1 - ah_u h)) (ah_n h1 - ah_n h) (ah_u h1 - ah_u h) As.length ∧ (mrow q.2.2.1).1.name = "<init>" ∧ (Jvm.Cond.instanceMethod (mrow q.2.2.1).1).before args s = true :=
    ⟨⟨rfl, rfl, (rm_le hRf hRl hw).1, (rm_le hRf hRl hw).2, wsW hE hw, by rw [hcw]; exact List.mem_cons_self, hcode, hE.1 _ w1.1 w1.2 _, w7, fun sig hs => by rw [← lenP w5 sig hs]; omega, hlink⟩, hini, hE.1 _ v1.1 v1.2 _⟩
  cases r1 with
  | inl v => exact call_ret (va_runI (Ts := []) ⟨hx, hb, hml, hown, fun _ q => absurd q List.not_mem_nil⟩ hM hcwk ⟨PcA_blind, preA (as := .ref a :: As) hE hr⟩ rfl (by simp) hl.1.1 rfl (roomW hr4) hd hfit) hS (WA.back hn0 hu0 g1 g2 hl hgo)
  | inr E => exact absurd (hmT.resolve_left (by rw [hgo.1]; decide)).1 (by omega)
set_option maxHeartbeats 8000000 in
theorem callIN_ok (hx : p.tables.exec = Jvm.exec) (hb : c.code = cc) (hml : c.maxLocals = nL) {o : Nat} (hown : s.vm.findClass (cnm o) = some m.cls) (hE : EV D s) {d : Nat} (hRf : d + 7 ≤ R.frames) (hRl : 160 + 60 * d ≤ R.locals) {i pc : Nat} {q : Nat × Nat × Nat × Nat × Nat} (hq : fcl o i = some q) (hk0 : q.2.2.2.1 = 4) (hmi : q.2.2.1 < 281) (hd : decode cc pc = .ok (.invokespecial i, 3)) {ls : List Value} {a : Nat} {As : List Value} {rest : List Value} {h : AH} (hlenA : As.length + 1 = nA q.2.2.1)
    (hr4 : rest.length ≤ 4) (hn0 : n0 ≤ ah_n h) (hu0 : u0 ≤ ah_u h) (hgo : GoC p l e R s m args below meth c Q D base b sc nL n0 u0 d pc ls h q.2.2.1 (Value.ref a :: As) rest) : WA p l e R s m args below meth c Q D base b sc nL n0 u0 pc ls ((Value.ref a :: As).reverse ++ rest) h := by
  obtain ⟨r1, h1, ⟨g1, g2, hM⟩, hbd, hgo⟩ := hgo
  obtain ⟨hmem, k1, k2, k3, k4, k5⟩ := clk_at hq
  have k6 := List.all_eq_true.mp clk2_ok q hmem
  simp only [Bool.and_eq_true, Bool.or_eq_true, decide_eq_true_eq] at k6
  obtain ⟨⟨⟨⟨⟨⟨c1, c2⟩, c3⟩, c4⟩, c5⟩, c6⟩, c7⟩ := k6
  have hmT := List.all_eq_true.mp mT_ok q hmem
  simp only [Bool.and_eq_true, Bool.or_eq_true, decide_eq_true_eq, Bool.not_eq_true'] at hmT
  have hw := mw_at hmi k5
  obtain ⟨w1, w2, w3, w4, w5, w6s, w6, w7, w8, -⟩ := id hw
  have hst : mSt.getD q.2.2.1 false = false := by
    rw [if_neg (by omega)] at c4
    simpa using c4
  obtain ⟨v1, v2, -⟩ := w6 hst
  rw [hst, if_neg (by decide)] at w5
  have hlink : (Jvm.Cond.methodLinkNest (cnm o) i (mrow q.2.2.1).1 "StableFoundry").before args s = true := by
    have := hE.1 _ k3 k4 args
    unfold clW at this
    rwa [if_neg (by omega), k1, k2] at this
  have hini : (mrow q.2.2.1).1.name = "<init>" := by
    by_cases z : (mrow q.2.2.1).1.name = "<init>"
    · exact z
    · rw [decide_eq_false (show ¬ q.2.2.2.1 = 0 by omega), decide_eq_true (show (mrow q.2.2.1).1.name ≠ "<init>" ∧ mSt.getD q.2.2.1 false = false from ⟨z, hst⟩)] at c5
      cases c5
  have hret : (mrow q.2.2.1).2.2.2.1 = none := c7.resolve_left (by omega)
  have hhh : (mrow q.2.2.1).2.2.2.2.1 = [] := c6.resolve_left (by omega)
  have hcw : cwrd q.2.2.1 = .code (mrow q.2.2.1).1 (mrow q.2.2.1).2.1 (mrow q.2.2.1).2.2.1 (mrow q.2.2.1).2.2.2.1 := by unfold cwrd; rw [if_pos hhh]
  have hcode : (Jvm.Cond.code (mrow q.2.2.1).1 (mrow q.2.2.1).2.1 (mrow q.2.2.1).2.2.1 (mrow q.2.2.1).2.2.2.1).before args s = true := by
    have := hE.1 _ w2.1 w2.2 args
    rwa [hcw] at this
  rw [hret] at hcw hcode
  intro H locs lsA hr hS hl
  have hfit : ah_n h - n0 + (ah_n h1 - ah_n h) ≤ R.cells ∧ ah_u h - u0 + (ah_u h1 - ah_u h) ≤ R.slots := by omega
  have hstk : ((Value.ref a :: As).reverse ++ rest).map (cvv base b) = (As.map (cvv base b)).reverse ++ .ref (base + a) :: rest.map (cvv base b) := by simp [cvv]
  rw [hstk]
  have hcwk : va_CN R s args (cnm o) i (mrow q.2.2.1).1 "StableFoundry" (mrow q.2.2.1).2.1 (mrow q.2.2.1).2.2.1 none [cwrd q.2.2.1] (rmD d (ah_n h1 - ah_n h) (ah_u h1 - ah_u h)) (ah_n h1 - ah_n h) (ah_u h1 - ah_u h) As.length ∧ (mrow q.2.2.1).1.name = "<init>" ∧ (Jvm.Cond.instanceMethod (mrow q.2.2.1).1).before args s = true :=
    ⟨⟨⟨rfl, rfl, (rm_le hRf hRl hw).1, (rm_le hRf hRl hw).2, wsW hE hw, by rw [hcw]; exact List.mem_cons_self⟩, hcode, hE.1 _ w1.1 w1.2 _, w7, fun sig hs => by rw [← lenP w5 sig hs]; omega, hlink⟩, hini, hE.1 _ v1.1 v1.2 _⟩
  cases r1 with
  | inl v => exact call_ret (va_runIN (Ts := []) ⟨hx, hb, hml, hown, fun _ q => absurd q List.not_mem_nil⟩ hM hcwk ⟨PcA_blind, preA (as := .ref a :: As) hE hr⟩ rfl (by simp) hl.1.1 rfl (roomW hr4) hd hfit) hS (WA.back hn0 hu0 g1 g2 hl hgo)
  | inr E => exact absurd (hmT.resolve_left (by rw [hgo.1]; decide)).1 (by omega)
end CALLS
