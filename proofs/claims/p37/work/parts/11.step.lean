section STEP
variable {p : Program} {l : Launch} {e : Env} {R : Room} {s : State} {m : MethodId} {args : Array Value} {below : List Frame} {meth : Method} {c : Code} {Q : State → Prop} {cc : ByteArray}
variable {D : va_G} {base b : Nat} {sc : (Nat → Int32) × Nat} {nL n0 u0 : Nat}
/-- the plain instructions: all but calls and returns -/
def plainC (ci : Instr) : Bool := match ci with
  | .ireturn => false
  | .lreturn => false
  | .areturn => false
  | .return_ => false
  | .invokevirtual _ => false
  | .invokestatic _ => false
  | .invokespecial _ => false
  | _ => true
theorem isRf_cases {v : Value} (h : isRf v = true) : (∃ a, v = .ref a) ∨ v = .null ∨ v = .retAddr 1 := by
  cases v with
  | ref a => exact Or.inl ⟨a, rfl⟩
  | null => exact Or.inr (Or.inl rfl)
  | retAddr n => exact Or.inr (Or.inr (by rw [show n = 1 from eq_of_beq h]))
  | _ => cases h
theorem cvv_1 {v : Value} (h1 : isLg v = false) (h2 : knw v = true) : (cvv base b v).category = 1 := by rw [cvv_cat h2, h1]; rfl
theorem rf_of {v : Value} {o : Option Nat} (h : cvv base b (va_rf o) = v) : v = va_rf (o.map (base + ·)) := by rw [← h, cvv_rf]
theorem catS {st : List Value} (h : st.length ≤ 4) : ((st.map (cvv base b)).map fun v => v.category).sum ≤ 8 := by
  have hc : ∀ v : Value, v.category ≤ 2 := fun v => by cases v <;> simp [Value.category]
  rcases st with _ | ⟨x1, _ | ⟨x2, _ | ⟨x3, _ | ⟨x4, _ | ⟨x5, r⟩⟩⟩⟩⟩
  · simp
  · have := hc (cvv base b x1); simp; omega
  · have := hc (cvv base b x1); have := hc (cvv base b x2); simp; omega
  · have := hc (cvv base b x1); have := hc (cvv base b x2); have := hc (cvv base b x3); simp; omega
  · have := hc (cvv base b x1); have := hc (cvv base b x2); have := hc (cvv base b x3); have := hc (cvv base b x4); simp; omega
  · simp at h
theorem arrW (hT : TV s) (A : Array Value) : (Jvm.Cond.arrayClass .int).before A s = true ∧ (Jvm.Cond.arrayClass .long).before A s = true := by
  have h := arr_ok
  simp only [Bool.and_eq_true, decide_eq_true_eq] at h
  exact ⟨hT _ h.1.1 rfl A, hT _ h.1.2 rfl A⟩
set_option maxHeartbeats 8000000 in
theorem step_ok (hx : p.tables.exec = Jvm.exec) (hb : c.code = cc) {o : Nat} (hown : s.vm.findClass (cnm o) = some m.cls) (hE : EV D s) {zr ini : Bool} (hini : ini = true → meth.name = "<init>") {P : List Nat} {ip pc len : Nat} {ci a : Instr} {ls st : List Value} {h : AH} {K : TK} {KC : TKC} {KR : TKR}
    (hd : decode cc pc = .ok (ci, len)) (ha : absI o zr ini P pc ci = some a) (hlen : okLen ci len = true) (hn : isEnd ci = true ∨ P[ip + 1]? = some (pc + len)) (hpl : plainC ci = true)
    (hs : stp nA mC fty nfl sc a ip ls st h K KC KR) (hn0 : n0 ≤ ah_n h) (hu0 : u0 ≤ ah_u h) (hmon : ∀ ip ls st h', K ip ls st h' → ah_n h' ≤ n0 + R.cells ∧ ah_u h' ≤ u0 + R.slots)
    (kK : ∀ (ip' pc' : Nat) (ls' st' : List Value) (h' : AH), P[ip']? = some pc' → K ip' ls' st' h' → WA p l e R s m args below meth c Q D base b sc nL n0 u0 pc' ls' st' h') : WA p l e R s m args below meth c Q D base b sc nL n0 u0 pc ls st h := by
  have hT := hE.1
  have hjmp : ∀ {off t : Int}, jto P pc off = some t → ∀ {ls' st' : List Value} {h' : AH}, K t.toNat ls' st' h' → ∃ x : Nat, (pc : Int) + off = (x : Int) ∧ WA p l e R s m args below meth c Q D base b sc nL n0 u0 x ls' st' h' := by
    intro off t ht ls' st' h' hk
    obtain ⟨i, x, rfl, h1, h2⟩ := jto_spec ht
    exact ⟨x, h1, kK i x _ _ _ h2 hk⟩
  cases ci
  case iadd =>
    obtain rfl : Instr.iadd = a := Option.some.inj ha
    obtain rfl : len = 1 := of_decide_eq_true hlen
    have hnx := hn.resolve_left (fun q => by cases q)
    obtain ⟨y, st, rfl, hs⟩ := pI_inv hs
    obtain ⟨x, st, rfl, hs⟩ := pI_inv hs
    intro H locs lsA hr hS hl
    exact lv_iadd hx hb hd (kK _ _ _ _ _ hnx hs H locs lsA hr hS hl)
  case isub =>
    obtain rfl : Instr.isub = a := Option.some.inj ha
    obtain rfl : len = 1 := of_decide_eq_true hlen
    have hnx := hn.resolve_left (fun q => by cases q)
    obtain ⟨y, st, rfl, hs⟩ := pI_inv hs
    obtain ⟨x, st, rfl, hs⟩ := pI_inv hs
    intro H locs lsA hr hS hl
    exact lv_isub hx hb hd (kK _ _ _ _ _ hnx hs H locs lsA hr hS hl)
  case imul =>
    obtain rfl : Instr.imul = a := Option.some.inj ha
    obtain rfl : len = 1 := of_decide_eq_true hlen
    have hnx := hn.resolve_left (fun q => by cases q)
    obtain ⟨y, st, rfl, hs⟩ := pI_inv hs
    obtain ⟨x, st, rfl, hs⟩ := pI_inv hs
    intro H locs lsA hr hS hl
    exact lv_imul hx hb hd (kK _ _ _ _ _ hnx hs H locs lsA hr hS hl)
  case iand =>
    obtain rfl : Instr.iand = a := Option.some.inj ha
    obtain rfl : len = 1 := of_decide_eq_true hlen
    have hnx := hn.resolve_left (fun q => by cases q)
    obtain ⟨y, st, rfl, hs⟩ := pI_inv hs
    obtain ⟨x, st, rfl, hs⟩ := pI_inv hs
    intro H locs lsA hr hS hl
    exact lv_iand hx hb hd (kK _ _ _ _ _ hnx hs H locs lsA hr hS hl)
  case ior =>
    obtain rfl : Instr.ior = a := Option.some.inj ha
    obtain rfl : len = 1 := of_decide_eq_true hlen
    have hnx := hn.resolve_left (fun q => by cases q)
    obtain ⟨y, st, rfl, hs⟩ := pI_inv hs
    obtain ⟨x, st, rfl, hs⟩ := pI_inv hs
    intro H locs lsA hr hS hl
    exact lv_ior hx hb hd (kK _ _ _ _ _ hnx hs H locs lsA hr hS hl)
  case ixor =>
    obtain rfl : Instr.ixor = a := Option.some.inj ha
    obtain rfl : len = 1 := of_decide_eq_true hlen
    have hnx := hn.resolve_left (fun q => by cases q)
    obtain ⟨y, st, rfl, hs⟩ := pI_inv hs
    obtain ⟨x, st, rfl, hs⟩ := pI_inv hs
    intro H locs lsA hr hS hl
    exact lv_ixor hx hb hd (kK _ _ _ _ _ hnx hs H locs lsA hr hS hl)
  case ishl =>
    obtain rfl : Instr.ishl = a := Option.some.inj ha
    obtain rfl : len = 1 := of_decide_eq_true hlen
    have hnx := hn.resolve_left (fun q => by cases q)
    obtain ⟨y, st, rfl, hs⟩ := pI_inv hs
    obtain ⟨x, st, rfl, hs⟩ := pI_inv hs
    intro H locs lsA hr hS hl
    exact lv_ishl hx hb hd (kK _ _ _ _ _ hnx hs H locs lsA hr hS hl)
  case ishr =>
    obtain rfl : Instr.ishr = a := Option.some.inj ha
    obtain rfl : len = 1 := of_decide_eq_true hlen
    have hnx := hn.resolve_left (fun q => by cases q)
    obtain ⟨y, st, rfl, hs⟩ := pI_inv hs
    obtain ⟨x, st, rfl, hs⟩ := pI_inv hs
    intro H locs lsA hr hS hl
    exact lv_ishr hx hb hd (kK _ _ _ _ _ hnx hs H locs lsA hr hS hl)
  case ladd =>
    obtain rfl : Instr.ladd = a := Option.some.inj ha
    obtain rfl : len = 1 := of_decide_eq_true hlen
    have hnx := hn.resolve_left (fun q => by cases q)
    obtain ⟨y, st, rfl, hs⟩ := pL_inv hs
    obtain ⟨x, st, rfl, hs⟩ := pL_inv hs
    intro H locs lsA hr hS hl
    exact lv_ladd hx hb hd (kK _ _ _ _ _ hnx hs H locs lsA hr hS hl)
  case lsub =>
    obtain rfl : Instr.lsub = a := Option.some.inj ha
    obtain rfl : len = 1 := of_decide_eq_true hlen
    have hnx := hn.resolve_left (fun q => by cases q)
    obtain ⟨y, st, rfl, hs⟩ := pL_inv hs
    obtain ⟨x, st, rfl, hs⟩ := pL_inv hs
    intro H locs lsA hr hS hl
    exact lv_lsub hx hb hd (kK _ _ _ _ _ hnx hs H locs lsA hr hS hl)
  case land =>
    obtain rfl : Instr.land = a := Option.some.inj ha
    obtain rfl : len = 1 := of_decide_eq_true hlen
    have hnx := hn.resolve_left (fun q => by cases q)
    obtain ⟨y, st, rfl, hs⟩ := pL_inv hs
    obtain ⟨x, st, rfl, hs⟩ := pL_inv hs
    intro H locs lsA hr hS hl
    exact lv_land hx hb hd (kK _ _ _ _ _ hnx hs H locs lsA hr hS hl)
  case lor =>
    obtain rfl : Instr.lor = a := Option.some.inj ha
    obtain rfl : len = 1 := of_decide_eq_true hlen
    have hnx := hn.resolve_left (fun q => by cases q)
    obtain ⟨y, st, rfl, hs⟩ := pL_inv hs
    obtain ⟨x, st, rfl, hs⟩ := pL_inv hs
    intro H locs lsA hr hS hl
    exact lv_lor hx hb hd (kK _ _ _ _ _ hnx hs H locs lsA hr hS hl)
  case lxor =>
    obtain rfl : Instr.lxor = a := Option.some.inj ha
    obtain rfl : len = 1 := of_decide_eq_true hlen
    have hnx := hn.resolve_left (fun q => by cases q)
    obtain ⟨y, st, rfl, hs⟩ := pL_inv hs
    obtain ⟨x, st, rfl, hs⟩ := pL_inv hs
    intro H locs lsA hr hS hl
    exact lv_lxor hx hb hd (kK _ _ _ _ _ hnx hs H locs lsA hr hS hl)
  case idiv =>
    obtain rfl : Instr.idiv = a := Option.some.inj ha
    obtain rfl : len = 1 := of_decide_eq_true hlen
    have hnx := hn.resolve_left (fun q => by cases q)
    obtain ⟨y, st, rfl, hs⟩ := pI_inv hs
    obtain ⟨x, st, rfl, h0, hs⟩ := pI_inv hs
    intro H locs lsA hr hS hl
    exact lv_idiv hx hb hd h0 (kK _ _ _ _ _ hnx hs H locs lsA hr hS hl)
  case irem =>
    obtain rfl : Instr.irem = a := Option.some.inj ha
    obtain rfl : len = 1 := of_decide_eq_true hlen
    have hnx := hn.resolve_left (fun q => by cases q)
    obtain ⟨y, st, rfl, hs⟩ := pI_inv hs
    obtain ⟨x, st, rfl, h0, hs⟩ := pI_inv hs
    intro H locs lsA hr hS hl
    exact lv_irem hx hb hd h0 (kK _ _ _ _ _ hnx hs H locs lsA hr hS hl)
  case iushr =>
    obtain rfl : Instr.iushr = a := Option.some.inj ha
    obtain rfl : len = 1 := of_decide_eq_true hlen
    have hnx := hn.resolve_left (fun q => by cases q)
    obtain ⟨y, st, rfl, hs⟩ := pI_inv hs
    obtain ⟨x, st, rfl, hs⟩ := pI_inv hs
    intro H locs lsA hr hS hl
    exact lv_iushr hx hb hd rfl (kK _ _ _ _ _ hnx hs H locs lsA hr hS hl)
  case lshl =>
    obtain rfl : Instr.lshl = a := Option.some.inj ha
    obtain rfl : len = 1 := of_decide_eq_true hlen
    have hnx := hn.resolve_left (fun q => by cases q)
    obtain ⟨y, st, rfl, hs⟩ := pI_inv hs
    obtain ⟨x, st, rfl, hs⟩ := pL_inv hs
    intro H locs lsA hr hS hl
    exact lv_lshl hx hb hd rfl (kK _ _ _ _ _ hnx hs H locs lsA hr hS hl)
  case lshr =>
    obtain rfl : Instr.lshr = a := Option.some.inj ha
    obtain rfl : len = 1 := of_decide_eq_true hlen
    have hnx := hn.resolve_left (fun q => by cases q)
    obtain ⟨y, st, rfl, hs⟩ := pI_inv hs
    obtain ⟨x, st, rfl, hs⟩ := pL_inv hs
    intro H locs lsA hr hS hl
    exact lv_lshr hx hb hd rfl (kK _ _ _ _ _ hnx hs H locs lsA hr hS hl)
  case lushr =>
    obtain rfl : Instr.lushr = a := Option.some.inj ha
    obtain rfl : len = 1 := of_decide_eq_true hlen
    have hnx := hn.resolve_left (fun q => by cases q)
    obtain ⟨y, st, rfl, hs⟩ := pI_inv hs
    obtain ⟨x, st, rfl, hs⟩ := pL_inv hs
    intro H locs lsA hr hS hl
    exact lv_lushr hx hb hd rfl (kK _ _ _ _ _ hnx hs H locs lsA hr hS hl)
  case lneg =>
    obtain rfl : Instr.lneg = a := Option.some.inj ha
    obtain rfl : len = 1 := of_decide_eq_true hlen
    have hnx := hn.resolve_left (fun q => by cases q)
    obtain ⟨x, st, rfl, hs⟩ := pL_inv hs
    intro H locs lsA hr hS hl
    exact lv_lneg hx hb hd (kK _ _ _ _ _ hnx hs H locs lsA hr hS hl)
  case i2l =>
    obtain rfl : Instr.i2l = a := Option.some.inj ha
    obtain rfl : len = 1 := of_decide_eq_true hlen
    have hnx := hn.resolve_left (fun q => by cases q)
    obtain ⟨x, st, rfl, hs⟩ := pI_inv hs
    intro H locs lsA hr hS hl
    exact lv_i2l hx hb hd rfl (kK _ _ _ _ _ hnx hs H locs lsA hr hS hl)
  case l2i =>
    obtain rfl : Instr.l2i = a := Option.some.inj ha
    obtain rfl : len = 1 := of_decide_eq_true hlen
    have hnx := hn.resolve_left (fun q => by cases q)
    obtain ⟨x, st, rfl, hs⟩ := pL_inv hs
    intro H locs lsA hr hS hl
    exact lv_l2i hx hb hd rfl (kK _ _ _ _ _ hnx hs H locs lsA hr hS hl)
  case lcmp =>
    obtain rfl : Instr.lcmp = a := Option.some.inj ha
    obtain rfl : len = 1 := of_decide_eq_true hlen
    have hnx := hn.resolve_left (fun q => by cases q)
    obtain ⟨y, st, rfl, hs⟩ := pL_inv hs
    obtain ⟨x, st, rfl, hs⟩ := pL_inv hs
    intro H locs lsA hr hS hl
    exact W.lcmp hx hb hd (kK _ _ _ _ _ hnx hs H locs lsA hr hS hl)
  case aconst_null =>
    obtain rfl : Instr.aconst_null = a := Option.some.inj ha
    obtain rfl : len = 1 := of_decide_eq_true hlen
    have hnx := hn.resolve_left (fun q => by cases q)
    intro H locs lsA hr hS hl
    exact lv_null hx hb hd (kK _ _ _ _ _ hnx hs H locs lsA hr hS hl)
  case iconst n =>
    obtain rfl : (Instr.iconst n) = a := Option.some.inj ha
    obtain rfl : len = 1 := of_decide_eq_true hlen
    have hnx := hn.resolve_left (fun q => by cases q)
    intro H locs lsA hr hS hl
    exact lv_iconst hx hb hd rfl (kK _ _ _ _ _ hnx hs H locs lsA hr hS hl)
  case bipush n =>
    have ha : (if (Int8.ofInt n).toInt32 = Int32.ofInt n then some (Instr.iconst n) else none) = some a := ha
    split at ha
    · next hv =>
      obtain rfl : Instr.iconst n = a := Option.some.inj ha
      obtain rfl : len = 2 := of_decide_eq_true hlen
      have hnx := hn.resolve_left (fun q => by cases q)
      intro H locs lsA hr hS hl
      exact lv_bipush hx hb hd hv (kK _ _ _ _ _ hnx hs H locs lsA hr hS hl)
    · cases ha
  case sipush n =>
    have ha : (if (Int16.ofInt n).toInt32 = Int32.ofInt n then some (Instr.iconst n) else none) = some a := ha
    split at ha
    · next hv =>
      obtain rfl : Instr.iconst n = a := Option.some.inj ha
      obtain rfl : len = 3 := of_decide_eq_true hlen
      have hnx := hn.resolve_left (fun q => by cases q)
      intro H locs lsA hr hS hl
      exact lv_sipush hx hb hd hv (kK _ _ _ _ _ hnx hs H locs lsA hr hS hl)
    · cases ha
  case lconst n =>
    have ha : (if Int64.ofNat (n : Nat) = Int64.ofInt ((n : Nat) : Int) then some (Instr.sipush ((n : Nat) : Int)) else none) = some a := ha
    split at ha
    · next hv =>
      obtain rfl : Instr.sipush ((n : Nat) : Int) = a := Option.some.inj ha
      obtain rfl : len = 1 := of_decide_eq_true hlen
      have hnx := hn.resolve_left (fun q => by cases q)
      intro H locs lsA hr hS hl
      exact lv_lconst hx hb hd hv (kK _ _ _ _ _ hnx hs H locs lsA hr hS hl)
    · cases ha
  case ldc i =>
    obtain ⟨q, hq, rfl⟩ := Option.map_eq_some_iff.mp (show (fil o i).map _ = some a from ha)
    obtain rfl : len = 2 := of_decide_eq_true hlen
    have hnx := hn.resolve_left (fun q => by cases q)
    obtain ⟨h1, h2, h3⟩ := find_spec hq
    have h4 := List.all_eq_true.mp ilk_ok q h1
    have h5 := inT_mem h4
    rw [h2, h3] at h5
    intro H locs lsA hr hS hl
    exact lv_ldc hx hb hown (hT _ h5.1 h5.2 args) hd (kK _ _ _ _ _ hnx hs H locs lsA hr hS hl)
  case ldc_w i =>
    obtain ⟨q, hq, rfl⟩ := Option.map_eq_some_iff.mp (show (fil o i).map _ = some a from ha)
    obtain rfl : len = 3 := of_decide_eq_true hlen
    have hnx := hn.resolve_left (fun q => by cases q)
    obtain ⟨h1, h2, h3⟩ := find_spec hq
    have h4 := List.all_eq_true.mp ilk_ok q h1
    have h5 := inT_mem h4
    rw [h2, h3] at h5
    intro H locs lsA hr hS hl
    exact lv_ldcw hx hb hown (hT _ h5.1 h5.2 args) hd (kK _ _ _ _ _ hnx hs H locs lsA hr hS hl)
  case ldc2_w i =>
    obtain ⟨q, hq, rfl⟩ := Option.map_eq_some_iff.mp (show (fll o i).map _ = some a from ha)
    obtain rfl : len = 3 := of_decide_eq_true hlen
    have hnx := hn.resolve_left (fun q => by cases q)
    obtain ⟨h1, h2, h3⟩ := find_spec hq
    have h4 := List.all_eq_true.mp llk_ok q h1
    have h5 := inT_mem h4
    rw [h2, h3] at h5
    intro H locs lsA hr hS hl
    exact lv_ldc2 hx hb hown (hT _ h5.1 h5.2 args) hd (kK _ _ _ _ _ hnx hs H locs lsA hr hS hl)
  case iload k =>
    obtain rfl : (Instr.iload k) = a := Option.some.inj ha
    obtain rfl : len = 2 := of_decide_eq_true hlen
    have hnx := hn.resolve_left (fun q => by cases q)
    obtain ⟨x, r, hv, hs⟩ := pI_inv hs
    have hg := getD_is (List.cons.inj hv).1 (fun q => by cases q)
    intro H locs lsA hr hS hl
    exact lv_iload hx hb hd (hl.get hg rfl) (kK _ _ _ _ _ hnx hs H locs lsA hr hS hl)
  case iload_n k =>
    obtain rfl : (Instr.iload k.val) = a := Option.some.inj ha
    obtain rfl : len = 1 := of_decide_eq_true hlen
    have hnx := hn.resolve_left (fun q => by cases q)
    obtain ⟨x, r, hv, hs⟩ := pI_inv hs
    have hg := getD_is (List.cons.inj hv).1 (fun q => by cases q)
    intro H locs lsA hr hS hl
    exact lv_iload_n hx hb hd rfl (hl.get hg rfl) (kK _ _ _ _ _ hnx hs H locs lsA hr hS hl)
  case lload k =>
    obtain rfl : (Instr.lload k) = a := Option.some.inj ha
    obtain rfl : len = 2 := of_decide_eq_true hlen
    have hnx := hn.resolve_left (fun q => by cases q)
    obtain ⟨x, r, hv, hs⟩ := pL_inv hs
    have hg := getD_is (List.cons.inj hv).1 (fun q => by cases q)
    intro H locs lsA hr hS hl
    exact lv_lload hx hb hd (hl.get hg rfl) (kK _ _ _ _ _ hnx hs H locs lsA hr hS hl)
  case lload_n k =>
    obtain rfl : (Instr.lload k.val) = a := Option.some.inj ha
    obtain rfl : len = 1 := of_decide_eq_true hlen
    have hnx := hn.resolve_left (fun q => by cases q)
    obtain ⟨x, r, hv, hs⟩ := pL_inv hs
    have hg := getD_is (List.cons.inj hv).1 (fun q => by cases q)
    intro H locs lsA hr hS hl
    exact lv_lload_n hx hb hd rfl (hl.get hg rfl) (kK _ _ _ _ _ hnx hs H locs lsA hr hS hl)
  case aload k =>
    obtain rfl : (Instr.aload k) = a := Option.some.inj ha
    obtain rfl : len = 2 := of_decide_eq_true hlen
    have hnx := hn.resolve_left (fun q => by cases q)
    obtain ⟨hrf, hs⟩ := hs
    generalize hv : ls.getD k unk = v at hrf hs
    rcases isRf_cases hrf with ⟨x, rfl⟩ | rfl | rfl
    · have hg := getD_is hv (fun q => by cases q)
      intro H locs lsA hr hS hl
      exact lv_aload hx hb hd (hl.get hg rfl) (kK _ _ _ _ _ hnx hs H locs lsA hr hS hl)
    · have hg := getD_is hv (fun q => by cases q)
      intro H locs lsA hr hS hl
      exact lv_aloadN hx hb hd (hl.get hg rfl) (kK _ _ _ _ _ hnx hs H locs lsA hr hS hl)
    · have hg := getD_is hv (fun q => by cases q)
      intro H locs lsA hr hS hl
      exact lv_aload hx hb hd (hl.get hg rfl) (kK _ _ _ _ _ hnx hs H locs lsA hr hS hl)
  case aload_n k =>
    obtain rfl : (Instr.aload k.val) = a := Option.some.inj ha
    obtain rfl : len = 1 := of_decide_eq_true hlen
    have hnx := hn.resolve_left (fun q => by cases q)
    obtain ⟨hrf, hs⟩ := hs
    generalize hv : ls.getD k.val unk = v at hrf hs
    rcases isRf_cases hrf with ⟨x, rfl⟩ | rfl | rfl
    · have hg := getD_is hv (fun q => by cases q)
      intro H locs lsA hr hS hl
      exact lv_aload_n hx hb hd rfl (hl.get hg rfl) (kK _ _ _ _ _ hnx hs H locs lsA hr hS hl)
    · have hg := getD_is hv (fun q => by cases q)
      intro H locs lsA hr hS hl
      exact lv_aload_nN hx hb hd rfl (hl.get hg rfl) (kK _ _ _ _ _ hnx hs H locs lsA hr hS hl)
    · have hg := getD_is hv (fun q => by cases q)
      intro H locs lsA hr hS hl
      exact lv_aload_n hx hb hd rfl (hl.get hg rfl) (kK _ _ _ _ _ hnx hs H locs lsA hr hS hl)
  case istore k =>
    obtain rfl : (Instr.istore k) = a := Option.some.inj ha
    obtain rfl : len = 2 := of_decide_eq_true hlen
    have hnx := hn.resolve_left (fun q => by cases q)
    obtain ⟨x, st, rfl, hk, hs⟩ := pI_inv hs
    intro H locs lsA hr hS hl
    exact lv_istore hx hb hd hl.1 (by rw [← hl.2]; exact hk) rfl (fun lsB hl2 => kK _ _ _ _ _ hnx hs H locs lsB hr hS (LR_st1 hl rfl hl2))
  case lstore k =>
    obtain rfl : (Instr.lstore k) = a := Option.some.inj ha
    obtain rfl : len = 2 := of_decide_eq_true hlen
    have hnx := hn.resolve_left (fun q => by cases q)
    obtain ⟨x, st, rfl, hk, hs⟩ := pL_inv hs
    intro H locs lsA hr hS hl
    exact lv_lstore hx hb hd hl.1 (by rw [← hl.2]; exact hk) rfl (fun lsB hl2 => kK _ _ _ _ _ hnx hs H locs lsB hr hS (LR_st2 hl rfl hl2))
  case astore k =>
    obtain rfl : (Instr.astore k) = a := Option.some.inj ha
    obtain rfl : len = 2 := of_decide_eq_true hlen
    have hnx := hn.resolve_left (fun q => by cases q)
    obtain ⟨x, st, rfl, hk, hs⟩ := pQ_inv (F := fun x st => k < ls.length ∧ K (ip + 1) (st1 ls k (va_rf x)) st h) hs
    intro H locs lsA hr hS hl
    cases x with
    | none => exact lv_astoreN hx hb hd hl.1 (by rw [← hl.2]; exact hk) rfl (fun lsB hl2 => kK _ _ _ _ _ hnx hs H locs lsB hr hS (LR_st1 hl rfl hl2))
    | some x => exact lv_astore hx hb hd hl.1 (by rw [← hl.2]; exact hk) rfl (fun lsB hl2 => kK _ _ _ _ _ hnx hs H locs lsB hr hS (LR_st1 hl rfl hl2))
  case istore_n k =>
    obtain rfl : (Instr.istore k.val) = a := Option.some.inj ha
    obtain rfl : len = 1 := of_decide_eq_true hlen
    have hnx := hn.resolve_left (fun q => by cases q)
    obtain ⟨x, st, rfl, hk, hs⟩ := pI_inv hs
    intro H locs lsA hr hS hl
    exact lv_istore_n hx hb hd rfl hl.1 (by rw [← hl.2]; exact hk) rfl (fun lsB hl2 => kK _ _ _ _ _ hnx hs H locs lsB hr hS (LR_st1 hl rfl hl2))
  case lstore_n k =>
    obtain rfl : (Instr.lstore k.val) = a := Option.some.inj ha
    obtain rfl : len = 1 := of_decide_eq_true hlen
    have hnx := hn.resolve_left (fun q => by cases q)
    obtain ⟨x, st, rfl, hk, hs⟩ := pL_inv hs
    intro H locs lsA hr hS hl
    exact lv_lstore_n hx hb hd rfl hl.1 (by rw [← hl.2]; exact hk) rfl (fun lsB hl2 => kK _ _ _ _ _ hnx hs H locs lsB hr hS (LR_st2 hl rfl hl2))
  case astore_n k =>
    obtain rfl : (Instr.astore k.val) = a := Option.some.inj ha
    obtain rfl : len = 1 := of_decide_eq_true hlen
    have hnx := hn.resolve_left (fun q => by cases q)
    obtain ⟨x, st, rfl, hk, hs⟩ := pQ_inv (F := fun x st => k.val < ls.length ∧ K (ip + 1) (st1 ls k.val (va_rf x)) st h) hs
    intro H locs lsA hr hS hl
    cases x with
    | none => exact lv_astore_nN hx hb hd rfl hl.1 (by rw [← hl.2]; exact hk) rfl (fun lsB hl2 => kK _ _ _ _ _ hnx hs H locs lsB hr hS (LR_st1 hl rfl hl2))
    | some x => exact lv_astore_n hx hb hd rfl hl.1 (by rw [← hl.2]; exact hk) rfl (fun lsB hl2 => kK _ _ _ _ _ hnx hs H locs lsB hr hS (LR_st1 hl rfl hl2))
  case iinc k n =>
    obtain rfl : (Instr.iinc k n) = a := Option.some.inj ha
    obtain rfl : len = 3 := of_decide_eq_true hlen
    have hnx := hn.resolve_left (fun q => by cases q)
    obtain ⟨x, r, hv, hk, hs⟩ := pI_inv hs
    have hg := getD_is (List.cons.inj hv).1 (fun q => by cases q)
    intro H locs lsA hr hS hl
    obtain ⟨j, hj⟩ := List.getElem?_of_mem (lvl_mem (base := base) (b := b).mpr ⟨_, hg, rfl, rfl⟩)
    exact lv_iinc hx hb hd hl.1 hj rfl (by rw [← hl.2]; exact hk) rfl (fun lsB hl2 => kK _ _ _ _ _ hnx hs H locs lsB hr hS (LR_st1 hl rfl hl2))
  case dup =>
    obtain rfl : Instr.dup = a := Option.some.inj ha
    obtain rfl : len = 1 := of_decide_eq_true hlen
    have hnx := hn.resolve_left (fun q => by cases q)
    obtain ⟨v, st, rfl, h1, h2, hs⟩ := pV_inv hs
    intro H locs lsA hr hS hl
    exact lv_dup hx hb hd (cvv_1 h1 h2) (kK _ _ _ _ _ hnx hs H locs lsA hr hS hl)
  case pop =>
    obtain rfl : Instr.pop = a := Option.some.inj ha
    obtain rfl : len = 1 := of_decide_eq_true hlen
    have hnx := hn.resolve_left (fun q => by cases q)
    obtain ⟨v, st, rfl, h1, h2, hs⟩ := pV_inv hs
    intro H locs lsA hr hS hl
    exact lv_pop hx hb hd (cvv_1 h1 h2) (kK _ _ _ _ _ hnx hs H locs lsA hr hS hl)
  case dup2 =>
    obtain rfl : Instr.dup2 = a := Option.some.inj ha
    obtain rfl : len = 1 := of_decide_eq_true hlen
    have hnx := hn.resolve_left (fun q => by cases q)
    obtain ⟨v, st, rfl, hs⟩ := pV_inv hs
    obtain ⟨w, st, rfl, h1, h2, h3, h4, hs⟩ := pV_inv hs
    intro H locs lsA hr hS hl
    exact lv_dup2_11 hx hb hd (cvv_1 h1 h2) (cvv_1 h3 h4) (kK _ _ _ _ _ hnx hs H locs lsA hr hS hl)
  case ifCond cnd off =>
    obtain ⟨t, ht, rfl⟩ := Option.map_eq_some_iff.mp (show (jto P pc off).map _ = some a from ha)
    obtain rfl : len = 3 := of_decide_eq_true hlen
    have hnx := hn.resolve_left (fun q => by cases q)
    obtain ⟨x, st, rfl, hs⟩ := pI_inv hs
    obtain ⟨i, x', rfl, hxx, hPx⟩ := jto_spec ht
    intro H locs lsA hr hS hl
    cases cnd
    case eq => exact lv_if_eq hx hb hd hxx (fun q => kK _ _ _ _ _ hPx (hs.1 q) H locs lsA hr hS hl) (fun q => kK _ _ _ _ _ hnx (hs.2 q) H locs lsA hr hS hl)
    case ne => exact lv_if_ne hx hb hd hxx (fun q => kK _ _ _ _ _ hPx (hs.1 q) H locs lsA hr hS hl) (fun q => kK _ _ _ _ _ hnx (hs.2 (fun z => z q)) H locs lsA hr hS hl)
    case lt => exact lv_if_lt hx hb hd hxx (fun q => kK _ _ _ _ _ hPx (hs.1 q) H locs lsA hr hS hl) (fun q => kK _ _ _ _ _ hnx (hs.2 q) H locs lsA hr hS hl)
    case ge => exact lv_if_ge hx hb hd hxx (fun q => kK _ _ _ _ _ hPx (hs.1 q) H locs lsA hr hS hl) (fun q => kK _ _ _ _ _ hnx (hs.2 q) H locs lsA hr hS hl)
    case gt => exact lv_if_gt hx hb hd hxx (fun q => kK _ _ _ _ _ hPx (hs.1 q) H locs lsA hr hS hl) (fun q => kK _ _ _ _ _ hnx (hs.2 q) H locs lsA hr hS hl)
    case le => exact lv_if_le hx hb hd hxx (fun q => kK _ _ _ _ _ hPx (hs.1 q) H locs lsA hr hS hl) (fun q => kK _ _ _ _ _ hnx (hs.2 q) H locs lsA hr hS hl)
  case if_icmp cnd off =>
    obtain ⟨t, ht, rfl⟩ := Option.map_eq_some_iff.mp (show (jto P pc off).map _ = some a from ha)
    obtain rfl : len = 3 := of_decide_eq_true hlen
    have hnx := hn.resolve_left (fun q => by cases q)
    obtain ⟨y, st, rfl, hs⟩ := pI_inv hs
    obtain ⟨x, st, rfl, hs⟩ := pI_inv hs
    obtain ⟨i, x', rfl, hxx, hPx⟩ := jto_spec ht
    intro H locs lsA hr hS hl
    cases cnd
    case eq => exact lv_icmp_eq hx hb hd hxx (fun q => kK _ _ _ _ _ hPx (hs.1 q) H locs lsA hr hS hl) (fun q => kK _ _ _ _ _ hnx (hs.2 q) H locs lsA hr hS hl)
    case ne => exact lv_icmp_ne hx hb hd hxx (fun q => kK _ _ _ _ _ hPx (hs.1 q) H locs lsA hr hS hl) (fun q => kK _ _ _ _ _ hnx (hs.2 (fun z => z q)) H locs lsA hr hS hl)
    case lt => exact lv_icmp_lt hx hb hd hxx (fun q => kK _ _ _ _ _ hPx (hs.1 q) H locs lsA hr hS hl) (fun q => kK _ _ _ _ _ hnx (hs.2 q) H locs lsA hr hS hl)
    case ge => exact lv_icmp_ge hx hb hd hxx (fun q => kK _ _ _ _ _ hPx (hs.1 q) H locs lsA hr hS hl) (fun q => kK _ _ _ _ _ hnx (hs.2 q) H locs lsA hr hS hl)
    case gt => exact lv_icmp_gt hx hb hd hxx (fun q => kK _ _ _ _ _ hPx (hs.1 q) H locs lsA hr hS hl) (fun q => kK _ _ _ _ _ hnx (hs.2 q) H locs lsA hr hS hl)
    case le => exact lv_icmp_le hx hb hd hxx (fun q => kK _ _ _ _ _ hPx (hs.1 q) H locs lsA hr hS hl) (fun q => kK _ _ _ _ _ hnx (hs.2 q) H locs lsA hr hS hl)
  case ifnull off =>
    obtain ⟨t, ht, rfl⟩ := Option.map_eq_some_iff.mp (show (jto P pc off).map _ = some a from ha)
    obtain rfl : len = 3 := of_decide_eq_true hlen
    have hnx := hn.resolve_left (fun q => by cases q)
    obtain ⟨x, st, rfl, hs⟩ := pQ_inv (F := fun x st => (x = none → K t.toNat ls st h) ∧ (¬ x = none → K (ip + 1) ls st h)) hs
    obtain ⟨i, x', rfl, hxx, hPx⟩ := jto_spec ht
    intro H locs lsA hr hS hl
    cases x with
    | none => exact lv_ifnullN hx hb hd hxx (kK _ _ _ _ _ hPx (hs.1 rfl) H locs lsA hr hS hl)
    | some x => exact lv_ifnull hx hb hd (kK _ _ _ _ _ hnx (hs.2 (fun q => by cases q)) H locs lsA hr hS hl)
  case goto off =>
    obtain ⟨t, ht, rfl⟩ := Option.map_eq_some_iff.mp (show (jto P pc off).map _ = some a from ha)
    obtain rfl : len = 3 := of_decide_eq_true hlen
    obtain ⟨i, x', rfl, hxx, hPx⟩ := jto_spec ht
    intro H locs lsA hr hS hl
    exact lv_goto hx hb hd hxx (kK _ _ _ _ _ hPx hs H locs lsA hr hS hl)
  case tableswitch d lo hi os =>
    have ha : (match jto P pc d, jtos P pc os.toList with
      | some t, some r => some (Instr.tableswitch t lo hi r.toArray)
      | _, _ => none) = some a := ha
    cases ht : jto P pc d with
    | none => rw [ht] at ha; cases ha
    | some t =>
      cases hr' : jtos P pc os.toList with
      | none => rw [ht, hr'] at ha; cases ha
      | some r =>
        rw [ht, hr'] at ha
        obtain rfl : Instr.tableswitch t lo hi r.toArray = a := Option.some.inj ha
        obtain ⟨x, st, rfl, hs⟩ := pI_inv hs
        by_cases h1 : x.toInt < lo ∨ hi < x.toInt
        · obtain ⟨i, x', rfl, hxx, hPx⟩ := jto_spec ht
          intro H locs lsA hr hS hl
          exact lv_tableOut hx hb hd h1 hxx (kK _ _ _ _ _ hPx (hs.1 h1) H locs lsA hr hS hl)
        · have n1 : ¬ x.toInt < lo := fun z => h1 (Or.inl z)
          have n2 : ¬ hi < x.toInt := fun z => h1 (Or.inr z)
          obtain ⟨t2, e2, hs2⟩ := hs.2 n1 n2
          obtain ⟨off, q1, q2⟩ := jtos_spec os.toList r hr' _ _ (by simpa using e2)
          obtain ⟨i, x', rfl, hxx, hPx⟩ := jto_spec q2
          intro H locs lsA hr hS hl
          exact lv_tableIn hx hb hd n1 n2 (by simpa using q1) hxx (kK _ _ _ _ _ hPx hs2 H locs lsA hr hS hl)
  case getfield i =>
    obtain ⟨q, hq, rfl⟩ := Option.map_eq_some_iff.mp (show (ffl o i).map _ = some a from ha)
    obtain rfl : len = 3 := of_decide_eq_true hlen
    have hnx := hn.resolve_left (fun q => by cases q)
    obtain ⟨x, st, rfl, hk, hs⟩ := pA_inv hs
    have h7 := (flk_at hq).2.2.2.2.2.2
    rw [show (q.2.2.1 * 100 + q.2.2.2.1) / 100 = q.2.2.1 by omega] at hk hs
    rw [show (q.2.2.1 * 100 + q.2.2.2.1) % 100 = q.2.2.2.1 by omega] at hs
    exact WA.getf hx hb hown hE hq hd hk (kK _ _ _ _ _ hnx hs)
  case putfield i =>
    have ha : (match ffl o i with
      | some e => if (cTb e.2.2.1 e.2.2.2.1).2.2.2 = true → (ini = true ∧ e.2.2.1 = o ∧ e.2.2.2.2.1 = false) then some (Instr.putfield (e.2.2.1 * 100 + e.2.2.2.1)) else none
      | none => none) = some a := ha
    cases hq : ffl o i with
    | none => rw [hq] at ha; cases ha
    | some q =>
      rw [hq] at ha
      dsimp only at ha
      split at ha
      · next hfin =>
        obtain rfl : Instr.putfield (q.2.2.1 * 100 + q.2.2.2.1) = a := Option.some.inj ha
        obtain rfl : len = 3 := of_decide_eq_true hlen
        have hnx := hn.resolve_left (fun q => by cases q)
        obtain ⟨-, -, -, -, h5, h6, h7⟩ := flk_at hq
        have hs : stp nA mC fty nfl sc (Instr.putfield (q.2.2.1 * 100 + q.2.2.2.1)) ip ls st h K KC KR := hs
        have e1 : (q.2.2.1 * 100 + q.2.2.2.1) / 100 = q.2.2.1 := by omega
        have e2 : (q.2.2.1 * 100 + q.2.2.2.1) % 100 = q.2.2.2.1 := by omega
        have hs : fput (fty q.2.2.1 q.2.2.2.1) st h q.2.2.2.1 fun a st h => ah_k h a = q.2.2.1 ∧ K (ip + 1) ls st h := by
          have hs' : fput (fty ((q.2.2.1 * 100 + q.2.2.2.1) / 100) ((q.2.2.1 * 100 + q.2.2.2.1) % 100)) st h ((q.2.2.1 * 100 + q.2.2.2.1) % 100) fun a st h => ah_k h a = (q.2.2.1 * 100 + q.2.2.2.1) / 100 ∧ K (ip + 1) ls st h := hs
          rwa [e1, e2] at hs'
        have hfin2 : (cTb q.2.2.1 q.2.2.2.1).2.2.2 = true → meth.name = "<init>" ∧ q.2.2.1 = o ∧ q.2.2.2.2.1 = false := fun z => ⟨hini (hfin z).1, (hfin z).2⟩
        have hf := fun v => fits_c (cl := q.2.2.1) (k := q.2.2.2.1) h5 h6 v
        generalize hty : fty q.2.2.1 q.2.2.2.1 = ty at hs hf
        unfold fput at hs
        split at hs
        · obtain ⟨v, st, rfl, hs⟩ := pI_inv hs
          obtain ⟨x, st, rfl, hk, hs⟩ := pA_inv hs
          refine WA.putf (v := .int v) (h2 := ap_i h x q.2.2.2.1 v) hx hb hown hE hq hd hk hfin2 (hf _ ⟨v, rfl⟩) rfl rfl rfl put_other ?_ (fun j hj => ?_) (kK _ _ _ _ _ hnx hs)
          · rw [hty]; show Value.int (ah_i (ap_i h x _ v) x _) = _; rw [ap_i_at, if_pos rfl]
          · unfold fvl; rw [ap_i_at, if_neg hj]; rfl
        · obtain ⟨v, st, rfl, hs⟩ := pL_inv hs
          obtain ⟨x, st, rfl, hk, hs⟩ := pA_inv hs
          refine WA.putf (v := .long v) (h2 := ap_l h x q.2.2.2.1 v) hx hb hown hE hq hd hk hfin2 (hf _ ⟨v, rfl⟩) rfl rfl rfl put_otherL ?_ (fun j hj => ?_) (kK _ _ _ _ _ hnx hs)
          · rw [hty]; show Value.long (ah_l (ap_l h x _ v) x _) = _; rw [ap_l_at, if_pos rfl]
          · unfold fvl; rw [ap_l_at, if_neg hj]; rfl
        · obtain ⟨v, st2, est, hs2⟩ := pQ_inv (F := fun v st => pA st fun a st => ah_k (ap_r h a q.2.2.2.1 v) a = q.2.2.1 ∧ K (ip + 1) ls st (ap_r h a q.2.2.2.1 v)) hs
          subst est
          obtain ⟨x, st, rfl, hk, hs⟩ := pA_inv hs2
          refine WA.putf (v := va_rf v) (h2 := ap_r h x q.2.2.2.1 v) hx hb hown hE hq hd hk hfin2 (hf _ ⟨v.map (base + ·), cvv_rf v⟩) rfl rfl rfl put_otherR ?_ (fun j hj => ?_) (kK _ _ _ _ _ hnx hs)
          · rw [hty]; show va_rf (ah_r (ap_r h x _ v) x _) = _; rw [ap_r_at, if_pos rfl]
          · unfold fvl; rw [ap_r_at, if_neg hj]; rfl
        · next hn0' hn1' hn2' =>
          obtain ⟨v, st, rfl, hv, hs⟩ := pI_inv hs
          obtain ⟨x, st, rfl, hk, hs⟩ := pA_inv hs
          refine WA.putf (v := .int v) (h2 := ap_i h x q.2.2.2.1 v) hx hb hown hE hq hd hk hfin2 (hf _ ?_) rfl rfl rfl put_other ?_ (fun j hj => ?_) (kK _ _ _ _ _ hnx hs)
          · split
            · exact ⟨v, rfl⟩
            · exact absurd rfl hn1'
            · exact absurd rfl hn2'
            · exact ⟨v, rfl, hv⟩
          · rw [hty]; unfold fvl
            split
            · exact absurd rfl hn1'
            · exact absurd rfl hn2'
            · rw [ap_i_at, if_pos rfl]
          · unfold fvl; rw [ap_i_at, if_neg hj]; rfl
      · cases ha
  case iaload =>
    obtain rfl : Instr.iaload = a := Option.some.inj ha
    obtain rfl : len = 1 := of_decide_eq_true hlen
    have hnx := hn.resolve_left (fun q => by cases q)
    obtain ⟨i, st, rfl, hs⟩ := pI_inv hs
    obtain ⟨v, st, rfl, hs⟩ := pV_inv hs
    cases v with
    | ref x => exact WA.iald hx hb hd hs.1 hs.2.1 (kK _ _ _ _ _ hnx hs.2.2)
    | retAddr z =>
      match z, hs with
      | 1, hs => exact WA.sld hx hb hd hs.1 (kK _ _ _ _ _ hnx hs.2)
      | 0, hs => exact hs.elim
      | z + 2, hs => exact hs.elim
    | _ => exact hs.elim
  case laload =>
    obtain rfl : Instr.laload = a := Option.some.inj ha
    obtain rfl : len = 1 := of_decide_eq_true hlen
    have hnx := hn.resolve_left (fun q => by cases q)
    obtain ⟨i, st, rfl, hs⟩ := pI_inv hs
    obtain ⟨x, st, rfl, h1, h2, hs⟩ := pA_inv hs
    exact WA.lald hx hb hd h1 h2 (kK _ _ _ _ _ hnx hs)
  case baload =>
    obtain rfl : Instr.baload = a := Option.some.inj ha
    obtain rfl : len = 1 := of_decide_eq_true hlen
    have hnx := hn.resolve_left (fun q => by cases q)
    obtain ⟨i, st, rfl, hs⟩ := pI_inv hs
    obtain ⟨x, st, rfl, h1, h2, hs⟩ := pA_inv hs
    exact WA.zald hx hb hd h1 h2 (kK _ _ _ _ _ hnx hs)
  case aaload =>
    obtain rfl : Instr.aaload = a := Option.some.inj ha
    obtain rfl : len = 1 := of_decide_eq_true hlen
    have hnx := hn.resolve_left (fun q => by cases q)
    obtain ⟨i, st, rfl, hs⟩ := pI_inv hs
    obtain ⟨x, st, rfl, h1, h2, hs⟩ := pA_inv hs
    exact WA.aald hx hb hd h1 h2 (kK _ _ _ _ _ hnx hs)
  case iastore =>
    obtain rfl : Instr.iastore = a := Option.some.inj ha
    obtain rfl : len = 1 := of_decide_eq_true hlen
    have hnx := hn.resolve_left (fun q => by cases q)
    obtain ⟨v, st, rfl, hs⟩ := pI_inv hs
    obtain ⟨i, st, rfl, hs⟩ := pI_inv hs
    obtain ⟨x, st, rfl, h1, h2, hs⟩ := pA_inv hs
    exact WA.iast hx hb hd h1 h2 (kK _ _ _ _ _ hnx hs)
  case bastore =>
    obtain rfl : Instr.bastore = a := Option.some.inj ha
    obtain rfl : len = 1 := of_decide_eq_true hlen
    have hnx := hn.resolve_left (fun q => by cases q)
    obtain ⟨v, st, rfl, hs⟩ := pI_inv hs
    obtain ⟨i, st, rfl, hs⟩ := pI_inv hs
    obtain ⟨x, st, rfl, h1, h2, h3, hs⟩ := pA_inv hs
    exact WA.zast hx hb hd h1 h2 h3 (kK _ _ _ _ _ hnx hs)
  case lastore =>
    obtain rfl : Instr.lastore = a := Option.some.inj ha
    obtain rfl : len = 1 := of_decide_eq_true hlen
    have hnx := hn.resolve_left (fun q => by cases q)
    obtain ⟨v, st, rfl, hs⟩ := pL_inv hs
    obtain ⟨i, st, rfl, hs⟩ := pI_inv hs
    obtain ⟨x, st, rfl, h1, h2, hs⟩ := pA_inv hs
    exact WA.last hx hb hd h1 h2 (kK _ _ _ _ _ hnx hs)
  case aastore =>
    obtain rfl : Instr.aastore = a := Option.some.inj ha
    obtain rfl : len = 1 := of_decide_eq_true hlen
    have hnx := hn.resolve_left (fun q => by cases q)
    obtain ⟨v, st2, est, hs2⟩ := pQ_inv (F := fun v st => pI st fun i st => pA st fun a st => ah_k h a = 23 ∧ vp_in i (ah_z h a) ∧ (∀ q, v = some q → ah_k h q = 8) ∧ K (ip + 1) ls st (ap_r h a i.toNatClampNeg v)) hs
    subst est
    obtain ⟨i, st3, est, hs3⟩ := pI_inv hs2
    subst est
    obtain ⟨x, st4, est, h1, h2, h3, hs4⟩ := pA_inv hs3
    subst est
    exact WA.aast hx hb hE hd h1 h2 h3 (kK _ _ _ _ _ hnx hs4)
  case arraylength =>
    obtain rfl : Instr.arraylength = a := Option.some.inj ha
    obtain rfl : len = 1 := of_decide_eq_true hlen
    have hnx := hn.resolve_left (fun q => by cases q)
    obtain ⟨v, st, rfl, hs⟩ := pV_inv hs
    cases v with
    | ref x => exact WA.alen hx hb hd hs.1 hs.2.1 (kK _ _ _ _ _ hnx hs.2.2)
    | retAddr z =>
      match z, hs with
      | 1, hs => exact WA.slen hx hb hd (kK _ _ _ _ _ hnx hs)
      | 0, hs => exact hs.elim
      | z + 2, hs => exact hs.elim
    | _ => exact hs.elim
  case newarray t =>
    have ht2 : t = .int ∨ t = .long := by cases t <;> first | exact Or.inl rfl | exact Or.inr rfl | cases ha
    obtain rfl : (Instr.newarray t) = a := by rcases ht2 with rfl | rfl <;> exact Option.some.inj ha
    obtain rfl : len = 2 := of_decide_eq_true hlen
    have hnx := hn.resolve_left (fun q => by cases q)
    obtain ⟨n, st, rfl, h1, h2, h3, hs⟩ := pI_inv hs
    have hm := hmon _ _ _ _ hs
    exact WA.newa hx hb (fun A => arrW hT A) hd ht2 h2 h3 hn0 hu0 hm.1 hm.2 (kK _ _ _ _ _ hnx hs)
  case anewarray i =>
    have ha : (match fnl o i with
      | some e => if e.2.2.1 = 8 then some (Instr.anewarray 0) else none
      | none => none) = some a := ha
    cases hq : fnl o i with
    | none => rw [hq] at ha; cases ha
    | some q =>
      rw [hq] at ha
      dsimp only at ha
      split at ha
      · next h8 =>
        obtain rfl : Instr.anewarray 0 = a := Option.some.inj ha
        obtain rfl : len = 3 := of_decide_eq_true hlen
        have hnx := hn.resolve_left (fun q => by cases q)
        obtain ⟨n, st, rfl, h2, h3, hs⟩ := pI_inv hs
        have hm := hmon _ _ _ _ hs
        obtain ⟨g1, g2, g3, g4, -⟩ := nlk_at hq
        rw [g1, g2, h8] at g3 g4
        exact WA.newq hx hb hown hE (hT _ g3 g4 _) hd h2 h3 hn0 hu0 hm.1 hm.2 (kK _ _ _ _ _ hnx hs)
      · cases ha
  case new i =>
    obtain ⟨q, hq, rfl⟩ := Option.map_eq_some_iff.mp (show (fnl o i).map _ = some a from ha)
    obtain rfl : len = 3 := of_decide_eq_true hlen
    have hnx := hn.resolve_left (fun q => by cases q)
    have hm := hmon _ _ _ _ hs
    exact WA.newo hx hb hown hE hq hd hn0 hu0 hm.1 hm.2 rfl (kK _ _ _ _ _ hnx hs)
  case ireturn => cases hpl
  case lreturn => cases hpl
  case areturn => cases hpl
  case return_ => cases hpl
  case invokevirtual => cases hpl
  case invokestatic => cases hpl
  case invokespecial => cases hpl
  all_goals cases ha
end STEP
