theorem MTB_len : MTB.length = 283 := by decide +kernel
theorem chk1_spec {o : Nat} {zr ini : Bool} {bb : ByteArray} {P : List Nat} {pc : Nat} {a : Instr} {nx : Option Nat} (h : chk1 o zr ini bb P pc a nx = true) : a = .nop ∨ (∃ E x, a = .ldc E ∧ thrT bb pc o E = some x) ∨ ∃ ci len, decode bb pc = .ok (ci, len) ∧ absI o zr ini P pc ci = some a ∧ okLen ci len = true ∧ (isEnd ci = true ∨ nx = some (pc + len)) := by
  unfold chk1 at h
  split at h
  · exact Or.inl rfl
  · next E =>
    obtain ⟨x, hx⟩ := Option.isSome_iff_exists.mp h
    exact Or.inr (Or.inl ⟨E, x, rfl, hx⟩)
  · split at h
    · next ci len hd =>
      simp only [Bool.and_eq_true, Bool.or_eq_true, decide_eq_true_eq] at h
      exact Or.inr (Or.inr ⟨ci, len, hd, h.1.1, h.1.2, h.2⟩)
    · cases h
def QcR (D : va_G) (base b : Nat) (sc : (Nat → Int32) × Nat) (r : Rs) (h1 : AH) : Array Value → State → Outcome → State → Prop := match r with
  | .inl v => QRet D base b sc v h1
  | .inr _ => fun _ _ _ _ => False
def XcR (D : va_G) (base b : Nat) (sc : (Nat → Int32) × Nat) (r : Rs) (h1 : AH) : String → State → State → Prop := match r with
  | .inl _ => fun _ _ _ => False
  | .inr E => XRet D base b sc E h1
/-- runs over this claim's tables -/
abbrev SRx (sc : (Nat → Int32) × Nat) (d mi n ip : Nat) (ls st : List Value) (h : AH) (r : Rs) (h' : AH) : Prop := SR nA mC fty nfl sc mT (cdo mi) (hdX mi) (Rn nA mC fty nfl sc mT mL cdo hdX d) n ip ls st h r h'
abbrev Rx (sc : (Nat → Int32) × Nat) (d mi : Nat) (as : List Value) (h : AH) (r : Rs) (h' : AH) : Prop := Rn nA mC fty nfl sc mT mL cdo hdX d mi as h r h'
section RUN
variable {p : Program} {l : Launch} {e : Env} {R : Room} {s : State} {m : MethodId} {args : Array Value} {below : List Frame} {meth : Method} {c : Code} {Q : State → Prop} {cc : ByteArray}
variable {D : va_G} {base b : Nat} {sc : (Nat → Int32) × Nat} {nL n0 u0 : Nat}
theorem retQ {H : Heap} {locs : List Loc} {h : AH} (hr : HV D base b sc s H h) (hS : va_S (fun q => base ≤ q) s.heap H locs) {v : Option Value} {w : Option Value} (hw : w = v.map (cvv base b)) : ∀ t : State, t.heap = H → s.WarmedH t.vm → QRet D base b sc v h args s (.returned w) t := by
  intro t ht hW
  subst hw
  exact ⟨rfl, by rw [ht]; exact hr.moved hW.alike, by rw [ht]; exact hS.1, fun q h1 h2 => by rw [ht]; exact hS.2.1 q h1 h2⟩
def IHd (l : Launch) (D : va_G) (base b : Nat) (sc : (Nat → Int32) × Nat) (d : Nat) : Prop := ∀ (mi : Nat) (as : List Value) (h : AH) (r : Rs) (h1 : AH), mi < 281 → mi ≠ LAWN → (∀ v ∈ as, knw v = true) → Rx sc d mi as h r h1 → MET l D base b sc d mi as h r h1
/-- the invokes of any code of the tables' (K, what is behind the call) -/
theorem inv_ok (hx : p.tables.exec = Jvm.exec) (hb : c.code = cc) (hml : c.maxLocals = nL) {o : Nat} (hown : s.vm.findClass (cnm o) = some m.cls) (hE : EV D s) {zr ini : Bool} {P : List Nat} {ip pc len d : Nat} {ci a : Instr} {ls st : List Value} {h : AH} {K : TK} {KC : TKC} {KR : TKR}
    (hRf : d + 7 ≤ R.frames) (hRl : 160 + 60 * d ≤ R.locals)
    (hd : decode cc pc = .ok (ci, len)) (ha : absI o zr ini P pc ci = some a) (hlen : okLen ci len = true) (hn : isEnd ci = true ∨ P[ip + 1]? = some (pc + len))
    (hci : (∃ i, ci = .invokevirtual i) ∨ (∃ i, ci = .invokestatic i) ∨ ∃ i, ci = .invokespecial i)
    (hs : stp nA mC fty nfl sc a ip ls st h K KC KR) (hn0 : n0 ≤ ah_n h) (hu0 : u0 ≤ ah_u h) (hmon : ∀ ip ls st h', K ip ls st h' → ah_n h' ≤ n0 + R.cells ∧ ah_u h' ≤ u0 + R.slots)
    (kK : ∀ (ip' pc' : Nat) (ls' st' : List Value) (h' : AH), P[ip']? = some pc' → K ip' ls' st' h' → WA p l e R s m args below meth c Q D base b sc nL n0 u0 pc' ls' st' h')
    (kC : ∀ (mi : Nat) (as rest : List Value), mi < 281 → mi ≠ LAWN → (∀ v ∈ as, knw v = true) → P[ip + 1]? = some (pc + 3) → KC mi as rest → GoC p l e R s m args below meth c Q D base b sc nL n0 u0 d pc ls h mi as rest) : WA p l e R s m args below meth c Q D base b sc nL n0 u0 pc ls st h := by
  rcases hci with ⟨i, rfl⟩ | ⟨i, rfl⟩ | ⟨i, rfl⟩
  · obtain rfl : len = 3 := of_decide_eq_true hlen
    have hnx := hn.resolve_left (fun q => by cases q)
    have ha : (match fcl o i with
      | some e => if e.2.2.2.1 = 0 then some (Instr.invokevirtual e.2.2.1) else none
      | none => none) = some a := ha
    cases hq : fcl o i with
    | none => rw [hq] at ha; cases ha
    | some q =>
      rw [hq] at ha
      dsimp only at ha
      split at ha
      · next h0 =>
        obtain rfl : Instr.invokevirtual q.2.2.1 = a := Option.some.inj ha
        obtain ⟨l', rest, e1, e2, hk, hs⟩ := popA_inv _ _ _ _ hs
        obtain ⟨a0, As, e3, h1, h2, h3⟩ := pA_inv hs
        rw [List.append_nil] at e3 h3
        rw [e3] at e1 e2 hk h3
        subst e2
        have hmem := clk_at hq
        have k6 := List.all_eq_true.mp clk2_ok q hmem.1
        simp only [Bool.and_eq_true, Bool.or_eq_true, decide_eq_true_eq] at k6
        have hmi : q.2.2.1 < 281 := k6.1.1.1.1.1.1.resolve_left (by omega)
        exact callV_ok hx hb hml hown hE hRf hRl hq h0 hd (by rw [← e1]; rfl) h1 h2 hn0 hu0 (kC _ _ _ hmi hmem.2.2.2.2.2 hk hnx h3)
      · cases ha
  · obtain rfl : len = 3 := of_decide_eq_true hlen
    have hnx := hn.resolve_left (fun q => by cases q)
    have ha : (match fcl o i with
      | some e => if e.2.2.1 = MAXN then some Instr.i2c else if e.2.2.1 = MINN then some .i2s else if e.2.2.2.1 = 1 ∨ e.2.2.2.1 = 3 then some (Instr.invokestatic e.2.2.1) else none
      | none => none) = some a := ha
    cases hq : fcl o i with
    | none => rw [hq] at ha; cases ha
    | some q =>
      rw [hq] at ha
      dsimp only at ha
      obtain ⟨hmem, f1, f2, f3, f4, f5⟩ := clk_at hq
      have k6 := List.all_eq_true.mp clk2_ok q hmem
      simp only [Bool.and_eq_true, Bool.or_eq_true, decide_eq_true_eq] at k6
      have hlk : q.2.2.2.1 = 1 → (Jvm.Cond.methodLink (cnm o) i (mrow q.2.2.1).1).before args s = true := by
        intro z
        have := hE.1 _ f3 f4 args
        unfold clW at this
        rwa [if_pos (by omega), f1, f2] at this
      obtain ⟨m1, m2, m3, m4, m5, m6, m7⟩ := math_ok
      by_cases g1 : q.2.2.1 = MAXN
      · rw [if_pos g1] at ha
        obtain rfl : Instr.i2c = a := Option.some.inj ha
        have hk1 : q.2.2.2.1 = 1 := k6.1.1.1.1.1.1.resolve_right (by rw [g1]; decide)
        have hlk := hlk hk1
        rw [g1, m1] at hlk
        obtain ⟨y, st, rfl, hs⟩ := pI_inv hs
        obtain ⟨x, st, rfl, h4, hs⟩ := pI_inv hs
        intro H locs lsA hr hS hl
        have hm := hmon _ _ _ _ hs
        have hsum := catS (base := base) (b := b) h4
        exact va_mmax hx hb (hml.trans hl.1.1.symm) hown hlk (hE.1 _ (inT_mem m4).1 (inT_mem m4).2 _) (hE.1 _ (inT_mem m3).1 (inT_mem m3).2 _) (hE.1 _ (inT_mem m6).1 (inT_mem m6).2 _) (by omega) (by omega) (by omega) (by omega) hd (kK _ _ _ _ _ hnx hs H locs lsA hr hS hl)
      · rw [if_neg g1] at ha
        by_cases g2 : q.2.2.1 = MINN
        · rw [if_pos g2] at ha
          obtain rfl : Instr.i2s = a := Option.some.inj ha
          have hk1 : q.2.2.2.1 = 1 := k6.1.1.1.1.1.1.resolve_right (by rw [g2]; decide)
          have hlk := hlk hk1
          rw [g2, m2] at hlk
          obtain ⟨y, st, rfl, hs⟩ := pI_inv hs
          obtain ⟨x, st, rfl, h4, hs⟩ := pI_inv hs
          intro H locs lsA hr hS hl
          have hm := hmon _ _ _ _ hs
          have hsum := catS (base := base) (b := b) h4
          exact va_mmin hx hb (hml.trans hl.1.1.symm) hown hlk (hE.1 _ (inT_mem m5).1 (inT_mem m5).2 _) (hE.1 _ (inT_mem m3).1 (inT_mem m3).2 _) (hE.1 _ (inT_mem m7).1 (inT_mem m7).2 _) (by omega) (by omega) (by omega) (by omega) hd (kK _ _ _ _ _ hnx hs H locs lsA hr hS hl)
        · rw [if_neg g2] at ha
          split at ha
          · next h0 =>
            obtain rfl : Instr.invokestatic q.2.2.1 = a := Option.some.inj ha
            obtain ⟨l', rest, e1, e2, hk, h2, h3⟩ := popA_inv _ _ _ _ hs
            rw [List.append_nil] at h3
            subst e2
            have hmi : q.2.2.1 < 281 := by
              have h5 := List.all_eq_true.mp clk_ok q hmem
              simp only [Bool.and_eq_true, decide_eq_true_eq] at h5
              have h6 := h5.1.2
              rw [MTB_len] at h6
              have g1 : ¬ q.2.2.1 = 281 := g1
              have g2 : ¬ q.2.2.1 = 282 := g2
              omega
            rcases h0 with h0 | h0
            · exact callS_ok hx hb hml hown hE hRf hRl hq h0 hmi hd e1 h2 hn0 hu0 (kC _ _ _ hmi f5 hk hnx h3)
            · exact callSN_ok hx hb hml hown hE hRf hRl hq h0 hmi hd e1 h2 hn0 hu0 (kC _ _ _ hmi f5 hk hnx h3)
          · cases ha
  · obtain rfl : len = 3 := of_decide_eq_true hlen
    have hnx := hn.resolve_left (fun q => by cases q)
    have ha : (match fol o i with
      | some _ => some Instr.monitorenter
      | none => match fcl o i with
        | some e => if e.2.2.2.1 = 2 ∨ e.2.2.2.1 = 4 then some (Instr.invokespecial e.2.2.1) else none
        | none => none) = some a := ha
    cases hf : fol o i with
    | some q =>
      rw [hf] at ha
      obtain rfl : Instr.monitorenter = a := Option.some.inj ha
      obtain ⟨g1, g2, g3⟩ := find_spec hf
      have g4 := inT_mem (List.all_eq_true.mp olk_ok q g1)
      rw [g2, g3] at g4
      obtain ⟨x, st, rfl, h4, hs⟩ := pA_inv hs
      have ho := obj_ok
      simp only [Bool.and_eq_true, decide_eq_true_eq] at ho
      intro H locs lsA hr hS hl
      have hsum := catS (base := base) (b := b) h4
      exact W.objInit hx hb hown (hE.1 _ g4.1 g4.2 _) (hE.1 _ ho.1.1.1 ho.1.2 _) (hE.1 _ ho.1.1.2 ho.2 _) rfl (hl.1.1.trans hml.symm) rfl hd (by omega) (by show 2 * 0 + _ + 12 ≤ _; omega) (kK _ _ _ _ _ hnx hs H locs lsA hr hS hl)
    | none =>
      rw [hf] at ha
      dsimp only at ha
      cases hq : fcl o i with
      | none => rw [hq] at ha; cases ha
      | some q =>
        rw [hq] at ha
        dsimp only at ha
        split at ha
        · next h0 =>
          obtain rfl : Instr.invokespecial q.2.2.1 = a := Option.some.inj ha
          obtain ⟨l', rest, e1, e2, hk, hs⟩ := popA_inv _ _ _ _ hs
          obtain ⟨a0, As, e3, h2, h3⟩ := pA_inv hs
          rw [List.append_nil] at e3 h3
          rw [e3] at e1 e2 hk h3
          subst e2
          obtain ⟨hmem, f1, f2, f3, f4, f5⟩ := clk_at hq
          have k6 := List.all_eq_true.mp clk2_ok q hmem
          simp only [Bool.and_eq_true, Bool.or_eq_true, decide_eq_true_eq] at k6
          have hmi : q.2.2.1 < 281 := k6.1.1.1.1.1.1.resolve_left (by omega)
          rcases h0 with h0 | h0
          · exact callI_ok hx hb hml hown hE hRf hRl hq h0 hmi hd (by rw [← e1]; rfl) h2 hn0 hu0 (kC _ _ _ hmi f5 hk hnx h3)
          · exact callIN_ok hx hb hml hown hE hRf hRl hq h0 hmi hd (by rw [← e1]; rfl) h2 hn0 hu0 (kC _ _ _ hmi f5 hk hnx h3)
        · cases ha
end RUN
