section RUN2
variable {p : Program} {l : Launch} {e : Env} {R : Room} {s : State} {m : MethodId} {args : Array Value} {below : List Frame} {meth : Method} {c : Code} {Q : State → Prop} {cc : ByteArray}
variable {D : va_G} {base b : Nat} {sc : (Nat → Int32) × Nat} {nL n0 u0 : Nat}
theorem SRx_le {d mi n ip : Nat} {ls st : List Value} {h : AH} {r : Rs} {h' : AH} (H : SRx sc d mi n ip ls st h r h') : hle h h' := SR_le (fun mi as h r h' q => Rn_le d mi as h r h' q) _ _ _ _ _ _ _ H
theorem ppo_at {mi : Nat} (hw : MW mi) {ip : Nat} {a : Instr} (hi : cdo mi ip = some a) {pc : Nat} (hp : (ppo mi)[ip]? = some pc) : chk1 (mC mi) (isZr (mrow mi).2.2.2.1) (decide ((mrow mi).1.name = "<init>")) (mrow mi).2.1 (ppo mi) pc a (ppo mi)[ip + 1]? = true := by
  obtain ⟨pc', h1, h2⟩ := chkA_get _ _ hw.2.2.2.2.2.2.2.2.2.2 ip a hi
  cases h1.symm.trans hp
  exact h2
theorem narZ {x : Int32} (h : x = 0 ∨ x = 1) : narrow .boolean (.int x) = .int x := by rcases h with rfl | rfl <;> rfl
/-- the returns -/
theorem ret_ok (hx : p.tables.exec = Jvm.exec) (hb : c.code = cc) {rt : Option FieldType} (hret : meth.sig.returnType = rt) (hlocks : meth.locks = false) {o : Nat} {ini : Bool} {P : List Nat} {ip pc len : Nat} {ci a : Instr} {ls st : List Value} {h : AH} {K : TK} {KC : TKC} {r : Rs} {h' : AH}
    (hd : decode cc pc = .ok (ci, len)) (ha : absI o (isZr rt) ini P pc ci = some a) (hlen : okLen ci len = true) (hci : ci = .ireturn ∨ ci = .lreturn ∨ ci = .areturn ∨ ci = .return_)
    (hs : stp nA mC fty nfl sc a ip ls st h K KC (fun r0 h0 => r = r0 ∧ h' = h0)) (hgood : (ci = .ireturn → rt = some .int ∨ rt = some .boolean) ∧ (ci = .lreturn → rt = some .long) ∧ (ci = .areturn → (∃ n, rt = some (.object n)) ∨ ∃ t, rt = some (.array t)) ∧ (ci = .return_ → rt = none)) :
    WA p l e R s m args below meth c (vx_MQ below (QcR D base b sc r h') (XcR D base b sc r h') args s (ah_n h' - n0) (ah_u h' - u0) (fun q => base ≤ q)) D base b sc nL n0 u0 pc ls st h := by
  obtain ⟨gi, gl, ga, gv⟩ := hgood
  rcases hci with rfl | rfl | rfl | rfl
  · obtain rfl : len = 1 := of_decide_eq_true hlen
    rcases gi rfl with rfl | rfl
    · obtain rfl : Instr.ireturn = a := Option.some.inj ha
      obtain ⟨x, r0, rfl, hs⟩ := pI_inv hs
      obtain ⟨rfl, rfl, rfl⟩ := pE_inv hs
      intro H locs lsA hr hS hl
      exact vx_ret (W.iret hx hb hret (retQ (v := some (.int x)) hr hS rfl) hS.2.2 hd hlocks)
    · obtain rfl : Instr.freturn = a := Option.some.inj ha
      obtain ⟨x, r0, rfl, hs⟩ := pI_inv hs
      obtain ⟨rfl, h01, rfl, rfl⟩ := pE_inv hs
      intro H locs lsA hr hS hl
      exact vx_ret (W.zret hx hb hret (narZ h01) (retQ (v := some (.int x)) hr hS rfl) hS.2.2 hd hlocks)
  · obtain rfl : len = 1 := of_decide_eq_true hlen
    obtain rfl := gl rfl
    obtain rfl : Instr.lreturn = a := Option.some.inj ha
    obtain ⟨x, r0, rfl, hs⟩ := pL_inv hs
    obtain ⟨rfl, rfl, rfl⟩ := pE_inv hs
    intro H locs lsA hr hS hl
    exact vx_ret (W.lret hx hb hret (retQ (v := some (.long x)) hr hS rfl) hS.2.2 hd hlocks)
  · obtain rfl : len = 1 := of_decide_eq_true hlen
    obtain rfl : Instr.areturn = a := Option.some.inj ha
    obtain ⟨x, r0, est, hs2⟩ := pQ_inv (F := fun x st => pE st (r = .inl (some (va_rf x)) ∧ h' = h)) hs
    subst est
    obtain ⟨rfl, rfl, rfl⟩ := pE_inv hs2
    intro H locs lsA hr hS hl
    have hv : cvv base b (va_rf x) = .null ∨ ∃ a, cvv base b (va_rf x) = .ref a := by
      cases x with
      | none => exact Or.inl rfl
      | some y => exact Or.inr ⟨_, rfl⟩
    rcases ga rfl with ⟨n, rfl⟩ | ⟨t, rfl⟩
    · exact vx_ret (W.aret hx hb hret (Or.inl ⟨_, rfl⟩) hv (retQ (v := some (va_rf x)) hr hS rfl) hS.2.2 hd hlocks)
    · exact vx_ret (W.aret hx hb hret (Or.inr ⟨_, rfl⟩) hv (retQ (v := some (va_rf x)) hr hS rfl) hS.2.2 hd hlocks)
  · obtain rfl : len = 1 := of_decide_eq_true hlen
    obtain rfl := gv rfl
    obtain rfl : Instr.return_ = a := Option.some.inj ha
    obtain ⟨rfl, rfl, rfl⟩ := pE_inv hs
    intro H locs lsA hr hS hl
    exact vx_ret (W.vret hx hb hret (retQ (v := none) hr hS rfl) hS.2.2 hd hlocks)
end RUN2
