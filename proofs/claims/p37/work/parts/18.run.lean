def rtOk (rt : Option FieldType) (a : Instr) : Bool := match a with
  | .ireturn => decide (rt = some .int)
  | .freturn => decide (rt = some .boolean)
  | .lreturn => decide (rt = some .long)
  | .areturn => match rt with
    | some (.object _) => true
    | some (.array _) => true
    | _ => false
  | .return_ => decide (rt = none)
  | _ => true
set_option maxRecDepth 100000 in
theorem rets_ok : (List.range 281).all (fun mi => mi == LAWN || (cdL mi).all (rtOk (mrow mi).2.2.2.1)) = true := by decide +kernel
set_option maxRecDepth 100000 in
theorem cdL_len0 : (List.range 283).all (fun mi => decide ((cdL mi).length < 99999)) = true := by decide +kernel
theorem cdL_len (mi : Nat) (h : mi < 283) : (cdL mi).length < 99999 := of_decide_eq_true (List.all_eq_true.mp cdL_len0 mi (List.mem_range.mpr h))
section RUN3
variable {p : Program} {l : Launch} {e : Env} {R : Room} {s : State} {m : MethodId} {args : Array Value} {below : List Frame} {meth : Method} {c : Code} {Q : State → Prop} {cc : ByteArray}
variable {D : va_G} {base b : Nat} {sc : (Nat → Int32) × Nat} {nL : Nat}
theorem rets_at {mi ip : Nat} {a : Instr} (h : mi < 281) (hn : mi ≠ LAWN) (hi : cdo mi ip = some a) : rtOk (mrow mi).2.2.2.1 a = true := by
  have h1 := List.all_eq_true.mp rets_ok mi (List.mem_range.mpr h)
  simp only [Bool.or_eq_true, beq_iff_eq] at h1
  exact List.all_eq_true.mp (h1.resolve_left hn) a (List.mem_of_getElem? hi)
theorem st1_subU {ls : List Value} {k : Nat} (w : Value) (hk : k < ls.length) : ∀ q ∈ lvl base b (st1 ls k unk), q ∈ (k, w) :: (lvl base b ls).filter (fun q => !(q.1 == k) && !(q.1 + 1 == k && q.2.category == 2)) := by
  intro q hq
  rcases List.mem_cons.mp (st1_sub (cvv base b unk) rfl q hq) with h | h
  · rw [h] at hq
    obtain ⟨v, hv, hkv, -⟩ := lvl_mem.mp hq
    rw [st1_self hk] at hv
    cases hv
    cases hkv
  · exact List.mem_cons_of_mem _ h
theorem LR_st1U {lsA lsA' : Array Slot} {ls : List Value} {k : Nat} {w : Value} (hk : k < ls.length) (hl : LR base b lsA nL ls) (h' : lv_has lsA' nL ((k, w) :: (lvl base b ls).filter (fun q => !(q.1 == k) && !(q.1 + 1 == k && q.2.category == 2)))) : LR base b lsA' nL (st1 ls k unk) := ⟨lv_has_of h' (st1_subU w hk), by rw [st1_len]; exact hl.2⟩
theorem castX {E : Nat} (hE : EV D s) (h3 : E < 3) : (Jvm.Cond.castable (xnm E) (xnm E)).before args s = true := by
  have h := xcast_ok E h3
  simp only [Bool.and_eq_true, decide_eq_true_eq] at h
  exact hE.1 _ h.1.1 h.1.2 _
theorem linkX {ct : Nat} (hE : EV D s) (h3 : ct ∈ [17, 19, 14]) : (Jvm.Cond.classLink (cnm 13) ct (xnm (xct ct))).before args s = true := by
  have h := xct_ok ct h3
  simp only [Bool.and_eq_true, decide_eq_true_eq] at h
  exact hE.1 _ h.1 h.2 _
/-- a throw that comes out of a call: caught, or on to the caller -/
theorem catch_ok (hx : p.tables.exec = Jvm.exec) (hb : c.code = cc) (hml : c.maxLocals = nL) {mi : Nat} (hmi : mi < 281) (hcc : cc = (mrow mi).2.1) (hown : s.vm.findClass (cnm (mC mi)) = some m.cls) (hE : EV D s) (htab : c.exceptionTable.toList = tableOf (mrow mi).2.2.2.2.1) {n0 u0 ip pc E : Nat} (hP : (ppo mi)[ip]? = some pc) (h3 : E < 3) {h1 : AH} {ls rest : List Value} {t k : Nat} (hX : hdX mi ip E = some (t, k)) (ht : t ≠ 99999) (hk : k < ls.length)
    (kk : ∀ pc', (ppo mi)[t]? = some pc' → WA p l e R s m args below meth c Q D base b sc nL n0 u0 pc' (st1 ls k unk) [] h1) {H1 : Heap} {locs1 : List Loc} {lsA : Array Slot} {q : Addr} {ce : Cell} (hr : HV D base b sc s H1 h1) (hS : va_S (fun q => base ≤ q) s.heap H1 locs1) (hl : LR base b lsA nL ls) (hce : H1[q]? = some ce) (hcv : ce.vm = .none) (hcl : s.vm.findClass (xnm E) = some ce.cls) :
    vx_W p l e R s m args below meth c H1 locs1 (ah_n h1 - n0) (ah_u h1 - u0) Q (F0 m pc lsA rest) q := by
  obtain ⟨hp', hsel, hd⟩ := hdX_some hP hX ht
  obtain ⟨pre, x, suf, e1, e2, e3, e4, e5⟩ := hsel_spec _ _ _ _ hsel
  have hne : (mrow mi).2.2.2.2.1 ≠ [] := by rw [e1]; simp
  obtain ⟨o13, hct⟩ := hh13 hmi hne
  rw [o13] at hown
  have hxm : x.2.2.2 ∈ [17, 19, 14] := hct x (by rw [e1]; simp)
  have hsplit : c.exceptionTable.toList = tableOf pre ++ (⟨x.1, x.2.1, x.2.2.1, x.2.2.2⟩ : ExceptionTableEntry) :: tableOf suf := by
    rw [htab, e1]
    simp [tableOf]
  have hlink := linkX (args := args) hE hxm
  rw [e4] at hlink
  refine vx_catch hown (tableOf pre) _ (tableOf suf) hsplit (fun z hz => ?_) ?_ (xct_3 hxm).2 hlink (castX hE h3) hce hcv hcl ?_
  · obtain ⟨z0, hz0, rfl⟩ := List.mem_map.mp hz
    rcases e2 z0 hz0 with g | g
    · left
      show (decide (z0.1 ≤ pc) && decide (pc < z0.2.1)) = false
      cases hh : (decide (z0.1 ≤ pc) && decide (pc < z0.2.1)) with
      | false => rfl
      | true =>
        simp only [Bool.and_eq_true, decide_eq_true_eq] at hh
        exact absurd hh g
    · right
      have hzm : z0.2.2.2 ∈ [17, 19, 14] := hct z0 (by rw [e1]; exact List.mem_append_left _ hz0)
      exact ⟨(xct_3 hzm).2, _, linkX hE hzm, hE.2.2.2.2 E _ h3 (xct_3 hzm).1 (Ne.symm g)⟩
  · show (decide (x.1 ≤ pc) && decide (pc < x.2.1)) = true
    simp only [Bool.and_eq_true, decide_eq_true_eq]
    exact e3
  · show W p l e R s m args below meth c H1 locs1 _ _ Q (F0 m x.2.2.1 lsA [.ref q])
    rw [e5]
    rw [← hcc] at hd
    rcases hd with ⟨hd, hPt⟩ | ⟨k', rfl, hd, hPt⟩
    · exact lv_astore hx hb hd hl.1 (by rw [← hl.2]; exact hk) rfl (fun lsB hl2 => kk _ hPt H1 locs1 lsB hr hS (LR_st1U hk hl hl2))
    · exact lv_astore_n hx hb hd rfl hl.1 (by rw [← hl.2]; exact hk) rfl (fun lsB hl2 => kk _ hPt H1 locs1 lsB hr hS (LR_st1U hk hl hl2))
set_option maxHeartbeats 4000000 in
theorem run_ok (hx : p.tables.exec = Jvm.exec) (hb : c.code = cc) (hml : c.maxLocals = nL) {mi d : Nat} (hmi : mi < 281) (hnl : mi ≠ LAWN) (hcc : cc = (mrow mi).2.1) (hown : s.vm.findClass (cnm (mC mi)) = some m.cls) (hE : EV D s) (htab : c.exceptionTable.toList = tableOf (mrow mi).2.2.2.2.1) (hl0 : l.stackTraces = false) (hlocks : meth.locks = false) (hname : meth.name = (mrow mi).1.name) (hret : meth.sig.returnType = (mrow mi).2.2.2.1)
    (IH : IHd l D base b sc d) {h0 h' : AH} {r : Rs} (hr0 : HV D base b sc s s.heap h0) (hRf : d + 7 ≤ R.frames) (hRl : 160 + 60 * d ≤ R.locals) (hRc : ah_n h' - ah_n h0 ≤ R.cells) (hRs : ah_u h' - ah_u h0 ≤ R.slots) :
    ∀ (n ip : Nat) (ls st : List Value) (h : AH), SRx sc d mi n ip ls st h r h' → ∀ pc, (ppo mi)[ip]? = some pc → ah_n h0 ≤ ah_n h → ah_u h0 ≤ ah_u h →
      WA p l e R s m args below meth c (vx_MQ below (QcR D base b sc r h') (XcR D base b sc r h') args s (ah_n h' - ah_n h0) (ah_u h' - ah_u h0) (fun q => base ≤ q)) D base b sc nL (ah_n h0) (ah_u h0) pc ls st h
  | 0, _, _, _, _, H, _, _, _, _ => H.elim
  | n + 1, ip, ls, st, h, H, pc, hP, hn0, hu0 => by
    have hw := mw_at hmi hnl
    have hIH := run_ok (r := r) (h' := h') hx hb hml hmi hnl hcc hown hE htab hl0 hlocks hname hret IH hr0 hRf hRl hRc hRs n
    obtain ⟨a, hi, H⟩ := id H
    have hra := rets_at hmi hnl hi
    have hmon : ∀ ip ls st h2, SRx sc d mi n ip ls st h2 r h' → ah_n h2 ≤ ah_n h0 + R.cells ∧ ah_u h2 ≤ ah_u h0 + R.slots := by
      intro ip ls st h2 q
      have := SRx_le q
      exact ⟨by have := this.1; omega, by have := this.2; omega⟩
    have H2 := stp_leq _ _ _ _ _ _ _ _ H
    have hmon2 : ∀ ip ls st h2, (SRx sc d mi n ip ls st h2 r h' ∧ hle h h2) → ah_n h2 ≤ ah_n h0 + R.cells ∧ ah_u h2 ≤ ah_u h0 + R.slots := fun ip ls st h2 q => hmon ip ls st h2 q.1
    have hgo : ∀ (ip' pc' : Nat) (ls' st' : List Value) (h2 : AH), (ppo mi)[ip']? = some pc' → (SRx sc d mi n ip' ls' st' h2 r h' ∧ hle h h2) → WA p l e R s m args below meth c (vx_MQ below (QcR D base b sc r h') (XcR D base b sc r h') args s (ah_n h' - ah_n h0) (ah_u h' - ah_u h0) (fun q => base ≤ q)) D base b sc nL (ah_n h0) (ah_u h0) pc' ls' st' h2 :=
      fun ip' pc' ls' st' h2 hp q => hIH ip' ls' st' h2 q.1 pc' hp (Nat.le_trans hn0 q.2.1) (Nat.le_trans hu0 q.2.2)
    rcases chk1_spec (ppo_at hw hi hP) with rfl | ⟨E, x, rfl, hth⟩ | ⟨ci, len, hd, ha, hlen, hn⟩
    · exact H.elim
    · obtain ⟨h4, rfl, rfl⟩ := H
      have ho := (thrT_spec hth).1
      rw [ho] at hown hth
      have hhh : (mrow mi).2.2.2.2.1 = [] := by
        by_cases z : (mrow mi).2.2.2.2.1 = []
        · exact z
        · have := (hh13 hmi z).1
          omega
      intro H locs lsA hr hS hl
      exact throw_ok hx hb hml hl0 hown hE hlocks (fun x hx => by rw [htab, hhh] at hx; cases hx) (by rw [hcc]; exact hth) h4 hr0 hr hS hl hn0 hu0 (by omega) (by omega) hRc hRs
    · rw [← hcc] at hd
      by_cases hpl : plainC ci = true
      · exact step_ok hx hb hown hE (fun z => by rw [hname]; exact of_decide_eq_true z) hd ha hlen hn hpl H2 hn0 hu0 hmon2 hgo
      · have h5 : (ci = .ireturn ∨ ci = .lreturn ∨ ci = .areturn ∨ ci = .return_) ∨ ((∃ i, ci = .invokevirtual i) ∨ (∃ i, ci = .invokestatic i) ∨ ∃ i, ci = .invokespecial i) := by
          cases ci <;> first | exact absurd rfl hpl | exact Or.inl (Or.inl rfl) | exact Or.inl (Or.inr (Or.inl rfl)) | exact Or.inl (Or.inr (Or.inr (Or.inl rfl))) | exact Or.inl (Or.inr (Or.inr (Or.inr rfl))) | exact Or.inr (Or.inl ⟨_, rfl⟩) | exact Or.inr (Or.inr (Or.inl ⟨_, rfl⟩)) | exact Or.inr (Or.inr (Or.inr ⟨_, rfl⟩))
        rcases h5 with h5 | h5
        · refine ret_ok hx hb hret hlocks hd ha hlen h5 H ⟨fun z => ?_, fun z => ?_, fun z => ?_, fun z => ?_⟩
          · subst z
            have ha : some (if isZr (mrow mi).2.2.2.1 = true then Instr.freturn else .ireturn) = some a := ha
            cases hz : isZr (mrow mi).2.2.2.1 with
            | true =>
              rw [hz] at ha
              obtain rfl : Instr.freturn = a := Option.some.inj ha
              exact Or.inr (of_decide_eq_true hra)
            | false =>
              rw [hz] at ha
              obtain rfl : Instr.ireturn = a := Option.some.inj ha
              exact Or.inl (of_decide_eq_true hra)
          · subst z
            obtain rfl : Instr.lreturn = a := Option.some.inj ha
            exact of_decide_eq_true hra
          · subst z
            obtain rfl : Instr.areturn = a := Option.some.inj ha
            unfold rtOk at hra
            dsimp only at hra
            split at hra
            · next n0 e => exact Or.inl ⟨_, e⟩
            · next n0 e => exact Or.inr ⟨_, e⟩
            · cases hra
          · subst z
            obtain rfl : Instr.return_ = a := Option.some.inj ha
            exact of_decide_eq_true hra
        · refine inv_ok hx hb hml hown hE hRf hRl hd ha hlen hn h5 H2 hn0 hu0 hmon2 hgo ?_
          rintro mi' as rest hmi' hnl' hk hP3 ⟨r1, h1, c1, q⟩
          have hM := IH mi' as h r1 h1 hmi' hnl' hk c1
          obtain ⟨g1, g2, hM3⟩ := id hM
          cases r1 with
          | inl v => exact ⟨_, h1, hM, hmon _ _ _ _ q, hIH (ip + 1) ls (v.toList ++ rest) h1 q (pc + 3) hP3 (Nat.le_trans hn0 g1) (Nat.le_trans hu0 g2)⟩
          | inr E =>
            obtain ⟨⟨qT, h3⟩, q⟩ := q
            cases hX : hdX mi ip E with
            | none =>
              rw [hX] at q
              obtain ⟨rfl, rfl⟩ := q
              refine ⟨_, _, hM, ⟨by omega, by omega⟩, qT, fun H1 locs1 lsA q0 ce hr hS hl hce hcv hcl => ?_⟩
              exact vx_out (by rw [htab]; exact hdX_none hP hX) hlocks hce hcv hcl (fun t ht hal => ⟨rfl, by rw [ht]; exact hr.moved hal, by rw [ht]; exact hS.1, fun q h1 h2 => by rw [ht]; exact hS.2.1 q h1 h2⟩) hS.2.2 (Nat.le_refl _) (Nat.le_refl _)
            | some tk =>
              obtain ⟨t, k⟩ := tk
              rw [hX] at q
              obtain ⟨hkl, q⟩ := q
              have ht : t ≠ 99999 := by
                rintro rfl
                cases n with
                | zero => exact q.elim
                | succ n =>
                  obtain ⟨i2, hi2, -⟩ := q
                  have hz := cdL_len mi (by omega)
                  have := (List.getElem?_eq_some_iff.mp (show (cdL mi)[99999]? = some i2 from hi2)).1
                  omega
              refine ⟨_, _, hM, hmon _ _ _ _ q, qT, fun H1 locs1 lsA q0 ce hr hS hl hce hcv hcl => ?_⟩
              exact catch_ok hx hb hml hmi hcc hown hE htab hP h3 hX ht hkl (fun pc' hp' => hIH t _ _ h1 q pc' hp' (Nat.le_trans hn0 g1) (Nat.le_trans hu0 g2)) hr hS hl hce hcv hcl
end RUN3
