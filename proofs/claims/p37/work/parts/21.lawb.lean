/-! THE LAW'S BODY -/
section LAWRUN
variable {p : Program} {l : Launch} {e : Env} {s : State} {m : MethodId} {below : List Frame} {meth : Method} {c : Code}
variable {D : va_G} {base b : Nat} {sc : (Nat → Int32) × Nat}
theorem hdX_law {ip pc E : Nat} (h : (ppo LAWN)[ip]? = some pc) : hdX LAWN ip E = none := by
  unfold hdX
  rw [h]
  have : (mrow LAWN).2.2.2.2.1 = [] := by decide +kernel
  rw [this]
  rfl
theorem cdL_law : cdL LAWN = cc_277 := rfl
theorem ppo_law : ppo LAWN = pp_277 := rfl
theorem law_chk {ip pc : Nat} {a : Instr} (hi : cdo LAWN ip = some a) (hp : (ppo LAWN)[ip]? = some pc) : chk1 13 true false code (ppo LAWN) pc a (ppo LAWN)[ip + 1]? = true := by
  have hi' : cc_277[ip]? = some a := by rw [← cdL_law]; exact hi
  rw [ppo_law] at hp ⊢
  obtain ⟨pc', h1, h2⟩ := chkA_get _ _ law_all ip a hi'
  cases h1.symm.trans hp
  exact h2
set_option maxHeartbeats 4000000 in
theorem law_run (hx : p.tables.exec = Jvm.exec) (hb : c.code = code) (hml : c.maxLocals = 6) (hr : meth.sig.returnType = ret) (hlocks : meth.locks = false) {d : Nat} (hown : s.vm.findClass (cnm 13) = some m.cls) (hE : EV D s) (hbase : base = s.heap.size) (IH : IHd l D base b sc d) (hd : d ≤ 1000) {h' : AH} (hc : ah_n h' ≤ 646552) (hu : ah_u h' ≤ 7161968) :
    ∀ (n ip : Nat) (ls st : List Value) (h : AH), SRx sc d LAWN n ip ls st h (.inl (some (.int 1))) h' → ∀ pc, (ppo LAWN)[ip]? = some pc → WA p l e room_1 s m #[Value.ref b] below meth c (lw_Z below #[Value.ref b] s) D base b sc 6 0 0 pc ls st h
  | 0, _, _, _, _, H, _, _ => H.elim
  | n + 1, ip, ls, st, h, H, pc, hP => by
    have hIH := law_run (h' := h') hx hb hml hr hlocks hown hE hbase IH hd hc hu n
    obtain ⟨a, hi, H⟩ := id H
    have hmon : ∀ ip ls st h2, SRx sc d LAWN n ip ls st h2 (.inl (some (.int 1))) h' → ah_n h2 ≤ 0 + room_1.cells ∧ ah_u h2 ≤ 0 + room_1.slots := by
      intro ip ls st h2 q
      have := SRx_le q
      exact ⟨by show ah_n h2 ≤ 0 + 646552; have := this.1; omega, by show ah_u h2 ≤ 0 + 7161968; have := this.2; omega⟩
    have hgo : ∀ (ip' pc' : Nat) (ls' st' : List Value) (h2 : AH), (ppo LAWN)[ip']? = some pc' → SRx sc d LAWN n ip' ls' st' h2 (.inl (some (.int 1))) h' → WA p l e room_1 s m #[Value.ref b] below meth c (lw_Z below #[Value.ref b] s) D base b sc 6 0 0 pc' ls' st' h2 :=
      fun ip' pc' ls' st' h2 hp q => hIH ip' ls' st' h2 q pc' hp
    rcases chk1_spec (law_chk hi hP) with rfl | ⟨E, x, rfl, hth⟩ | ⟨ci, len, hdc, ha, hlen, hn⟩
    · exact H.elim
    · exact absurd (thrT_spec hth).1 (by decide)
    · by_cases hpl : plainC ci = true
      · exact step_ok hx hb hown hE (fun z => by cases z) hdc ha hlen hn hpl H (Nat.zero_le _) (Nat.zero_le _) hmon hgo
      · have h5 : (ci = .ireturn ∨ ci = .lreturn ∨ ci = .areturn ∨ ci = .return_) ∨ ((∃ i, ci = .invokevirtual i) ∨ (∃ i, ci = .invokestatic i) ∨ ∃ i, ci = .invokespecial i) := by
          cases ci <;> first | exact absurd rfl hpl | exact Or.inl (Or.inl rfl) | exact Or.inl (Or.inr (Or.inl rfl)) | exact Or.inl (Or.inr (Or.inr (Or.inl rfl))) | exact Or.inl (Or.inr (Or.inr (Or.inr rfl))) | exact Or.inr (Or.inl ⟨_, rfl⟩) | exact Or.inr (Or.inr (Or.inl ⟨_, rfl⟩)) | exact Or.inr (Or.inr (Or.inr ⟨_, rfl⟩))
        rcases h5 with (rfl | rfl | rfl | rfl) | h5
        · obtain rfl : len = 1 := of_decide_eq_true hlen
          obtain rfl : Instr.freturn = a := Option.some.inj ha
          obtain ⟨x, r0, rfl, hs⟩ := pI_inv H
          obtain ⟨rfl, h01, e1, rfl⟩ := pE_inv hs
          have hx1 : (1 : Int32) = x := by
            have := Option.some.inj (Sum.inl.inj e1)
            injection this
          subst hx1
          intro H locs lsA hv hS hl
          refine va_forget (fun q hq => by have := hS.2.2 q hq; rw [← hbase]; exact this) (W.widen (k := 646552) (n := 7161968) (by omega) (by omega) ?_)
          exact lw_ret hx hb hr hlocks hdc
        · obtain rfl : Instr.lreturn = a := Option.some.inj ha
          obtain ⟨x, r0, rfl, hs⟩ := pL_inv H
          obtain ⟨rfl, e1, -⟩ := pE_inv hs
          cases Option.some.inj (Sum.inl.inj e1)
        · obtain rfl : Instr.areturn = a := Option.some.inj ha
          obtain ⟨x, r0, est, hs2⟩ := pQ_inv (F := fun x st => pE st (Sum.inl (some (Value.int 1)) = (Sum.inl (some (va_rf x)) : Rs) ∧ h' = h)) H
          obtain ⟨-, e1, -⟩ := pE_inv hs2
          cases x <;> cases Option.some.inj (Sum.inl.inj e1)
        · obtain rfl : Instr.return_ = a := Option.some.inj ha
          obtain ⟨-, e1, -⟩ := pE_inv H
          cases Sum.inl.inj e1
        · refine inv_ok hx hb hml hown hE (d := d) (by show d + 7 ≤ 2048; omega) (by show 160 + 60 * d ≤ 84000; omega) hdc ha hlen hn h5 H (Nat.zero_le _) (Nat.zero_le _) hmon hgo ?_
          rintro mi' as rest hmi' hnl' hk hP3 ⟨r1, h1, c1, q⟩
          have hM := IH mi' as h r1 h1 hmi' hnl' hk c1
          cases r1 with
          | inl v => exact ⟨_, h1, hM, hmon _ _ _ _ q, hIH (ip + 1) ls (v.toList ++ rest) h1 q (pc + 3) hP3⟩
          | inr E =>
            have q := q.2
            rw [hdX_law hP] at q
            cases q.1
end LAWRUN
theorem EV_start {s : State} {A : Array Value} (hts : ∀ w ∈ lw_tbl, w.before A s = true) (hgv : (Jvm.Cond.and given_1 narrow_1).before A s = true) : ∃ D : va_G, EV D s := by
  have hT : TV s := by
    intro w hw hk A'
    have h := hts w hw
    unfold kwB at hk
    rw [Bool.or_eq_true] at hk
    rcases hk with hk | hk
    · exact word_at (State.WarmedH.refl s) (good_of_word hk) h
    · rw [Bool.and_eq_true] at hk
      exact va_tabs hk.1 rfl h
  have hs := flat_of_before _ hgv
  have hk0 : ∀ cl, ∃ (cC : ClassId) (iS : Nat → Nat), cl < 12 → u_Kn s (cnm cl) (cTb cl) (nfl cl) cC iS := by
    intro cl
    by_cases hc : cl < 12
    · obtain ⟨c1, c2, c3⟩ := cls_at hc
      obtain ⟨cC, iS, h⟩ := u_known (args := A) (ws := u_ws (cnm cl) (cTb cl) (nfl cl)) (fun w hw => hts w (c1 w hw).1) (fun w hw => hw) (hts _ c2.1)
      exact ⟨cC, iS, fun _ => h⟩
    · exact ⟨0, fun _ => 0, fun z => absurd z hc⟩
  refine ⟨(fun cl => Classical.choose (hk0 cl), fun cl => Classical.choose (Classical.choose_spec (hk0 cl))), hT, ⟨fun cl q hq => ?_, fun k q hq => by simp at hq⟩, fun e he => ?_, ?_, fun E F h1 h2 h3 => ?_⟩
  · have hlt : cl < 12 := (List.getElem?_eq_some_iff.mp hq).1
    cases (vwCl_at cl hlt).symm.trans hq
    exact Classical.choose_spec (Classical.choose_spec (hk0 cl)) hlt
  · have h1 : Jvm.Cond.stringRef RX11 e.1 e.2 ∈ lw_tbl ∧ Jvm.Cond.exactly (Jvm.Term.string RX11 e.1) "java/lang/String" ∈ flatC (Jvm.Cond.and given_1 narrow_1) := by
      have := List.all_eq_true.mp stk_ok e he
      simp only [Bool.and_eq_true, decide_eq_true_eq] at this
      exact this
    obtain ⟨a, -, -, -, hev, -⟩ := Cond.exactly_spec (show (Jvm.Cond.exactly (Jvm.Term.string RX11 e.1) "java/lang/String").holds A s none s [] = true from hs _ h1.2)
    exact ⟨a, vk_R.of (hts _ h1.1) hev⟩
  · have := arr_ok
    simp only [Bool.and_eq_true, decide_eq_true_eq] at this
    exact va_AO.of (hts _ this.2)
  · exact va_Nc.of (hs _ (nc_ok E F h1 h2 h3))
