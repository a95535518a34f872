theorem vaS_rf {A : Nat → Prop} {H : Heap} : va_S A H H [] := ⟨Nat.le_refl _, fun _ _ _ => rfl, fun q hq => absurd hq List.not_mem_nil⟩
set_option maxHeartbeats 4000000 in
/-- EVERY RUN OF THE ABSTRACT MACHINE IS THE JVM'S -/
theorem sound (l : Launch) (hl0 : l.stackTraces = false) (D : va_G) (base b : Nat) (sc : (Nat → Int32) × Nat) : ∀ d, IHd l D base b sc d
  | 0 => fun _ _ _ _ _ _ _ _ H => H.elim
  | d + 1 => by
    intro mi as h r h1 hmi hnl hk H
    have hle : hle h h1 := Rn_le _ _ _ _ _ _ H
    obtain ⟨hlen, n, H⟩ := H
    have hw := mw_at hmi hnl
    obtain ⟨w1, w2, w3, w4, w5, w6, w7, w8, w9, w10, w11⟩ := id hw
    have hP0 : (ppo mi)[0]? = some 0 := w10
    have hbody : vx_Met l (mrow mi).1 [cwrd mi] (rmD (d + 1) (ah_n h1 - ah_n h) (ah_u h1 - ah_u h)) (PcA D base b sc as h) (QcR D base b sc r h1) (XcR D base b sc r h1) (ah_n h1 - ah_n h) (ah_u h1 - ah_u h) (fun q => base ≤ q) := by
      have hgo : ∀ (p : Program) (e : Env) (s : State) (m : MethodId) (args : Array Value) (below : List Frame) (meth : Method) (c : Code), p.tables.exec = Jvm.exec → c.code = (mrow mi).2.1 → c.maxLocals = (mrow mi).2.2.1 → s.vm.findClass (mrow mi).1.cls = some m.cls → meth.name = (mrow mi).1.name → meth.sig.returnType = (mrow mi).2.2.2.1 → meth.locks = false → c.exceptionTable.toList = tableOf (mrow mi).2.2.2.2.1 → PcA D base b sc as h args s →
          W p l e (rmD (d + 1) (ah_n h1 - ah_n h) (ah_u h1 - ah_u h)) s m args below meth c s.heap [] 0 0 (vx_MQ below (QcR D base b sc r h1) (XcR D base b sc r h1) args s (ah_n h1 - ah_n h) (ah_u h1 - ah_u h) (fun q => base ≤ q)) (entryFrame m args (mrow mi).2.2.1) := by
        intro p e s m args below meth c hx hb hml hown hname hret hlocks htab hPc
        obtain ⟨rfl, hE, hr⟩ := hPc
        rw [w3] at hown
        rw [w9] at H hlen
        rw [lg_entry_eq]
        have k := run_ok (e := e) (r := r) (h' := h1) (R := rmD (d + 1) (ah_n h1 - ah_n h) (ah_u h1 - ah_u h)) (args := (as.map (cvv base b)).toArray) (below := below) hx hb hml hmi hnl rfl hown hE htab hl0 hlocks hname hret (sound l hl0 D base b sc d) hr (by show d + 7 ≤ d + 1 + 6; omega) (by show 160 + 60 * d ≤ 100 + 60 * (d + 1); omega) (Nat.le_refl _) (Nat.le_refl _) n 0 _ [] h H 0 hP0 (Nat.le_refl _) (Nat.le_refl _) s.heap [] _ hr vaS_rf (ent_LR hk hlen)
        rw [Nat.sub_self, Nat.sub_self] at k
        exact k
      by_cases hh : (mrow mi).2.2.2.2.1 = []
      · refine vx_ofW (cc := (mrow mi).2.1) (maxL := (mrow mi).2.2.1) (ret := (mrow mi).2.2.2.1) (ws' := []) w4 (by unfold cwrd; rw [if_pos hh]) ?_
        intro p e s m args below meth c s₁ B hml htab hPc
        exact hgo p e s m args below meth c B.exec B.bytes hml (findClass_of_methodNamed B.named) (name_of_methodNamed B.named B.method).1 B.returns B.notSynchronized (by
          rw [hh]
          cases ht : c.exceptionTable.toList with
          | nil => rfl
          | cons x y => exact (htab x (by rw [ht]; exact List.mem_cons_self)).elim) hPc
      · refine vx_ofWH (cc := (mrow mi).2.1) (maxL := (mrow mi).2.2.1) (ret := (mrow mi).2.2.2.1) (hh := (mrow mi).2.2.2.2.1) (ws' := []) w4 (by unfold cwrd; rw [if_neg hh]) ?_
        intro p e s m args below meth c s₁ B hml hPc
        have hcw : (Jvm.Cond.codeWith (mrow mi).1 (mrow mi).2.1 (mrow mi).2.2.1 (mrow mi).2.2.2.1 (mrow mi).2.2.2.2.1).before args s = true := by
          have := hPc.2.1.1 _ w2.1 w2.2 args
          unfold cwrd at this
          rwa [if_neg hh] at this
        exact hgo p e s m args below meth c B.exec B.bytes hml (findClass_of_methodNamed B.named) (name_of_methodNamed B.named B.method).1 B.returns B.notSynchronized (vx_table (x := (mrow mi).1) B hcw) hPc
    refine ⟨hle.1, hle.2, ?_⟩
    cases r with
    | inl v => exact met_of_vx hbody
    | inr E => exact hbody
