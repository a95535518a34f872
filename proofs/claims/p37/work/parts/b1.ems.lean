/-! EMBEDDINGS: an instruction -/
section SIMS
variable {D D' : Nat → Prop} {r r' : Nat → Nat} {h h0 H H0 : AH} {ls st ls' st' : List Value} {ip : Nat}
theorem sim_KX (x : EXT D r h H D' r' h0 H0) (e : EMB D' r' h0 H0) (l : lD D' ls) (s : lD D' st) (el : ls' = ls.map (vm r')) (es : st' = st.map (vm r')) : SIM D r h H (fun K _ _ => K ip ls st h0) (fun K _ _ => K ip ls' st' H0) := fun _ _ _ q => ⟨D', r', ls, st, h0, x, e, l, s, el, es, q⟩
theorem sim_K (e : EMB D r h H) (l : lD D ls) (s : lD D st) (el : ls' = ls.map (vm r)) (es : st' = st.map (vm r)) : SIM D r h H (fun K _ _ => K ip ls st h) (fun K _ _ => K ip ls' st' H) := sim_KX EXT_refl e l s el es
theorem sim_C {mi : Nat} (l : lD D ls) (s : lD D st) : SIM D r h H (fun _ KC _ => KC mi ls st) (fun _ KC _ => KC mi (ls.map (vm r)) (st.map (vm r))) := fun _ _ _ q => ⟨ls, st, l, s, rfl, rfl, q⟩
theorem sim_RX {q q' : Rs} (x : EXT D r h H D' r' h0 H0) (e : EMB D' r' h0 H0) (l : rD D' q) (el : q' = rm r' q) : SIM D r h H (fun _ _ KR => KR q h0) (fun _ _ KR => KR q' H0) := fun _ _ _ z => ⟨D', r', q, h0, x, e, l, el, z⟩
theorem sim_and {c c' : Prop} {P P' : TK → TKC → TKR → Prop} (i : c → c') (hP : c → SIM D r h H P P') : SIM D r h H (fun K KC KR => c ∧ P K KC KR) (fun K KC KR => c' ∧ P' K KC KR) := fun _ _ _ q => ⟨i q.1, hP q.1 _ _ _ q.2⟩
theorem sim_if {c c' : Prop} {P Q P' Q' : TK → TKC → TKR → Prop} (i : c ↔ c') (hP : SIM D r h H P P') (hQ : SIM D r h H Q Q') : SIM D r h H (fun K KC KR => (c → P K KC KR) ∧ (¬ c → Q K KC KR)) (fun K KC KR => (c' → P' K KC KR) ∧ (¬ c' → Q' K KC KR)) := fun _ _ _ q => ⟨fun z => hP _ _ _ (q.1 (i.mpr z)), fun z => hQ _ _ _ (q.2 fun y => z (i.mp y))⟩
theorem sim_pI {F F' : Int32 → List Value → TK → TKC → TKR → Prop} (hs : lD D st) (hF : ∀ x r0, lD D r0 → SIM D r h H (F x r0) (F' x (r0.map (vm r)))) : SIM D r h H (fun K KC KR => pI st fun x r => F x r K KC KR) (fun K KC KR => pI (st.map (vm r)) fun x r => F' x r K KC KR) := by
  intro K KC KR q
  obtain ⟨x, r0, rfl, q⟩ := pI_inv q
  exact hF x r0 (lDt hs) _ _ _ q
theorem sim_pL {F F' : Int64 → List Value → TK → TKC → TKR → Prop} (hs : lD D st) (hF : ∀ x r0, lD D r0 → SIM D r h H (F x r0) (F' x (r0.map (vm r)))) : SIM D r h H (fun K KC KR => pL st fun x r => F x r K KC KR) (fun K KC KR => pL (st.map (vm r)) fun x r => F' x r K KC KR) := by
  intro K KC KR q
  obtain ⟨x, r0, rfl, q⟩ := pL_inv q
  exact hF x r0 (lDt hs) _ _ _ q
theorem sim_pA {F F' : Nat → List Value → TK → TKC → TKR → Prop} (hs : lD D st) (hF : ∀ x r0, D x → lD D r0 → SIM D r h H (F x r0) (F' (r x) (r0.map (vm r)))) : SIM D r h H (fun K KC KR => pA st fun x r => F x r K KC KR) (fun K KC KR => pA (st.map (vm r)) fun x r => F' x r K KC KR) := by
  intro K KC KR q
  obtain ⟨x, r0, rfl, q⟩ := pA_inv q
  exact hF x r0 (lDh hs x rfl) (lDt hs) _ _ _ q
theorem sim_pV {F F' : Value → List Value → TK → TKC → TKR → Prop} (hs : lD D st) (hF : ∀ x r0, vD D x → lD D r0 → SIM D r h H (F x r0) (F' (vm r x) (r0.map (vm r)))) : SIM D r h H (fun K KC KR => pV st fun x r => F x r K KC KR) (fun K KC KR => pV (st.map (vm r)) fun x r => F' x r K KC KR) := by
  intro K KC KR q
  obtain ⟨x, r0, rfl, q⟩ := pV_inv q
  exact hF x r0 (lDh hs) (lDt hs) _ _ _ q
theorem sim_pQ {F F' : Option Nat → List Value → TK → TKC → TKR → Prop} (hs : lD D st) (hF : ∀ x r0, (∀ a, x = some a → D a) → lD D r0 → SIM D r h H (F x r0) (F' (x.map r) (r0.map (vm r)))) : SIM D r h H (fun K KC KR => pQ st fun x r => F x r K KC KR) (fun K KC KR => pQ (st.map (vm r)) fun x r => F' x r K KC KR) := by
  intro K KC KR q
  obtain ⟨x, r0, e, q2⟩ := pQ_inv (F := fun x r => F x r K KC KR) q
  subst e
  cases x with
  | none => exact hF none r0 (fun a z => by cases z) (lDt hs) _ _ _ q2
  | some x => exact hF (some x) r0 (fun a z => by cases z; exact lDh hs x rfl) (lDt hs) _ _ _ q2
theorem sim_pE {P P' : TK → TKC → TKR → Prop} (hP : SIM D r h H P P') : SIM D r h H (fun K KC KR => pE st (P K KC KR)) (fun K KC KR => pE (st.map (vm r)) (P' K KC KR)) := by
  intro K KC KR q
  obtain ⟨rfl, q⟩ := pE_inv q
  exact hP _ _ _ q
theorem sim_popA {F F' : List Value → List Value → TK → TKC → TKR → Prop} (hF : ∀ x r0, lD D x → lD D r0 → SIM D r h H (F x r0) (F' (x.map (vm r)) (r0.map (vm r)))) : ∀ (n : Nat) (acc st : List Value), lD D acc → lD D st → SIM D r h H (fun K KC KR => popA n acc st fun x r => F x r K KC KR) (fun K KC KR => popA n (acc.map (vm r)) (st.map (vm r)) fun x r => F' x r K KC KR)
  | 0, acc, st, a, b => hF _ _ a b
  | n + 1, acc, [], a, b => fun _ _ _ q => q.elim
  | n + 1, acc, v :: r0, a, b => fun K KC KR q => by
    have q : knw v = true ∧ popA n (v :: acc) r0 (fun x r => F x r K KC KR) := q
    show knw (vm r v) = true ∧ popA n ((v :: acc).map (vm r)) (r0.map (vm r)) (fun x r1 => F' x r1 (KS D r h H K) (KCS D r KC) (KRS D r h H KR))
    exact ⟨knw_vm.trans q.1, sim_popA hF n (v :: acc) r0 (lDc (lDh b) a) (lDt b) _ _ _ q.2⟩
theorem sim_gI {k : Nat} {F F' : Int32 → List Value → TK → TKC → TKR → Prop} (hl : lD D ls) (hF : ∀ x r0, SIM D r h H (F x r0) (F' x (r0.map (vm r)))) : SIM D r h H (fun K KC KR => pI [ls.getD k unk] fun x r => F x r K KC KR) (fun K KC KR => pI [(ls.map (vm r)).getD k unk] fun x r => F' x r K KC KR) := by
  rw [gd_vm]
  exact sim_pI (st := [ls.getD k unk]) (lDc (lDg hl k) lDn) fun x r0 _ => hF x r0
theorem sim_gL {k : Nat} {F F' : Int64 → List Value → TK → TKC → TKR → Prop} (hl : lD D ls) (hF : ∀ x r0, SIM D r h H (F x r0) (F' x (r0.map (vm r)))) : SIM D r h H (fun K KC KR => pL [ls.getD k unk] fun x r => F x r K KC KR) (fun K KC KR => pL [(ls.map (vm r)).getD k unk] fun x r => F' x r K KC KR) := by
  rw [gd_vm]
  exact sim_pL (st := [ls.getD k unk]) (lDc (lDg hl k) lDn) fun x r0 _ => hF x r0
theorem sim_fput {t k : Nat} {F F' : Nat → List Value → AH → TK → TKC → TKR → Prop} (e : EMB D r h H) (hs : lD D st) (hF : ∀ a st h0 H0, D a → lD D st → EXT D r h H D r h0 H0 → EMB D r h0 H0 → SIM D r h H (F a st h0) (F' (r a) (st.map (vm r)) H0)) : SIM D r h H (fun K KC KR => fput t st h k fun a st h => F a st h K KC KR) (fun K KC KR => fput t (st.map (vm r)) H k fun a st h => F' a st h K KC KR) := by
  unfold fput
  split
  · exact sim_pI hs fun v r0 h0 => sim_pA h0 fun a r1 da h1 => hF a r1 _ _ da h1 (EMB_i e da k v).2 (EMB_i e da k v).1
  · exact sim_pL hs fun v r0 h0 => sim_pA h0 fun a r1 da h1 => hF a r1 _ _ da h1 (EMB_l e da k v).2 (EMB_l e da k v).1
  · exact sim_pQ (F := fun v st K KC KR => pA st fun a st => F a st (ap_r h a k v) K KC KR) (F' := fun v st K KC KR => pA st fun a st => F' a st (ap_r H a k v) K KC KR) hs fun v r0 dv h0 => sim_pA h0 fun a r1 da h1 => hF a r1 _ _ da h1 (EMB_r e da k v dv).2 (EMB_r e da k v dv).1
  · exact sim_pI hs fun v r0 h0 => sim_and id fun _ => sim_pA h0 fun a r1 da h1 => hF a r1 _ _ da h1 (EMB_i e da k v).2 (EMB_i e da k v).1
theorem sim_F {P' : TK → TKC → TKR → Prop} : SIM D r h H (fun _ _ _ => False) P' := fun _ _ _ q => q.elim
theorem sim_new {kd len us : Nat} (e : EMB D r h H) (hl : lD D ls) (hs : lD D st) : SIM D r h H (fun K _ _ => K ip ls (.ref (ah_n h) :: st) (ap_n h kd len us)) (fun K _ _ => K ip (ls.map (vm r)) (.ref (ah_n H) :: st.map (vm r)) (ap_n H kd len us)) := by
  obtain ⟨g1, g2⟩ := EMB_n e kd len us
  obtain ⟨l1, l2⟩ := lDm g2.1 hl
  obtain ⟨s1, s2⟩ := lDm g2.1 hs
  refine sim_KX g2 g1 l1 (lDc (vDr (Or.inr rfl)) s1) l2.symm ?_
  show _ = Value.ref (rn r h H (ah_n h)) :: st.map (vm (rn r h H))
  rw [s2, show rn r h H (ah_n h) = ah_n H from if_pos rfl]
theorem zE (e : EMB D r h H) {a : Nat} (da : D a) : ah_k H (r a) = ah_k h a ∧ ah_z H (r a) = ah_z h a := ⟨(e.1 a da).2.2.1, (e.1 a da).2.2.2.1⟩
end SIMS
section SIM2
variable {nA mC : Nat → Nat} {fty : Nat → Nat → Nat} {nfl : Nat → Nat} {sc : (Nat → Int32) × Nat}
variable {D : Nat → Prop} {r : Nat → Nat} {h H : AH}
set_option maxHeartbeats 4000000 in
theorem stp_sim (i : Instr) (ip : Nat) (ls st : List Value) (e : EMB D r h H) (hl : lD D ls) (hs : lD D st) : SIM D r h H (stp nA mC fty nfl sc i ip ls st h) (stp nA mC fty nfl sc i ip (ls.map (vm r)) (st.map (vm r)) H) := by
  cases i
  case iload k => exact sim_gI hl fun _ _ => sim_K e hl (lDc vDi hs) rfl rfl
  case lload k => exact sim_gL hl fun _ _ => sim_K e hl (lDc vDl hs) rfl rfl
  case aload k => exact sim_and (fun z => by rw [gd_vm, isRf_vm]; exact z) fun _ => sim_K e hl (lDc (lDg hl k) hs) rfl (by rw [gd_vm]; rfl)
  case istore k => exact sim_pI hs fun x _ h1 => sim_and (fun z => by rw [List.length_map]; exact z) fun _ => sim_K e (lD1 hl vDi k) h1 (by rw [st1_vm]; rfl) rfl
  case astore k => exact sim_pQ (F := fun x st K KC KR => k < ls.length ∧ K (ip + 1) (st1 ls k (va_rf x)) st h) (F' := fun x st K KC KR => k < (ls.map (vm r)).length ∧ K (ip + 1) (st1 (ls.map (vm r)) k (va_rf x)) st H) hs fun x _ dx h1 => sim_and (fun z => by rw [List.length_map]; exact z) fun _ => sim_K e (lD1 hl (vDq dx) k) h1 (by rw [st1_vm, vm_rf]) rfl
  case lstore k => exact sim_pL hs fun x _ h1 => sim_and (fun z => by rw [List.length_map]; exact z) fun _ => sim_K e (lD2 hl vDl k) h1 (by rw [st2_vm]; rfl) rfl
  case iconst => exact sim_K e hl (lDc vDi hs) rfl rfl
  case sipush => exact sim_K e hl (lDc vDl hs) rfl rfl
  case aconst_null => exact sim_K e hl (lDc vDn hs) rfl rfl
  case iadd => exact sim_pI hs fun _ _ h1 => sim_pI h1 fun _ _ h2 => sim_K e hl (lDc vDi h2) rfl rfl
  case isub => exact sim_pI hs fun _ _ h1 => sim_pI h1 fun _ _ h2 => sim_K e hl (lDc vDi h2) rfl rfl
  case imul => exact sim_pI hs fun _ _ h1 => sim_pI h1 fun _ _ h2 => sim_K e hl (lDc vDi h2) rfl rfl
  case iand => exact sim_pI hs fun _ _ h1 => sim_pI h1 fun _ _ h2 => sim_K e hl (lDc vDi h2) rfl rfl
  case ior => exact sim_pI hs fun _ _ h1 => sim_pI h1 fun _ _ h2 => sim_K e hl (lDc vDi h2) rfl rfl
  case ixor => exact sim_pI hs fun _ _ h1 => sim_pI h1 fun _ _ h2 => sim_K e hl (lDc vDi h2) rfl rfl
  case ishl => exact sim_pI hs fun _ _ h1 => sim_pI h1 fun _ _ h2 => sim_K e hl (lDc vDi h2) rfl rfl
  case ishr => exact sim_pI hs fun _ _ h1 => sim_pI h1 fun _ _ h2 => sim_K e hl (lDc vDi h2) rfl rfl
  case iushr => exact sim_pI hs fun _ _ h1 => sim_pI h1 fun _ _ h2 => sim_K e hl (lDc vDi h2) rfl rfl
  case idiv => exact sim_pI hs fun _ _ h1 => sim_pI h1 fun _ _ h2 => sim_and id fun _ => sim_K e hl (lDc vDi h2) rfl rfl
  case irem => exact sim_pI hs fun _ _ h1 => sim_pI h1 fun _ _ h2 => sim_and id fun _ => sim_K e hl (lDc vDi h2) rfl rfl
  case ladd => exact sim_pL hs fun _ _ h1 => sim_pL h1 fun _ _ h2 => sim_K e hl (lDc vDl h2) rfl rfl
  case lsub => exact sim_pL hs fun _ _ h1 => sim_pL h1 fun _ _ h2 => sim_K e hl (lDc vDl h2) rfl rfl
  case land => exact sim_pL hs fun _ _ h1 => sim_pL h1 fun _ _ h2 => sim_K e hl (lDc vDl h2) rfl rfl
  case lor => exact sim_pL hs fun _ _ h1 => sim_pL h1 fun _ _ h2 => sim_K e hl (lDc vDl h2) rfl rfl
  case lxor => exact sim_pL hs fun _ _ h1 => sim_pL h1 fun _ _ h2 => sim_K e hl (lDc vDl h2) rfl rfl
  case lcmp => exact sim_pL hs fun _ _ h1 => sim_pL h1 fun _ _ h2 => sim_K e hl (lDc vDi h2) rfl rfl
  case lneg => exact sim_pL hs fun _ _ h1 => sim_K e hl (lDc vDl h1) rfl rfl
  case i2l => exact sim_pI hs fun _ _ h1 => sim_K e hl (lDc vDl h1) rfl rfl
  case l2i => exact sim_pL hs fun _ _ h1 => sim_K e hl (lDc vDi h1) rfl rfl
  case lshl => exact sim_pI hs fun _ _ h1 => sim_pL h1 fun _ _ h2 => sim_K e hl (lDc vDl h2) rfl rfl
  case lshr => exact sim_pI hs fun _ _ h1 => sim_pL h1 fun _ _ h2 => sim_K e hl (lDc vDl h2) rfl rfl
  case lushr => exact sim_pI hs fun _ _ h1 => sim_pL h1 fun _ _ h2 => sim_K e hl (lDc vDl h2) rfl rfl
  case dup => exact sim_pV hs fun _ _ d1 h1 => sim_and (fun z => by rw [isLg_vm]; exact z) fun _ => sim_and (fun z => by rw [knw_vm]; exact z) fun _ => sim_K e hl (lDc d1 (lDc d1 h1)) rfl rfl
  case pop => exact sim_pV hs fun _ _ d1 h1 => sim_and (fun z => by rw [isLg_vm]; exact z) fun _ => sim_and (fun z => by rw [knw_vm]; exact z) fun _ => sim_K e hl h1 rfl rfl
  case dup2 => exact sim_pV hs fun _ _ d1 h1 => sim_pV h1 fun _ _ d2 h2 => sim_and (fun z => by rw [isLg_vm]; exact z) fun _ => sim_and (fun z => by rw [knw_vm]; exact z) fun _ => sim_and (fun z => by rw [isLg_vm]; exact z) fun _ => sim_and (fun z => by rw [knw_vm]; exact z) fun _ => sim_K e hl (lDc d1 (lDc d2 (lDc d1 (lDc d2 h2)))) rfl rfl
  case i2c => exact sim_pI hs fun _ _ h1 => sim_pI h1 fun _ _ h2 => sim_and (fun z => by rw [List.length_map]; exact z) fun _ => sim_K e hl (lDc vDi h2) rfl rfl
  case i2s => exact sim_pI hs fun _ _ h1 => sim_pI h1 fun _ _ h2 => sim_and (fun z => by rw [List.length_map]; exact z) fun _ => sim_K e hl (lDc vDi h2) rfl rfl
  case monitorenter => exact sim_pA hs fun _ _ _ h1 => sim_and (fun z => by rw [List.length_map]; exact z) fun _ => sim_K e hl h1 rfl rfl
  case ifCond c t => exact sim_pI hs fun _ _ h1 => sim_if Iff.rfl (sim_K e hl h1 rfl rfl) (sim_K e hl h1 rfl rfl)
  case if_icmp c t => exact sim_pI hs fun _ _ h1 => sim_pI h1 fun _ _ h2 => sim_if Iff.rfl (sim_K e hl h2 rfl rfl) (sim_K e hl h2 rfl rfl)
  case ifnull t => exact sim_pQ (F := fun x st K KC KR => (x = none → K t.toNat ls st h) ∧ (¬ x = none → K (ip + 1) ls st h)) (F' := fun x st K KC KR => (x = none → K t.toNat (ls.map (vm r)) st H) ∧ (¬ x = none → K (ip + 1) (ls.map (vm r)) st H)) hs fun x r0 _ h1 => sim_if (P := fun K _ _ => K t.toNat ls r0 h) (Q := fun K _ _ => K (ip + 1) ls r0 h) (P' := fun K _ _ => K t.toNat (ls.map (vm r)) (r0.map (vm r)) H) (Q' := fun K _ _ => K (ip + 1) (ls.map (vm r)) (r0.map (vm r)) H) (by cases x <;> simp) (sim_K e hl h1 rfl rfl) (sim_K e hl h1 rfl rfl)
  case goto t => exact sim_K e hl hs rfl rfl
  case iinc k n => exact sim_gI hl fun x _ => sim_and (fun z => by rw [List.length_map]; exact z) fun _ => sim_K e (lD1 hl vDi k) hs (by rw [st1_vm]; rfl) rfl
  case tableswitch d lo hi os =>
    refine sim_pI hs fun x r0 h1 => ?_
    intro K KC KR q
    refine ⟨fun z => ⟨D, r, ls, r0, h, EXT_refl, e, hl, h1, rfl, rfl, q.1 z⟩, fun z1 z2 => ?_⟩
    obtain ⟨t, e1, g⟩ := q.2 z1 z2
    exact ⟨t, e1, D, r, ls, r0, h, EXT_refl, e, hl, h1, rfl, rfl, g⟩
  case ireturn => exact sim_pI hs fun _ _ _ => sim_pE (sim_RX EXT_refl e (fun v z => by cases z; exact vDi) rfl)
  case freturn => exact sim_pI hs fun _ _ _ => sim_pE (sim_and id fun _ => sim_RX EXT_refl e (fun v z => by cases z; exact vDi) rfl)
  case lreturn => exact sim_pL hs fun _ _ _ => sim_pE (sim_RX EXT_refl e (fun v z => by cases z; exact vDl) rfl)
  case areturn => exact sim_pQ (F := fun x st K KC KR => pE st (KR (.inl (some (va_rf x))) h)) (F' := fun x st K KC KR => pE st (KR (.inl (some (va_rf x))) H)) hs fun x r0 dx _ => sim_pE (P := fun K KC KR => KR (.inl (some (va_rf x))) h) (P' := fun K KC KR => KR (.inl (some (va_rf (x.map r)))) H) (sim_RX EXT_refl e (fun v z => by cases z; exact vDq dx) (by show _ = (Sum.inl (some (vm r (va_rf x))) : Rs); rw [vm_rf]))
  case return_ => exact sim_pE (sim_RX EXT_refl e (fun v z => by cases z) rfl)
  case ldc E => exact sim_and (fun z => by rw [List.length_map]; exact z) fun _ => sim_RX (EMB_n e 30 0 6).2 (EMB_n e 30 0 6).1 (fun v z => by cases z) rfl
  case getfield n => exact sim_pA hs fun a _ da h1 => sim_and (fun z => (zE e da).1.trans z) fun _ => sim_K e hl (lDc (fvl_vm e da _ _).2 h1) rfl (by rw [(fvl_vm e da _ _).1]; rfl)
  case putfield n => exact sim_fput (F := fun a st h K KC KR => ah_k h a = n / 100 ∧ K (ip + 1) ls st h) (F' := fun a st h K KC KR => ah_k h a = n / 100 ∧ K (ip + 1) (ls.map (vm r)) st h) e hs fun a st h0 H0 da h1 x0 e0 => sim_and (fun z => (zE e0 da).1.trans z) fun _ => sim_KX x0 e0 hl h1 rfl rfl
  case iaload =>
    refine sim_pI hs fun i r0 h0 => sim_pV h0 fun v r1 d1 h1 => ?_
    intro K KC KR q
    cases v with
    | ref a =>
      have da := d1 a rfl
      exact sim_and (P := fun K _ _ => vp_in i (ah_z h a) ∧ K (ip + 1) ls (.int (ah_i h a i.toNatClampNeg) :: r1) h) (P' := fun K _ _ => vp_in i (ah_z H (r a)) ∧ K (ip + 1) (ls.map (vm r)) (.int (ah_i H (r a) i.toNatClampNeg) :: r1.map (vm r)) H) (fun z => (zE e da).1.trans z) (fun _ => sim_and (fun z => by rw [(zE e da).2]; exact z) fun _ => sim_K e hl (lDc vDi h1) rfl (by rw [((e.1 a da).2.2.2.2 _).1]; rfl)) K KC KR q
    | retAddr n =>
      show (match Value.retAddr n with | .ref a => ah_k H a = 20 ∧ vp_in i (ah_z H a) ∧ KS D r h H K (ip + 1) (ls.map (vm r)) (.int (ah_i H a i.toNatClampNeg) :: r1.map (vm r)) H | .retAddr 1 => vp_in i sc.2 ∧ KS D r h H K (ip + 1) (ls.map (vm r)) (.int (sc.1 i.toNatClampNeg) :: r1.map (vm r)) H | _ => False)
      split at q
      · next w => cases w
      · next w =>
        cases w
        exact ⟨q.1, D, r, ls, _, h, EXT_refl, e, hl, lDc vDi h1, rfl, rfl, q.2⟩
      · exact q.elim
    | _ => exact q.elim
  case iastore => exact sim_pI hs fun x _ h1 => sim_pI h1 fun i _ h2 => sim_pA h2 fun a _ da h3 => sim_and (fun z => (zE e da).1.trans z) fun _ => sim_and (fun z => by rw [(zE e da).2]; exact z) fun _ => sim_KX (EMB_i e da i.toNatClampNeg x).2 (EMB_i e da i.toNatClampNeg x).1 hl h3 rfl rfl
  case laload => exact sim_pI hs fun i _ h1 => sim_pA h1 fun a _ da h2 => sim_and (fun z => (zE e da).1.trans z) fun _ => sim_and (fun z => by rw [(zE e da).2]; exact z) fun _ => sim_K e hl (lDc vDl h2) rfl (by rw [((e.1 a da).2.2.2.2 _).2.1]; rfl)
  case lastore => exact sim_pL hs fun x _ h1 => sim_pI h1 fun i _ h2 => sim_pA h2 fun a _ da h3 => sim_and (fun z => (zE e da).1.trans z) fun _ => sim_and (fun z => by rw [(zE e da).2]; exact z) fun _ => sim_KX (EMB_l e da i.toNatClampNeg x).2 (EMB_l e da i.toNatClampNeg x).1 hl h3 rfl rfl
  case baload => exact sim_pI hs fun i _ h1 => sim_pA h1 fun a _ da h2 => sim_and (fun z => (zE e da).1.trans z) fun _ => sim_and (fun z => by rw [(zE e da).2]; exact z) fun _ => sim_K e hl (lDc vDi h2) rfl (by rw [((e.1 a da).2.2.2.2 _).1]; rfl)
  case bastore => exact sim_pI hs fun x _ h1 => sim_pI h1 fun i _ h2 => sim_pA h2 fun a _ da h3 => sim_and (fun z => (zE e da).1.trans z) fun _ => sim_and (fun z => by rw [(zE e da).2]; exact z) fun _ => sim_and id fun _ => sim_KX (EMB_i e da i.toNatClampNeg x).2 (EMB_i e da i.toNatClampNeg x).1 hl h3 rfl rfl
  case aaload => exact sim_pI hs fun i _ h1 => sim_pA h1 fun a _ da h2 => sim_and (fun z => (zE e da).1.trans z) fun _ => sim_and (fun z => by rw [(zE e da).2]; exact z) fun _ => sim_K e hl (lDc (vDq ((e.1 a da).2.2.2.2 _).2.2.2) h2) rfl (by rw [((e.1 a da).2.2.2.2 _).2.2.1, ← vm_rf]; rfl)
  case aastore => exact sim_pQ (F := fun v st K KC KR => pI st fun i st => pA st fun a st => ah_k h a = 23 ∧ vp_in i (ah_z h a) ∧ (∀ q, v = some q → ah_k h q = 8) ∧ K (ip + 1) ls st (ap_r h a i.toNatClampNeg v)) (F' := fun v st K KC KR => pI st fun i st => pA st fun a st => ah_k H a = 23 ∧ vp_in i (ah_z H a) ∧ (∀ q, v = some q → ah_k H q = 8) ∧ K (ip + 1) (ls.map (vm r)) st (ap_r H a i.toNatClampNeg v)) hs fun v _ dv h1 => sim_pI h1 fun i _ h2 => sim_pA h2 fun a _ da h3 => sim_and (fun z => (zE e da).1.trans z) fun _ => sim_and (fun z => by rw [(zE e da).2]; exact z) fun _ => sim_and (fun z q w => by
      cases v with
      | none => cases w
      | some v =>
        cases w
        exact (zE e (dv v rfl)).1.trans (z v rfl)) fun _ => sim_KX (EMB_r e da i.toNatClampNeg v dv).2 (EMB_r e da i.toNatClampNeg v dv).1 hl h3 rfl rfl
  case arraylength =>
    refine sim_pV hs fun v r1 d1 h1 => ?_
    intro K KC KR q
    cases v with
    | ref a =>
      have da := d1 a rfl
      obtain ⟨q1, q2, q3⟩ := q
      refine ⟨?_, ?_, D, r, ls, _, h, EXT_refl, e, hl, lDc vDi h1, rfl, ?_, q3⟩
      · show 20 ≤ ah_k H (r a); rw [(zE e da).1]; exact q1
      · show ah_k H (r a) ≤ 23; rw [(zE e da).1]; exact q2
      · show Value.int (Int32.ofNat (ah_z H (r a))) :: _ = _; rw [(zE e da).2]; rfl
    | retAddr n =>
      show (match Value.retAddr n with | .ref a => 20 ≤ ah_k H a ∧ ah_k H a ≤ 23 ∧ KS D r h H K (ip + 1) (ls.map (vm r)) (.int (Int32.ofNat (ah_z H a)) :: r1.map (vm r)) H | .retAddr 1 => KS D r h H K (ip + 1) (ls.map (vm r)) (.int (Int32.ofNat sc.2) :: r1.map (vm r)) H | _ => False)
      split at q
      · next w => cases w
      · next w =>
        cases w
        exact ⟨D, r, ls, _, h, EXT_refl, e, hl, lDc vDi h1, rfl, rfl, q⟩
      · exact q.elim
    | _ => exact q.elim
  case newarray t => exact sim_pI hs fun n _ h1 => sim_and id fun _ => sim_and id fun _ => sim_and id fun _ => sim_new e hl h1
  case anewarray t => exact sim_pI hs fun n _ h1 => sim_and id fun _ => sim_and id fun _ => sim_new e hl h1
  case new c => exact sim_new e hl hs
  case invokestatic mi => exact sim_popA (fun _ _ h1 h2 => sim_and (fun z => by rw [List.length_map]; exact z) fun _ => sim_C h1 h2) _ _ _ lDn hs
  case invokespecial mi => exact sim_popA (F := fun as rest K KC KR => pA as fun _ _ => rest.length ≤ 4 ∧ KC mi as rest) (F' := fun as rest K KC KR => pA as fun _ _ => rest.length ≤ 4 ∧ KC mi as rest) (fun as rest h1 h2 => sim_pA h1 fun _ _ _ _ => sim_and (fun z => by rw [List.length_map]; exact z) fun _ => sim_C h1 h2) _ _ _ lDn hs
  case invokevirtual mi => exact sim_popA (F := fun as rest K KC KR => pA as fun a _ => ah_k h a = mC mi ∧ rest.length ≤ 4 ∧ KC mi as rest) (F' := fun as rest K KC KR => pA as fun a _ => ah_k H a = mC mi ∧ rest.length ≤ 4 ∧ KC mi as rest) (fun as rest h1 h2 => sim_pA h1 fun a _ da _ => sim_and (fun z => (zE e da).1.trans z) fun _ => sim_and (fun z => by rw [List.length_map]; exact z) fun _ => sim_C h1 h2) _ _ _ lDn hs
  all_goals exact sim_F
end SIM2
