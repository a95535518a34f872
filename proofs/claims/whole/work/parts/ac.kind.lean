/-! cells keep their kind -/
def hlk (h h' : AH) : Prop := ah_n h ≤ ah_n h' ∧ ∀ a, a < ah_n h → ah_k h' a = ah_k h a
theorem hk_new (h : AH) (kd len us : Nat) : hlk h (ap_n h kd len us) := ⟨Nat.le_succ _, fun a ha => by
  have ha' : a < h.1 := ha
  show (if a < h.1 + 1 then (if a = h.1 then (kd, len) else h.2.2.1 a).1 else 99) = if a < h.1 then (h.2.2.1 a).1 else 99
  rw [if_pos (by omega), if_neg (by omega), if_pos ha']⟩
def LEK (h : AH) (P : TK → TKC → TKR → Prop) : Prop := ∀ K KC KR, P K KC KR → P (fun ip ls st h' => K ip ls st h' ∧ hlk h h') KC (fun r h' => KR r h' ∧ hlk h h')
section LEKS
variable {h : AH}
theorem lk_K (ip : Nat) (ls st : List Value) (h0 : AH) (hl : hlk h h0) : LEK h (fun K _ _ => K ip ls st h0) := fun _ _ _ H => ⟨H, hl⟩
theorem lk_C (mi : Nat) (as rest : List Value) : LEK h (fun _ KC _ => KC mi as rest) := fun _ _ _ H => H
theorem lk_R (r : Rs) (h0 : AH) (hl : hlk h h0) : LEK h (fun _ _ KR => KR r h0) := fun _ _ _ H => ⟨H, hl⟩
theorem lk_F : LEK h (fun _ _ _ => False) := fun _ _ _ H => H
theorem lk_and {c : Prop} {P : TK → TKC → TKR → Prop} (hP : LEK h P) : LEK h (fun K KC KR => c ∧ P K KC KR) := fun _ _ _ H => ⟨H.1, hP _ _ _ H.2⟩
theorem lk_if {c : Prop} {P Q : TK → TKC → TKR → Prop} (hP : LEK h P) (hQ : LEK h Q) : LEK h (fun K KC KR => (c → P K KC KR) ∧ (¬ c → Q K KC KR)) := fun _ _ _ H => ⟨fun z => hP _ _ _ (H.1 z), fun z => hQ _ _ _ (H.2 z)⟩
theorem lk_pI {st : List Value} {F : Int32 → List Value → TK → TKC → TKR → Prop} (hF : ∀ x r, LEK h (F x r)) : LEK h (fun K KC KR => pI st fun x r => F x r K KC KR) := by
  intro K KC KR H
  obtain ⟨x, r, rfl, H⟩ := pI_inv H
  exact hF x r _ _ _ H
theorem lk_pL {st : List Value} {F : Int64 → List Value → TK → TKC → TKR → Prop} (hF : ∀ x r, LEK h (F x r)) : LEK h (fun K KC KR => pL st fun x r => F x r K KC KR) := by
  intro K KC KR H
  obtain ⟨x, r, rfl, H⟩ := pL_inv H
  exact hF x r _ _ _ H
theorem lk_pA {st : List Value} {F : Nat → List Value → TK → TKC → TKR → Prop} (hF : ∀ x r, LEK h (F x r)) : LEK h (fun K KC KR => pA st fun x r => F x r K KC KR) := by
  intro K KC KR H
  obtain ⟨x, r, rfl, H⟩ := pA_inv H
  exact hF x r _ _ _ H
theorem lk_pV {st : List Value} {F : Value → List Value → TK → TKC → TKR → Prop} (hF : ∀ x r, LEK h (F x r)) : LEK h (fun K KC KR => pV st fun x r => F x r K KC KR) := by
  intro K KC KR H
  obtain ⟨x, r, rfl, H⟩ := pV_inv H
  exact hF x r _ _ _ H
theorem lk_pQ {st : List Value} {F : Option Nat → List Value → TK → TKC → TKR → Prop} (hF : ∀ x r, LEK h (F x r)) : LEK h (fun K KC KR => pQ st fun x r => F x r K KC KR) := by
  intro K KC KR H
  obtain ⟨x, r, e, H2⟩ := pQ_inv (F := fun x r => F x r K KC KR) H
  subst e
  cases x <;> exact hF _ r _ _ _ H2
theorem lk_pE {st : List Value} {P : TK → TKC → TKR → Prop} (hP : LEK h P) : LEK h (fun K KC KR => pE st (P K KC KR)) := by
  intro K KC KR H
  obtain ⟨rfl, H⟩ := pE_inv H
  exact hP _ _ _ H
theorem lk_popA {F : List Value → List Value → TK → TKC → TKR → Prop} (hF : ∀ x r, LEK h (F x r)) : ∀ (n : Nat) (acc st : List Value), LEK h (fun K KC KR => popA n acc st fun x r => F x r K KC KR)
  | 0, acc, st => hF _ _
  | n + 1, acc, [] => lk_F
  | n + 1, acc, v :: r => lk_and (lk_popA hF n (v :: acc) r)
theorem lk_fput {t : Nat} {st : List Value} {h0 : AH} {k : Nat} {F : Nat → List Value → AH → TK → TKC → TKR → Prop} (hF : ∀ a st h2, hlk h0 h2 → LEK h (F a st h2)) : LEK h (fun K KC KR => fput t st h0 k fun a st h => F a st h K KC KR) := by
  unfold fput
  split
  · exact lk_pI fun _ _ => lk_pA fun _ _ => hF _ _ _ ⟨Nat.le_refl _, fun _ _ => rfl⟩
  · exact lk_pL fun _ _ => lk_pA fun _ _ => hF _ _ _ ⟨Nat.le_refl _, fun _ _ => rfl⟩
  · exact lk_pQ fun _ _ => lk_pA fun _ _ => hF _ _ _ ⟨Nat.le_refl _, fun _ _ => rfl⟩
  · exact lk_pI fun _ _ => lk_and (lk_pA fun _ _ => hF _ _ _ ⟨Nat.le_refl _, fun _ _ => rfl⟩)
end LEKS
section LEK2
variable {nA mC : Nat → Nat} {fty : Nat → Nat → Nat} {nfl : Nat → Nat} {sc : (Nat → Int32) × Nat}
set_option maxHeartbeats 4000000 in
theorem stp_lek (i : Instr) (ip : Nat) (ls st : List Value) (h : AH) : LEK h (stp nA mC fty nfl sc i ip ls st h) := by
  cases i
  case iload k => exact lk_pI fun _ _ => lk_K _ _ _ _ (by first | exact ⟨Nat.le_refl _, fun _ _ => rfl⟩ | exact hk_new _ _ _ _)
  case lload k => exact lk_pL fun _ _ => lk_K _ _ _ _ (by first | exact ⟨Nat.le_refl _, fun _ _ => rfl⟩ | exact hk_new _ _ _ _)
  case aload k => exact lk_and (lk_K _ _ _ _ (by first | exact ⟨Nat.le_refl _, fun _ _ => rfl⟩ | exact hk_new _ _ _ _))
  case istore k => exact lk_pI fun _ _ => lk_and (lk_K _ _ _ _ (by first | exact ⟨Nat.le_refl _, fun _ _ => rfl⟩ | exact hk_new _ _ _ _))
  case astore k => exact lk_pQ (F := fun x st K KC KR => k < ls.length ∧ K (ip + 1) (st1 ls k (va_rf x)) st h) fun _ _ => lk_and (lk_K _ _ _ _ (by first | exact ⟨Nat.le_refl _, fun _ _ => rfl⟩ | exact hk_new _ _ _ _))
  case lstore k => exact lk_pL fun _ _ => lk_and (lk_K _ _ _ _ (by first | exact ⟨Nat.le_refl _, fun _ _ => rfl⟩ | exact hk_new _ _ _ _))
  case iconst => exact lk_K _ _ _ _ (by first | exact ⟨Nat.le_refl _, fun _ _ => rfl⟩ | exact hk_new _ _ _ _)
  case sipush => exact lk_K _ _ _ _ (by first | exact ⟨Nat.le_refl _, fun _ _ => rfl⟩ | exact hk_new _ _ _ _)
  case aconst_null => exact lk_K _ _ _ _ (by first | exact ⟨Nat.le_refl _, fun _ _ => rfl⟩ | exact hk_new _ _ _ _)
  case iadd => exact lk_pI fun _ _ => lk_pI fun _ _ => lk_K _ _ _ _ (by first | exact ⟨Nat.le_refl _, fun _ _ => rfl⟩ | exact hk_new _ _ _ _)
  case isub => exact lk_pI fun _ _ => lk_pI fun _ _ => lk_K _ _ _ _ (by first | exact ⟨Nat.le_refl _, fun _ _ => rfl⟩ | exact hk_new _ _ _ _)
  case imul => exact lk_pI fun _ _ => lk_pI fun _ _ => lk_K _ _ _ _ (by first | exact ⟨Nat.le_refl _, fun _ _ => rfl⟩ | exact hk_new _ _ _ _)
  case iand => exact lk_pI fun _ _ => lk_pI fun _ _ => lk_K _ _ _ _ (by first | exact ⟨Nat.le_refl _, fun _ _ => rfl⟩ | exact hk_new _ _ _ _)
  case ior => exact lk_pI fun _ _ => lk_pI fun _ _ => lk_K _ _ _ _ (by first | exact ⟨Nat.le_refl _, fun _ _ => rfl⟩ | exact hk_new _ _ _ _)
  case ixor => exact lk_pI fun _ _ => lk_pI fun _ _ => lk_K _ _ _ _ (by first | exact ⟨Nat.le_refl _, fun _ _ => rfl⟩ | exact hk_new _ _ _ _)
  case idiv => exact lk_pI fun _ _ => lk_pI fun _ _ => lk_and (lk_K _ _ _ _ (by first | exact ⟨Nat.le_refl _, fun _ _ => rfl⟩ | exact hk_new _ _ _ _))
  case irem => exact lk_pI fun _ _ => lk_pI fun _ _ => lk_and (lk_K _ _ _ _ (by first | exact ⟨Nat.le_refl _, fun _ _ => rfl⟩ | exact hk_new _ _ _ _))
  case ishl => exact lk_pI fun _ _ => lk_pI fun _ _ => lk_K _ _ _ _ (by first | exact ⟨Nat.le_refl _, fun _ _ => rfl⟩ | exact hk_new _ _ _ _)
  case ishr => exact lk_pI fun _ _ => lk_pI fun _ _ => lk_K _ _ _ _ (by first | exact ⟨Nat.le_refl _, fun _ _ => rfl⟩ | exact hk_new _ _ _ _)
  case iushr => exact lk_pI fun _ _ => lk_pI fun _ _ => lk_K _ _ _ _ (by first | exact ⟨Nat.le_refl _, fun _ _ => rfl⟩ | exact hk_new _ _ _ _)
  case ladd => exact lk_pL fun _ _ => lk_pL fun _ _ => lk_K _ _ _ _ (by first | exact ⟨Nat.le_refl _, fun _ _ => rfl⟩ | exact hk_new _ _ _ _)
  case lsub => exact lk_pL fun _ _ => lk_pL fun _ _ => lk_K _ _ _ _ (by first | exact ⟨Nat.le_refl _, fun _ _ => rfl⟩ | exact hk_new _ _ _ _)
  case land => exact lk_pL fun _ _ => lk_pL fun _ _ => lk_K _ _ _ _ (by first | exact ⟨Nat.le_refl _, fun _ _ => rfl⟩ | exact hk_new _ _ _ _)
  case lor => exact lk_pL fun _ _ => lk_pL fun _ _ => lk_K _ _ _ _ (by first | exact ⟨Nat.le_refl _, fun _ _ => rfl⟩ | exact hk_new _ _ _ _)
  case lxor => exact lk_pL fun _ _ => lk_pL fun _ _ => lk_K _ _ _ _ (by first | exact ⟨Nat.le_refl _, fun _ _ => rfl⟩ | exact hk_new _ _ _ _)
  case lcmp => exact lk_pL fun _ _ => lk_pL fun _ _ => lk_K _ _ _ _ (by first | exact ⟨Nat.le_refl _, fun _ _ => rfl⟩ | exact hk_new _ _ _ _)
  case lneg => exact lk_pL fun _ _ => lk_K _ _ _ _ (by first | exact ⟨Nat.le_refl _, fun _ _ => rfl⟩ | exact hk_new _ _ _ _)
  case i2l => exact lk_pI fun _ _ => lk_K _ _ _ _ (by first | exact ⟨Nat.le_refl _, fun _ _ => rfl⟩ | exact hk_new _ _ _ _)
  case l2i => exact lk_pL fun _ _ => lk_K _ _ _ _ (by first | exact ⟨Nat.le_refl _, fun _ _ => rfl⟩ | exact hk_new _ _ _ _)
  case lshl => exact lk_pI fun _ _ => lk_pL fun _ _ => lk_K _ _ _ _ (by first | exact ⟨Nat.le_refl _, fun _ _ => rfl⟩ | exact hk_new _ _ _ _)
  case lshr => exact lk_pI fun _ _ => lk_pL fun _ _ => lk_K _ _ _ _ (by first | exact ⟨Nat.le_refl _, fun _ _ => rfl⟩ | exact hk_new _ _ _ _)
  case lushr => exact lk_pI fun _ _ => lk_pL fun _ _ => lk_K _ _ _ _ (by first | exact ⟨Nat.le_refl _, fun _ _ => rfl⟩ | exact hk_new _ _ _ _)
  case dup => exact lk_pV fun _ _ => lk_and (lk_and (lk_K _ _ _ _ (by first | exact ⟨Nat.le_refl _, fun _ _ => rfl⟩ | exact hk_new _ _ _ _)))
  case pop => exact lk_pV fun _ _ => lk_and (lk_and (lk_K _ _ _ _ (by first | exact ⟨Nat.le_refl _, fun _ _ => rfl⟩ | exact hk_new _ _ _ _)))
  case dup2 => exact lk_pV fun _ _ => lk_pV fun _ _ => lk_and (lk_and (lk_and (lk_and (lk_K _ _ _ _ (by first | exact ⟨Nat.le_refl _, fun _ _ => rfl⟩ | exact hk_new _ _ _ _)))))
  case i2c => exact lk_pI fun _ _ => lk_pI fun _ _ => lk_and (lk_K _ _ _ _ (by first | exact ⟨Nat.le_refl _, fun _ _ => rfl⟩ | exact hk_new _ _ _ _))
  case i2s => exact lk_pI fun _ _ => lk_pI fun _ _ => lk_and (lk_K _ _ _ _ (by first | exact ⟨Nat.le_refl _, fun _ _ => rfl⟩ | exact hk_new _ _ _ _))
  case monitorenter => exact lk_pA fun _ _ => lk_and (lk_K _ _ _ _ (by first | exact ⟨Nat.le_refl _, fun _ _ => rfl⟩ | exact hk_new _ _ _ _))
  case ifCond c t => exact lk_pI fun _ _ => lk_if (lk_K _ _ _ _ (by first | exact ⟨Nat.le_refl _, fun _ _ => rfl⟩ | exact hk_new _ _ _ _)) (lk_K _ _ _ _ (by first | exact ⟨Nat.le_refl _, fun _ _ => rfl⟩ | exact hk_new _ _ _ _))
  case if_icmp c t => exact lk_pI fun _ _ => lk_pI fun _ _ => lk_if (lk_K _ _ _ _ (by first | exact ⟨Nat.le_refl _, fun _ _ => rfl⟩ | exact hk_new _ _ _ _)) (lk_K _ _ _ _ (by first | exact ⟨Nat.le_refl _, fun _ _ => rfl⟩ | exact hk_new _ _ _ _))
  case ifnull t => exact lk_pQ (F := fun x st K KC KR => (x = none → K t.toNat ls st h) ∧ (¬ x = none → K (ip + 1) ls st h)) fun x r => lk_if (P := fun K _ _ => K t.toNat ls r h) (Q := fun K _ _ => K (ip + 1) ls r h) (lk_K _ _ _ _ (by first | exact ⟨Nat.le_refl _, fun _ _ => rfl⟩ | exact hk_new _ _ _ _)) (lk_K _ _ _ _ (by first | exact ⟨Nat.le_refl _, fun _ _ => rfl⟩ | exact hk_new _ _ _ _))
  case goto t => exact lk_K _ _ _ _ (by first | exact ⟨Nat.le_refl _, fun _ _ => rfl⟩ | exact hk_new _ _ _ _)
  case iinc k n => exact lk_pI fun _ _ => lk_and (lk_K _ _ _ _ (by first | exact ⟨Nat.le_refl _, fun _ _ => rfl⟩ | exact hk_new _ _ _ _))
  case tableswitch d lo hi os =>
    refine lk_pI fun x r => ?_
    intro K KC KR H
    refine ⟨fun z => ⟨H.1 z, Nat.le_refl _, fun _ _ => rfl⟩, fun z1 z2 => ?_⟩
    obtain ⟨t, e, g⟩ := H.2 z1 z2
    exact ⟨t, e, g, Nat.le_refl _, fun _ _ => rfl⟩
  case ireturn => exact lk_pI fun _ _ => lk_pE (lk_R _ _ (by first | exact ⟨Nat.le_refl _, fun _ _ => rfl⟩ | exact hk_new _ _ _ _))
  case freturn => exact lk_pI fun _ _ => lk_pE (lk_and (lk_R _ _ (by first | exact ⟨Nat.le_refl _, fun _ _ => rfl⟩ | exact hk_new _ _ _ _)))
  case lreturn => exact lk_pL fun _ _ => lk_pE (lk_R _ _ (by first | exact ⟨Nat.le_refl _, fun _ _ => rfl⟩ | exact hk_new _ _ _ _))
  case areturn => exact lk_pQ (F := fun x st K KC KR => pE st (KR (.inl (some (va_rf x))) h)) fun _ _ => lk_pE (lk_R _ _ (by first | exact ⟨Nat.le_refl _, fun _ _ => rfl⟩ | exact hk_new _ _ _ _))
  case return_ => exact lk_pE (lk_R _ _ (by first | exact ⟨Nat.le_refl _, fun _ _ => rfl⟩ | exact hk_new _ _ _ _))
  case ldc E => exact lk_and (lk_R _ _ (by first | exact ⟨Nat.le_refl _, fun _ _ => rfl⟩ | exact hk_new _ _ _ _))
  case getfield n => exact lk_pA fun _ _ => lk_and (lk_K _ _ _ _ (by first | exact ⟨Nat.le_refl _, fun _ _ => rfl⟩ | exact hk_new _ _ _ _))
  case putfield n => exact lk_fput (F := fun a st h K KC KR => ah_k h a = n / 100 ∧ K (ip + 1) ls st h) fun _ _ _ hl => lk_and (lk_K _ _ _ _ hl)
  case iaload =>
    refine lk_pI fun _ _ => lk_pV fun v r => ?_
    split
    · exact lk_and (lk_and (lk_K _ _ _ _ (by first | exact ⟨Nat.le_refl _, fun _ _ => rfl⟩ | exact hk_new _ _ _ _)))
    · exact lk_and (lk_K _ _ _ _ (by first | exact ⟨Nat.le_refl _, fun _ _ => rfl⟩ | exact hk_new _ _ _ _))
    · exact lk_F
  case iastore => exact lk_pI fun _ _ => lk_pI fun _ _ => lk_pA fun _ _ => lk_and (lk_and (lk_K _ _ _ _ (by first | exact ⟨Nat.le_refl _, fun _ _ => rfl⟩ | exact hk_new _ _ _ _)))
  case laload => exact lk_pI fun _ _ => lk_pA fun _ _ => lk_and (lk_and (lk_K _ _ _ _ (by first | exact ⟨Nat.le_refl _, fun _ _ => rfl⟩ | exact hk_new _ _ _ _)))
  case lastore => exact lk_pL fun _ _ => lk_pI fun _ _ => lk_pA fun _ _ => lk_and (lk_and (lk_K _ _ _ _ (by first | exact ⟨Nat.le_refl _, fun _ _ => rfl⟩ | exact hk_new _ _ _ _)))
  case baload => exact lk_pI fun _ _ => lk_pA fun _ _ => lk_and (lk_and (lk_K _ _ _ _ (by first | exact ⟨Nat.le_refl _, fun _ _ => rfl⟩ | exact hk_new _ _ _ _)))
  case bastore => exact lk_pI fun _ _ => lk_pI fun _ _ => lk_pA fun _ _ => lk_and (lk_and (lk_and (lk_K _ _ _ _ (by first | exact ⟨Nat.le_refl _, fun _ _ => rfl⟩ | exact hk_new _ _ _ _))))
  case aaload => exact lk_pI fun _ _ => lk_pA fun _ _ => lk_and (lk_and (lk_K _ _ _ _ (by first | exact ⟨Nat.le_refl _, fun _ _ => rfl⟩ | exact hk_new _ _ _ _)))
  case aastore => exact lk_pQ (F := fun v st K KC KR => pI st fun i st => pA st fun a st => ah_k h a = 23 ∧ vp_in i (ah_z h a) ∧ (∀ q, v = some q → ah_k h q = 8) ∧ K (ip + 1) ls st (ap_r h a i.toNatClampNeg v)) fun _ _ => lk_pI fun _ _ => lk_pA fun _ _ => lk_and (lk_and (lk_and (lk_K _ _ _ _ (by first | exact ⟨Nat.le_refl _, fun _ _ => rfl⟩ | exact hk_new _ _ _ _))))
  case arraylength =>
    refine lk_pV fun v r => ?_
    split
    · exact lk_and (lk_and (lk_K _ _ _ _ (by first | exact ⟨Nat.le_refl _, fun _ _ => rfl⟩ | exact hk_new _ _ _ _)))
    · exact lk_K _ _ _ _ (by first | exact ⟨Nat.le_refl _, fun _ _ => rfl⟩ | exact hk_new _ _ _ _)
    · exact lk_F
  case newarray t => exact lk_pI fun _ _ => lk_and (lk_and (lk_and (lk_K _ _ _ _ (by first | exact ⟨Nat.le_refl _, fun _ _ => rfl⟩ | exact hk_new _ _ _ _))))
  case anewarray t => exact lk_pI fun _ _ => lk_and (lk_and (lk_K _ _ _ _ (by first | exact ⟨Nat.le_refl _, fun _ _ => rfl⟩ | exact hk_new _ _ _ _)))
  case new c => exact lk_K _ _ _ _ (by first | exact ⟨Nat.le_refl _, fun _ _ => rfl⟩ | exact hk_new _ _ _ _)
  case invokestatic mi => exact lk_popA (fun _ _ => lk_and (lk_C _ _ _)) _ _ _
  case invokespecial mi => exact lk_popA (fun _ _ => lk_pA fun _ _ => lk_and (lk_C _ _ _)) _ _ _
  case invokevirtual mi => exact lk_popA (fun _ _ => lk_pA fun _ _ => lk_and (lk_and (lk_C _ _ _))) _ _ _
  all_goals exact lk_F
variable {mT : Nat → Bool} {cd : Nat → Option Instr} {hd : Nat → Nat → Option (Nat × Nat)} {C : Nat → List Value → AH → Rs → AH → Prop}
theorem SR_lk (hC : ∀ mi as h r h', C mi as h r h' → hlk h h') : ∀ (n : Nat) (ip : Nat) (ls st : List Value) (h : AH) (r : Rs) (h' : AH), SR nA mC fty nfl sc mT cd hd C n ip ls st h r h' → hlk h h'
  | 0, _, _, _, _, _, _, H => H.elim
  | n + 1, ip, ls, st, h, r, h', H => by
    obtain ⟨i, hi, H⟩ := H
    have H2 := stp_lek (nA := nA) (mC := mC) (fty := fty) (nfl := nfl) (sc := sc) i ip ls st h _ _ _ H
    have tr : ∀ {a b c : AH}, hlk a b → hlk b c → hlk a c := fun x y => ⟨Nat.le_trans x.1 y.1, fun q hq => (y.2 q (Nat.lt_of_lt_of_le hq x.1)).trans (x.2 q hq)⟩
    rcases stp_lin (nA := nA) (mC := mC) (fty := fty) (nfl := nfl) (sc := sc) i ip ls st h with ⟨a, b, c, d, g⟩ | ⟨a, b, c, g⟩ | ⟨a, b, g⟩ | g
    · obtain ⟨q1, q2⟩ := (g _ _ _).mp H2
      exact tr q2 (SR_lk hC n _ _ _ _ _ _ q1)
    · obtain ⟨r1, h1, c1, q⟩ := (g _ _ _).mp H
      have z := hC _ _ _ _ _ c1
      cases r1 with
      | inl v => exact tr z (SR_lk hC n _ _ _ _ _ _ q)
      | inr E =>
        have q := q.2
        split at q
        · exact tr z (SR_lk hC n _ _ _ _ _ _ q.2)
        · rw [q.2]; exact z
    · obtain ⟨⟨q0, q1⟩, q2⟩ := (g _ _ _).mp H2
      rw [q1]; exact q2
    · exact (g _ _ _ H).elim
variable {mL : Nat → Nat} {cdo : Nat → Nat → Option Instr} {hdo : Nat → Nat → Nat → Option (Nat × Nat)}
theorem Rn_lk : ∀ (d mi : Nat) (as : List Value) (h : AH) (r : Rs) (h' : AH), Rn nA mC fty nfl sc mT mL cdo hdo d mi as h r h' → hlk h h'
  | 0, _, _, _, _, _, H => H.elim
  | d + 1, _, _, _, _, _, ⟨_, _, H⟩ => SR_lk (fun mi as h r h' q => Rn_lk d mi as h r h' q) _ _ _ _ _ _ _ H
end LEK2
theorem TC_hk {sc : (Nat → Int32) × Nat} {d mi : Nat} {as : List Value} {h : AH} {Q : Rs → AH → Prop} (H : TC sc d mi as h Q) : TC sc d mi as h fun r h' => Q r h' ∧ hlk h h' := by
  obtain ⟨r, h', x, q⟩ := H
  exact ⟨r, h', x, q, Rn_lk _ _ _ _ _ _ x⟩
