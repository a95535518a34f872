/-! the heap grows -/
def hle (h h' : AH) : Prop := ah_n h ≤ ah_n h' ∧ ah_u h ≤ ah_u h'
def LEQ (h : AH) (P : TK → TKC → TKR → Prop) : Prop := ∀ K KC KR, P K KC KR → P (fun ip ls st h' => K ip ls st h' ∧ hle h h') KC (fun r h' => KR r h' ∧ hle h h')
section LEQS
variable {h : AH}
theorem lq_K (ip : Nat) (ls st : List Value) (h0 : AH) (hl : hle h h0) : LEQ h (fun K _ _ => K ip ls st h0) := fun _ _ _ H => ⟨H, hl⟩
theorem lq_C (mi : Nat) (as rest : List Value) : LEQ h (fun _ KC _ => KC mi as rest) := fun _ _ _ H => H
theorem lq_R (r : Rs) (h0 : AH) (hl : hle h h0) : LEQ h (fun _ _ KR => KR r h0) := fun _ _ _ H => ⟨H, hl⟩
theorem lq_F : LEQ h (fun _ _ _ => False) := fun _ _ _ H => H
theorem lq_and {c : Prop} {P : TK → TKC → TKR → Prop} (hP : LEQ h P) : LEQ h (fun K KC KR => c ∧ P K KC KR) := fun _ _ _ H => ⟨H.1, hP _ _ _ H.2⟩
theorem lq_if {c : Prop} {P Q : TK → TKC → TKR → Prop} (hP : LEQ h P) (hQ : LEQ h Q) : LEQ h (fun K KC KR => (c → P K KC KR) ∧ (¬ c → Q K KC KR)) := fun _ _ _ H => ⟨fun z => hP _ _ _ (H.1 z), fun z => hQ _ _ _ (H.2 z)⟩
theorem lq_pI {st : List Value} {F : Int32 → List Value → TK → TKC → TKR → Prop} (hF : ∀ x r, LEQ h (F x r)) : LEQ h (fun K KC KR => pI st fun x r => F x r K KC KR) := by
  intro K KC KR H
  obtain ⟨x, r, rfl, H⟩ := pI_inv H
  exact hF x r _ _ _ H
theorem lq_pL {st : List Value} {F : Int64 → List Value → TK → TKC → TKR → Prop} (hF : ∀ x r, LEQ h (F x r)) : LEQ h (fun K KC KR => pL st fun x r => F x r K KC KR) := by
  intro K KC KR H
  obtain ⟨x, r, rfl, H⟩ := pL_inv H
  exact hF x r _ _ _ H
theorem lq_pA {st : List Value} {F : Nat → List Value → TK → TKC → TKR → Prop} (hF : ∀ x r, LEQ h (F x r)) : LEQ h (fun K KC KR => pA st fun x r => F x r K KC KR) := by
  intro K KC KR H
  obtain ⟨x, r, rfl, H⟩ := pA_inv H
  exact hF x r _ _ _ H
theorem lq_pV {st : List Value} {F : Value → List Value → TK → TKC → TKR → Prop} (hF : ∀ x r, LEQ h (F x r)) : LEQ h (fun K KC KR => pV st fun x r => F x r K KC KR) := by
  intro K KC KR H
  obtain ⟨x, r, rfl, H⟩ := pV_inv H
  exact hF x r _ _ _ H
theorem lq_pQ {st : List Value} {F : Option Nat → List Value → TK → TKC → TKR → Prop} (hF : ∀ x r, LEQ h (F x r)) : LEQ h (fun K KC KR => pQ st fun x r => F x r K KC KR) := by
  intro K KC KR H
  obtain ⟨x, r, e, H2⟩ := pQ_inv (F := fun x r => F x r K KC KR) H
  subst e
  cases x <;> exact hF _ r _ _ _ H2
theorem lq_pE {st : List Value} {P : TK → TKC → TKR → Prop} (hP : LEQ h P) : LEQ h (fun K KC KR => pE st (P K KC KR)) := by
  intro K KC KR H
  obtain ⟨rfl, H⟩ := pE_inv H
  exact hP _ _ _ H
theorem lq_popA {F : List Value → List Value → TK → TKC → TKR → Prop} (hF : ∀ x r, LEQ h (F x r)) : ∀ (n : Nat) (acc st : List Value), LEQ h (fun K KC KR => popA n acc st fun x r => F x r K KC KR)
  | 0, acc, st => hF _ _
  | n + 1, acc, [] => lq_F
  | n + 1, acc, v :: r => lq_and (lq_popA hF n (v :: acc) r)
theorem lq_fput {t : Nat} {st : List Value} {h0 : AH} {k : Nat} {F : Nat → List Value → AH → TK → TKC → TKR → Prop} (hF : ∀ a st h2, hle h0 h2 → LEQ h (F a st h2)) : LEQ h (fun K KC KR => fput t st h0 k fun a st h => F a st h K KC KR) := by
  unfold fput
  split
  · exact lq_pI fun _ _ => lq_pA fun _ _ => hF _ _ _ ⟨Nat.le_refl _, Nat.le_refl _⟩
  · exact lq_pL fun _ _ => lq_pA fun _ _ => hF _ _ _ ⟨Nat.le_refl _, Nat.le_refl _⟩
  · exact lq_pQ fun _ _ => lq_pA fun _ _ => hF _ _ _ ⟨Nat.le_refl _, Nat.le_refl _⟩
  · exact lq_pI fun _ _ => lq_and (lq_pA fun _ _ => hF _ _ _ ⟨Nat.le_refl _, Nat.le_refl _⟩)
end LEQS
section LEQ2
variable {nA mC : Nat → Nat} {fty : Nat → Nat → Nat} {nfl : Nat → Nat} {sc : (Nat → Int32) × Nat}
set_option maxHeartbeats 4000000 in
theorem stp_leq (i : Instr) (ip : Nat) (ls st : List Value) (h : AH) : LEQ h (stp nA mC fty nfl sc i ip ls st h) := by
  cases i
  case iload k => exact lq_pI fun _ _ => lq_K _ _ _ _ (by first | exact ⟨Nat.le_refl _, Nat.le_refl _⟩ | exact ⟨Nat.le_succ _, Nat.le_add_right _ _⟩)
  case lload k => exact lq_pL fun _ _ => lq_K _ _ _ _ (by first | exact ⟨Nat.le_refl _, Nat.le_refl _⟩ | exact ⟨Nat.le_succ _, Nat.le_add_right _ _⟩)
  case aload k => exact lq_and (lq_K _ _ _ _ (by first | exact ⟨Nat.le_refl _, Nat.le_refl _⟩ | exact ⟨Nat.le_succ _, Nat.le_add_right _ _⟩))
  case istore k => exact lq_pI fun _ _ => lq_and (lq_K _ _ _ _ (by first | exact ⟨Nat.le_refl _, Nat.le_refl _⟩ | exact ⟨Nat.le_succ _, Nat.le_add_right _ _⟩))
  case astore k => exact lq_pQ (F := fun x st K KC KR => k < ls.length ∧ K (ip + 1) (st1 ls k (va_rf x)) st h) fun _ _ => lq_and (lq_K _ _ _ _ (by first | exact ⟨Nat.le_refl _, Nat.le_refl _⟩ | exact ⟨Nat.le_succ _, Nat.le_add_right _ _⟩))
  case lstore k => exact lq_pL fun _ _ => lq_and (lq_K _ _ _ _ (by first | exact ⟨Nat.le_refl _, Nat.le_refl _⟩ | exact ⟨Nat.le_succ _, Nat.le_add_right _ _⟩))
  case iconst => exact lq_K _ _ _ _ (by first | exact ⟨Nat.le_refl _, Nat.le_refl _⟩ | exact ⟨Nat.le_succ _, Nat.le_add_right _ _⟩)
  case sipush => exact lq_K _ _ _ _ (by first | exact ⟨Nat.le_refl _, Nat.le_refl _⟩ | exact ⟨Nat.le_succ _, Nat.le_add_right _ _⟩)
  case aconst_null => exact lq_K _ _ _ _ (by first | exact ⟨Nat.le_refl _, Nat.le_refl _⟩ | exact ⟨Nat.le_succ _, Nat.le_add_right _ _⟩)
  case iadd => exact lq_pI fun _ _ => lq_pI fun _ _ => lq_K _ _ _ _ (by first | exact ⟨Nat.le_refl _, Nat.le_refl _⟩ | exact ⟨Nat.le_succ _, Nat.le_add_right _ _⟩)
  case isub => exact lq_pI fun _ _ => lq_pI fun _ _ => lq_K _ _ _ _ (by first | exact ⟨Nat.le_refl _, Nat.le_refl _⟩ | exact ⟨Nat.le_succ _, Nat.le_add_right _ _⟩)
  case imul => exact lq_pI fun _ _ => lq_pI fun _ _ => lq_K _ _ _ _ (by first | exact ⟨Nat.le_refl _, Nat.le_refl _⟩ | exact ⟨Nat.le_succ _, Nat.le_add_right _ _⟩)
  case iand => exact lq_pI fun _ _ => lq_pI fun _ _ => lq_K _ _ _ _ (by first | exact ⟨Nat.le_refl _, Nat.le_refl _⟩ | exact ⟨Nat.le_succ _, Nat.le_add_right _ _⟩)
  case ior => exact lq_pI fun _ _ => lq_pI fun _ _ => lq_K _ _ _ _ (by first | exact ⟨Nat.le_refl _, Nat.le_refl _⟩ | exact ⟨Nat.le_succ _, Nat.le_add_right _ _⟩)
  case ixor => exact lq_pI fun _ _ => lq_pI fun _ _ => lq_K _ _ _ _ (by first | exact ⟨Nat.le_refl _, Nat.le_refl _⟩ | exact ⟨Nat.le_succ _, Nat.le_add_right _ _⟩)
  case idiv => exact lq_pI fun _ _ => lq_pI fun _ _ => lq_and (lq_K _ _ _ _ (by first | exact ⟨Nat.le_refl _, Nat.le_refl _⟩ | exact ⟨Nat.le_succ _, Nat.le_add_right _ _⟩))
  case irem => exact lq_pI fun _ _ => lq_pI fun _ _ => lq_and (lq_K _ _ _ _ (by first | exact ⟨Nat.le_refl _, Nat.le_refl _⟩ | exact ⟨Nat.le_succ _, Nat.le_add_right _ _⟩))
  case ishl => exact lq_pI fun _ _ => lq_pI fun _ _ => lq_K _ _ _ _ (by first | exact ⟨Nat.le_refl _, Nat.le_refl _⟩ | exact ⟨Nat.le_succ _, Nat.le_add_right _ _⟩)
  case ishr => exact lq_pI fun _ _ => lq_pI fun _ _ => lq_K _ _ _ _ (by first | exact ⟨Nat.le_refl _, Nat.le_refl _⟩ | exact ⟨Nat.le_succ _, Nat.le_add_right _ _⟩)
  case iushr => exact lq_pI fun _ _ => lq_pI fun _ _ => lq_K _ _ _ _ (by first | exact ⟨Nat.le_refl _, Nat.le_refl _⟩ | exact ⟨Nat.le_succ _, Nat.le_add_right _ _⟩)
  case ladd => exact lq_pL fun _ _ => lq_pL fun _ _ => lq_K _ _ _ _ (by first | exact ⟨Nat.le_refl _, Nat.le_refl _⟩ | exact ⟨Nat.le_succ _, Nat.le_add_right _ _⟩)
  case lsub => exact lq_pL fun _ _ => lq_pL fun _ _ => lq_K _ _ _ _ (by first | exact ⟨Nat.le_refl _, Nat.le_refl _⟩ | exact ⟨Nat.le_succ _, Nat.le_add_right _ _⟩)
  case land => exact lq_pL fun _ _ => lq_pL fun _ _ => lq_K _ _ _ _ (by first | exact ⟨Nat.le_refl _, Nat.le_refl _⟩ | exact ⟨Nat.le_succ _, Nat.le_add_right _ _⟩)
  case lor => exact lq_pL fun _ _ => lq_pL fun _ _ => lq_K _ _ _ _ (by first | exact ⟨Nat.le_refl _, Nat.le_refl _⟩ | exact ⟨Nat.le_succ _, Nat.le_add_right _ _⟩)
  case lxor => exact lq_pL fun _ _ => lq_pL fun _ _ => lq_K _ _ _ _ (by first | exact ⟨Nat.le_refl _, Nat.le_refl _⟩ | exact ⟨Nat.le_succ _, Nat.le_add_right _ _⟩)
  case lcmp => exact lq_pL fun _ _ => lq_pL fun _ _ => lq_K _ _ _ _ (by first | exact ⟨Nat.le_refl _, Nat.le_refl _⟩ | exact ⟨Nat.le_succ _, Nat.le_add_right _ _⟩)
  case lneg => exact lq_pL fun _ _ => lq_K _ _ _ _ (by first | exact ⟨Nat.le_refl _, Nat.le_refl _⟩ | exact ⟨Nat.le_succ _, Nat.le_add_right _ _⟩)
  case i2l => exact lq_pI fun _ _ => lq_K _ _ _ _ (by first | exact ⟨Nat.le_refl _, Nat.le_refl _⟩ | exact ⟨Nat.le_succ _, Nat.le_add_right _ _⟩)
  case l2i => exact lq_pL fun _ _ => lq_K _ _ _ _ (by first | exact ⟨Nat.le_refl _, Nat.le_refl _⟩ | exact ⟨Nat.le_succ _, Nat.le_add_right _ _⟩)
  case lshl => exact lq_pI fun _ _ => lq_pL fun _ _ => lq_K _ _ _ _ (by first | exact ⟨Nat.le_refl _, Nat.le_refl _⟩ | exact ⟨Nat.le_succ _, Nat.le_add_right _ _⟩)
  case lshr => exact lq_pI fun _ _ => lq_pL fun _ _ => lq_K _ _ _ _ (by first | exact ⟨Nat.le_refl _, Nat.le_refl _⟩ | exact ⟨Nat.le_succ _, Nat.le_add_right _ _⟩)
  case lushr => exact lq_pI fun _ _ => lq_pL fun _ _ => lq_K _ _ _ _ (by first | exact ⟨Nat.le_refl _, Nat.le_refl _⟩ | exact ⟨Nat.le_succ _, Nat.le_add_right _ _⟩)
  case dup => exact lq_pV fun _ _ => lq_and (lq_and (lq_K _ _ _ _ (by first | exact ⟨Nat.le_refl _, Nat.le_refl _⟩ | exact ⟨Nat.le_succ _, Nat.le_add_right _ _⟩)))
  case pop => exact lq_pV fun _ _ => lq_and (lq_and (lq_K _ _ _ _ (by first | exact ⟨Nat.le_refl _, Nat.le_refl _⟩ | exact ⟨Nat.le_succ _, Nat.le_add_right _ _⟩)))
  case dup2 => exact lq_pV fun _ _ => lq_pV fun _ _ => lq_and (lq_and (lq_and (lq_and (lq_K _ _ _ _ (by first | exact ⟨Nat.le_refl _, Nat.le_refl _⟩ | exact ⟨Nat.le_succ _, Nat.le_add_right _ _⟩)))))
  case i2c => exact lq_pI fun _ _ => lq_pI fun _ _ => lq_and (lq_K _ _ _ _ (by first | exact ⟨Nat.le_refl _, Nat.le_refl _⟩ | exact ⟨Nat.le_succ _, Nat.le_add_right _ _⟩))
  case i2s => exact lq_pI fun _ _ => lq_pI fun _ _ => lq_and (lq_K _ _ _ _ (by first | exact ⟨Nat.le_refl _, Nat.le_refl _⟩ | exact ⟨Nat.le_succ _, Nat.le_add_right _ _⟩))
  case monitorenter => exact lq_pA fun _ _ => lq_and (lq_K _ _ _ _ (by first | exact ⟨Nat.le_refl _, Nat.le_refl _⟩ | exact ⟨Nat.le_succ _, Nat.le_add_right _ _⟩))
  case ifCond c t => exact lq_pI fun _ _ => lq_if (lq_K _ _ _ _ (by first | exact ⟨Nat.le_refl _, Nat.le_refl _⟩ | exact ⟨Nat.le_succ _, Nat.le_add_right _ _⟩)) (lq_K _ _ _ _ (by first | exact ⟨Nat.le_refl _, Nat.le_refl _⟩ | exact ⟨Nat.le_succ _, Nat.le_add_right _ _⟩))
  case if_icmp c t => exact lq_pI fun _ _ => lq_pI fun _ _ => lq_if (lq_K _ _ _ _ (by first | exact ⟨Nat.le_refl _, Nat.le_refl _⟩ | exact ⟨Nat.le_succ _, Nat.le_add_right _ _⟩)) (lq_K _ _ _ _ (by first | exact ⟨Nat.le_refl _, Nat.le_refl _⟩ | exact ⟨Nat.le_succ _, Nat.le_add_right _ _⟩))
  case ifnull t => exact lq_pQ (F := fun x st K KC KR => (x = none → K t.toNat ls st h) ∧ (¬ x = none → K (ip + 1) ls st h)) fun x r => lq_if (P := fun K _ _ => K t.toNat ls r h) (Q := fun K _ _ => K (ip + 1) ls r h) (lq_K _ _ _ _ (by first | exact ⟨Nat.le_refl _, Nat.le_refl _⟩ | exact ⟨Nat.le_succ _, Nat.le_add_right _ _⟩)) (lq_K _ _ _ _ (by first | exact ⟨Nat.le_refl _, Nat.le_refl _⟩ | exact ⟨Nat.le_succ _, Nat.le_add_right _ _⟩))
  case goto t => exact lq_K _ _ _ _ (by first | exact ⟨Nat.le_refl _, Nat.le_refl _⟩ | exact ⟨Nat.le_succ _, Nat.le_add_right _ _⟩)
  case iinc k n => exact lq_pI fun _ _ => lq_and (lq_K _ _ _ _ (by first | exact ⟨Nat.le_refl _, Nat.le_refl _⟩ | exact ⟨Nat.le_succ _, Nat.le_add_right _ _⟩))
  case tableswitch d lo hi os =>
    refine lq_pI fun x r => ?_
    intro K KC KR H
    refine ⟨fun z => ⟨H.1 z, Nat.le_refl _, Nat.le_refl _⟩, fun z1 z2 => ?_⟩
    obtain ⟨t, e, g⟩ := H.2 z1 z2
    exact ⟨t, e, g, Nat.le_refl _, Nat.le_refl _⟩
  case ireturn => exact lq_pI fun _ _ => lq_pE (lq_R _ _ (by first | exact ⟨Nat.le_refl _, Nat.le_refl _⟩ | exact ⟨Nat.le_succ _, Nat.le_add_right _ _⟩))
  case freturn => exact lq_pI fun _ _ => lq_pE (lq_and (lq_R _ _ (by first | exact ⟨Nat.le_refl _, Nat.le_refl _⟩ | exact ⟨Nat.le_succ _, Nat.le_add_right _ _⟩)))
  case lreturn => exact lq_pL fun _ _ => lq_pE (lq_R _ _ (by first | exact ⟨Nat.le_refl _, Nat.le_refl _⟩ | exact ⟨Nat.le_succ _, Nat.le_add_right _ _⟩))
  case areturn => exact lq_pQ (F := fun x st K KC KR => pE st (KR (.inl (some (va_rf x))) h)) fun _ _ => lq_pE (lq_R _ _ (by first | exact ⟨Nat.le_refl _, Nat.le_refl _⟩ | exact ⟨Nat.le_succ _, Nat.le_add_right _ _⟩))
  case return_ => exact lq_pE (lq_R _ _ (by first | exact ⟨Nat.le_refl _, Nat.le_refl _⟩ | exact ⟨Nat.le_succ _, Nat.le_add_right _ _⟩))
  case ldc E => exact lq_and (lq_R _ _ (by first | exact ⟨Nat.le_refl _, Nat.le_refl _⟩ | exact ⟨Nat.le_succ _, Nat.le_add_right _ _⟩))
  case getfield n => exact lq_pA fun _ _ => lq_and (lq_K _ _ _ _ (by first | exact ⟨Nat.le_refl _, Nat.le_refl _⟩ | exact ⟨Nat.le_succ _, Nat.le_add_right _ _⟩))
  case putfield n => exact lq_fput (F := fun a st h K KC KR => ah_k h a = n / 100 ∧ K (ip + 1) ls st h) fun _ _ _ hl => lq_and (lq_K _ _ _ _ hl)
  case iaload =>
    refine lq_pI fun _ _ => lq_pV fun v r => ?_
    split
    · exact lq_and (lq_and (lq_K _ _ _ _ (by first | exact ⟨Nat.le_refl _, Nat.le_refl _⟩ | exact ⟨Nat.le_succ _, Nat.le_add_right _ _⟩)))
    · exact lq_and (lq_K _ _ _ _ (by first | exact ⟨Nat.le_refl _, Nat.le_refl _⟩ | exact ⟨Nat.le_succ _, Nat.le_add_right _ _⟩))
    · exact lq_F
  case iastore => exact lq_pI fun _ _ => lq_pI fun _ _ => lq_pA fun _ _ => lq_and (lq_and (lq_K _ _ _ _ (by first | exact ⟨Nat.le_refl _, Nat.le_refl _⟩ | exact ⟨Nat.le_succ _, Nat.le_add_right _ _⟩)))
  case laload => exact lq_pI fun _ _ => lq_pA fun _ _ => lq_and (lq_and (lq_K _ _ _ _ (by first | exact ⟨Nat.le_refl _, Nat.le_refl _⟩ | exact ⟨Nat.le_succ _, Nat.le_add_right _ _⟩)))
  case lastore => exact lq_pL fun _ _ => lq_pI fun _ _ => lq_pA fun _ _ => lq_and (lq_and (lq_K _ _ _ _ (by first | exact ⟨Nat.le_refl _, Nat.le_refl _⟩ | exact ⟨Nat.le_succ _, Nat.le_add_right _ _⟩)))
  case baload => exact lq_pI fun _ _ => lq_pA fun _ _ => lq_and (lq_and (lq_K _ _ _ _ (by first | exact ⟨Nat.le_refl _, Nat.le_refl _⟩ | exact ⟨Nat.le_succ _, Nat.le_add_right _ _⟩)))
  case bastore => exact lq_pI fun _ _ => lq_pI fun _ _ => lq_pA fun _ _ => lq_and (lq_and (lq_and (lq_K _ _ _ _ (by first | exact ⟨Nat.le_refl _, Nat.le_refl _⟩ | exact ⟨Nat.le_succ _, Nat.le_add_right _ _⟩))))
  case aaload => exact lq_pI fun _ _ => lq_pA fun _ _ => lq_and (lq_and (lq_K _ _ _ _ (by first | exact ⟨Nat.le_refl _, Nat.le_refl _⟩ | exact ⟨Nat.le_succ _, Nat.le_add_right _ _⟩)))
  case aastore => exact lq_pQ (F := fun v st K KC KR => pI st fun i st => pA st fun a st => ah_k h a = 23 ∧ vp_in i (ah_z h a) ∧ (∀ q, v = some q → ah_k h q = 8) ∧ K (ip + 1) ls st (ap_r h a i.toNatClampNeg v)) fun _ _ => lq_pI fun _ _ => lq_pA fun _ _ => lq_and (lq_and (lq_and (lq_K _ _ _ _ (by first | exact ⟨Nat.le_refl _, Nat.le_refl _⟩ | exact ⟨Nat.le_succ _, Nat.le_add_right _ _⟩))))
  case arraylength =>
    refine lq_pV fun v r => ?_
    split
    · exact lq_and (lq_and (lq_K _ _ _ _ (by first | exact ⟨Nat.le_refl _, Nat.le_refl _⟩ | exact ⟨Nat.le_succ _, Nat.le_add_right _ _⟩)))
    · exact lq_K _ _ _ _ (by first | exact ⟨Nat.le_refl _, Nat.le_refl _⟩ | exact ⟨Nat.le_succ _, Nat.le_add_right _ _⟩)
    · exact lq_F
  case newarray t => exact lq_pI fun _ _ => lq_and (lq_and (lq_and (lq_K _ _ _ _ (by first | exact ⟨Nat.le_refl _, Nat.le_refl _⟩ | exact ⟨Nat.le_succ _, Nat.le_add_right _ _⟩))))
  case anewarray t => exact lq_pI fun _ _ => lq_and (lq_and (lq_K _ _ _ _ (by first | exact ⟨Nat.le_refl _, Nat.le_refl _⟩ | exact ⟨Nat.le_succ _, Nat.le_add_right _ _⟩)))
  case new c => exact lq_K _ _ _ _ (by first | exact ⟨Nat.le_refl _, Nat.le_refl _⟩ | exact ⟨Nat.le_succ _, Nat.le_add_right _ _⟩)
  case invokestatic mi => exact lq_popA (fun _ _ => lq_and (lq_C _ _ _)) _ _ _
  case invokespecial mi => exact lq_popA (fun _ _ => lq_pA fun _ _ => lq_and (lq_C _ _ _)) _ _ _
  case invokevirtual mi => exact lq_popA (fun _ _ => lq_pA fun _ _ => lq_and (lq_and (lq_C _ _ _))) _ _ _
  all_goals exact lq_F
variable {mT : Nat → Bool} {cd : Nat → Option Instr} {hd : Nat → Nat → Option (Nat × Nat)} {C : Nat → List Value → AH → Rs → AH → Prop}
theorem SR_le (hC : ∀ mi as h r h', C mi as h r h' → hle h h') : ∀ (n : Nat) (ip : Nat) (ls st : List Value) (h : AH) (r : Rs) (h' : AH), SR nA mC fty nfl sc mT cd hd C n ip ls st h r h' → hle h h'
  | 0, _, _, _, _, _, _, H => H.elim
  | n + 1, ip, ls, st, h, r, h', H => by
    obtain ⟨i, hi, H⟩ := H
    have H2 := stp_leq (nA := nA) (mC := mC) (fty := fty) (nfl := nfl) (sc := sc) i ip ls st h _ _ _ H
    have tr : ∀ {a b c : AH}, hle a b → hle b c → hle a c := fun x y => ⟨Nat.le_trans x.1 y.1, Nat.le_trans x.2 y.2⟩
    rcases stp_lin (nA := nA) (mC := mC) (fty := fty) (nfl := nfl) (sc := sc) i ip ls st h with ⟨a, b, c, d, g⟩ | ⟨a, b, c, g⟩ | ⟨a, b, g⟩ | g
    · obtain ⟨q1, q2⟩ := (g _ _ _).mp H2
      exact tr q2 (SR_le hC n _ _ _ _ _ _ q1)
    · obtain ⟨r1, h1, c1, q⟩ := (g _ _ _).mp H
      have z := hC _ _ _ _ _ c1
      cases r1 with
      | inl v => exact tr z (SR_le hC n _ _ _ _ _ _ q)
      | inr E =>
        have q := q.2
        split at q
        · exact tr z (SR_le hC n _ _ _ _ _ _ q.2)
        · rw [q.2]; exact z
    · obtain ⟨⟨q0, q1⟩, q2⟩ := (g _ _ _).mp H2
      rw [q1]; exact q2
    · exact (g _ _ _ H).elim
variable {mL : Nat → Nat} {cdo : Nat → Nat → Option Instr} {hdo : Nat → Nat → Nat → Option (Nat × Nat)}
theorem Rn_le : ∀ (d mi : Nat) (as : List Value) (h : AH) (r : Rs) (h' : AH), Rn nA mC fty nfl sc mT mL cdo hdo d mi as h r h' → hle h h'
  | 0, _, _, _, _, _, H => H.elim
  | d + 1, _, _, _, _, _, ⟨_, _, H⟩ => SR_le (fun mi as h r h' q => Rn_le d mi as h r h' q) _ _ _ _ _ _ _ H
end LEQ2
