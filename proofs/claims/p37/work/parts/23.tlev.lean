/-! RUNS BY WEAKEST PRECONDITIONS -/
section TLEV
variable {sc : (Nat → Int32) × Nat} {d mi : Nat}
/-- from a place of a method on, a run that ends in Q -/
def TT (sc : (Nat → Int32) × Nat) (d mi : Nat) (Q : Rs → AH → Prop) (ip : Nat) (ls st : List Value) (h : AH) : Prop := ∃ n r h', SRx sc d mi n ip ls st h r h' ∧ Q r h'
/-- a call -/
def TC (sc : (Nat → Int32) × Nat) (d mi : Nat) (as : List Value) (h : AH) (Q : Rs → AH → Prop) : Prop := ∃ r h', Rx sc d mi as h r h' ∧ Q r h'
theorem TC_iff {as : List Value} {h h' : AH} {r : Rs} {Q : Rs → AH → Prop} (hr : Rx sc d mi as h r h') : TC sc d mi as h Q ↔ Q r h' := by
  constructor
  · rintro ⟨r2, h2, g, q⟩
    obtain ⟨rfl, rfl⟩ := Rn_det _ _ _ _ _ _ _ _ hr g
    exact q
  · exact fun q => ⟨r, h', hr, q⟩
theorem TC_of {as : List Value} {h h' : AH} {r : Rs} (H : ∀ Q : Rs → AH → Prop, Q r h' → TC sc d mi as h Q) : ∀ Q : Rs → AH → Prop, TC sc d mi as h Q ↔ Q r h' := by
  obtain ⟨r2, h2, g, rfl, rfl⟩ := H (fun r0 h0 => r0 = r ∧ h0 = h') ⟨rfl, rfl⟩
  exact fun Q => TC_iff g
theorem Rx_up {as : List Value} {h h' : AH} {r : Rs} (k : Nat) (H : Rx sc d mi as h r h') : Rx sc (d + k) mi as h r h' := by
  induction k with
  | zero => exact H
  | succ k ih => exact Rn_up _ _ _ _ _ _ ih
/-- what is behind a call -/
def aftC (mi' : Nat) (ls rest : List Value) (hx : Nat → Option (Nat × Nat)) (ip : Nat) (K : TK) (KR : TKR) : Rs → AH → Prop := fun r1 h1 => match r1 with
  | .inl v => K (ip + 1) ls (v.toList ++ rest) h1
  | .inr E => (mT mi' = true ∧ E < 3) ∧ match hx E with
    | some (t, k) => k < ls.length ∧ K t (st1 ls k unk) [] h1
    | none => KR (.inr E) h1
theorem TT_step {Q : Rs → AH → Prop} {ip : Nat} {ls st : List Value} {h : AH} {a : Instr} (ha : cdo mi ip = some a) (H : stp nA mC fty nfl sc a ip ls st h (TT sc d mi Q) (fun mi' as rest => TC sc d mi' as h (aftC mi' ls rest (hdX mi ip) ip (TT sc d mi Q) Q)) Q) : TT sc d mi Q ip ls st h := by
  rcases stp_lin (nA := nA) (mC := mC) (fty := fty) (nfl := nfl) (sc := sc) a ip ls st h with ⟨x1, x2, x3, x4, g⟩ | ⟨x1, x2, x3, g⟩ | ⟨x1, x2, g⟩ | g
  · obtain ⟨n, r, h', q1, q2⟩ := (g _ _ _).mp H
    exact ⟨n + 1, r, h', ⟨a, ha, (g _ _ _).mpr q1⟩, q2⟩
  · obtain ⟨r1, h1, q1, q2⟩ := (g _ _ _).mp H
    cases r1 with
    | inl v =>
      obtain ⟨n, r, h', q3, q4⟩ := q2
      exact ⟨n + 1, r, h', ⟨a, ha, (g _ _ _).mpr ⟨_, _, q1, q3⟩⟩, q4⟩
    | inr E =>
      obtain ⟨q5, q2⟩ := q2
      cases hX : hdX mi ip E with
      | none =>
        rw [hX] at q2
        exact ⟨1, _, _, ⟨a, ha, (g _ _ _).mpr ⟨_, _, q1, q5, by rw [hX]; exact ⟨rfl, rfl⟩⟩⟩, q2⟩
      | some tk =>
        rw [hX] at q2
        obtain ⟨t, k⟩ := tk
        obtain ⟨q6, n, r, h', q3, q4⟩ := q2
        exact ⟨n + 1, r, h', ⟨a, ha, (g _ _ _).mpr ⟨_, _, q1, q5, by rw [hX]; exact ⟨q6, q3⟩⟩⟩, q4⟩
  · exact ⟨1, _, _, ⟨a, ha, (g _ _ _).mpr ⟨rfl, rfl⟩⟩, (g _ _ _).mp H⟩
  · exact (g _ _ _ H).elim
def inS : List Nat → Nat → Bool
  | [], _ => false
  | a :: l, x => a == x || inS l x
/-- n steps at once, up to the places S (f: the first step is made in any case) -/
def wx (sc : (Nat → Int32) × Nat) (d mi : Nat) (S : List Nat) (Q : Rs → AH → Prop) : Nat → Bool → TK
  | 0, _ => fun ip ls st h => TT sc d mi Q ip ls st h
  | n + 1, f => fun ip ls st h => match (!f && inS S ip) with
    | true => TT sc d mi Q ip ls st h
    | false => match cdo mi ip with
      | some a => stp nA mC fty nfl sc a ip ls st h (wx sc d mi S Q n false) (fun mi' as rest => TC sc d mi' as h (aftC mi' ls rest (hdX mi ip) ip (wx sc d mi S Q n false) Q)) Q
      | none => False
theorem wx_sound {S : List Nat} {Q : Rs → AH → Prop} : ∀ (n : Nat) (f : Bool) (ip : Nat) (ls st : List Value) (h : AH), wx sc d mi S Q n f ip ls st h → TT sc d mi Q ip ls st h
  | 0, _, _, _, _, _, H => H
  | n + 1, f, ip, ls, st, h, H => by
    unfold wx at H
    split at H
    · exact H
    · split at H
      · next a ha =>
        refine TT_step ha (stp_mono (fun ip ls st h q => wx_sound n false ip ls st h q) (fun mi' as rest q => ?_) (fun _ _ q => q) H)
        obtain ⟨r1, h1, q1, q2⟩ := q
        refine ⟨r1, h1, q1, ?_⟩
        cases r1 with
        | inl v => exact wx_sound n false _ _ _ _ q2
        | inr E =>
          refine ⟨q2.1, ?_⟩
          have q3 := q2.2
          revert q3
          cases hdX mi ip E with
          | none => exact fun q => q
          | some tk => exact fun q => ⟨q.1, wx_sound n false _ _ _ _ q.2⟩
      · exact H.elim
theorem TC_go {as : List Value} {h : AH} {Q : Rs → AH → Prop} (hl : (entL as).length ≤ mL mi) (H : TT sc d mi Q 0 (padL (mL mi) (entL as)) [] h) : TC sc (d + 1) mi as h Q := by
  obtain ⟨n, r, h', q1, q2⟩ := H
  exact ⟨r, h', ⟨hl, n, q1⟩, q2⟩
/-- the code's rows one by one -/
def KA {α : Type} (f : Nat → Option α) : Nat → List α → Prop
  | _, [] => True
  | i, a :: l => f i = some a ∧ KA f (i + 1) l
theorem KA_of {α : Type} (L : List α) : ∀ (l : List α) (i : Nat), L.drop i = l → KA (fun j => L[j]?) i l
  | [], _, _ => trivial
  | a :: l, i, h => by
    refine ⟨?_, KA_of L l (i + 1) ?_⟩
    · have := congrArg (fun z => z[0]?) h
      simpa using this
    · rw [← List.tail_drop, h]
      rfl
end TLEV
