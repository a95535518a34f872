/-! THE OBJECT ALONE: its state, and what a call does to it -/
abbrev SG1 : Type := Nat × (Nat → Nat) × RW × Nat × (Nat → RW) × List Nat × List Nat × Nat × Nat × Nat × Nat × (Nat → Nat) × (Nat → Nat)
def VAL (g : SG1) : Prop := match g with
  | (np, _, R, m, Ro, A, I, X, T, F, _, _, _) => PIV np R m Ro A I X T F
def STO (g : SG1) (h : AH) : Prop := match g with
  | (np, pl, R, m, Ro, A, I, X, T, F, pc, pa, pb) => ∃ r, CIV h np pl R m Ro A I X T F pc pa pb r
/-- a call on the state g: what it answers, the state behind it -/
def OPS (c : Nat) (args : List Value) (g : SG1) (o : Rs) (g' : SG1) : Prop := ∀ (sc : (Nat → Int32) × Nat) (h : AH), STO g h → TC sc 60 c (.ref 0 :: args) h fun q h' => q = o ∧ STO g' h' ∧ GRO h h'
/-- it answers a small number, or throws one of these and changes nothing -/
def RETI (Es : List Nat) (o : Rs) (g g' : SG1) : Prop := (∃ v : Nat, v ≤ 1000 ∧ o = .inl (some (.int (nI v)))) ∨ ∃ E, E ∈ Es ∧ o = .inr E ∧ g' = g
def RETV (Es : List Nat) (o : Rs) (g g' : SG1) : Prop := o = .inl none ∨ ∃ E, E ∈ Es ∧ o = .inr E ∧ g' = g
def OPI (Es : List Nat) (c : Nat) (args : List Value) (g : SG1) : Prop := ∃ o g', OPS c args g o g' ∧ VAL g' ∧ RETI Es o g g'
def OPV (Es : List Nat) (c : Nat) (args : List Value) (g : SG1) : Prop := ∃ o g', OPS c args g o g' ∧ VAL g' ∧ RETV Es o g g'
section OBJ
variable {h : AH} {np : Nat} {pl : Nat → Nat} {R : RW} {m : Nat} {Ro : Nat → RW} {A I : List Nat} {X T F pc : Nat} {pa pb : Nat → Nat} {r : Nat} {Es : List Nat} {E c : Nat} {args : List Value}
theorem gro_th : GRO h (ap_n h 30 0 6) := ⟨by show ah_n h + 1 ≤ ah_n h + 17; omega, by show ah_u h + 6 ≤ ah_u h + 80; omega⟩
theorem oq_r0 (C : ∀ sc h r, CIV h np pl R m Ro A I X T F pc pa pb r → ∀ Q : Rs → AH → Prop, TC sc 60 c (.ref 0 :: args) h Q ↔ Q (.inr E) (ap_n h 30 0 6)) : OPS c args (np, pl, R, m, Ro, A, I, X, T, F, pc, pa, pb) (.inr E) (np, pl, R, m, Ro, A, I, X, T, F, pc, pa, pb) := by
  rintro sc h ⟨r, c⟩
  exact (C sc h r c _).mpr ⟨rfl, ⟨r, c.ag (AG_th h) (Nat.le_succ _)⟩, gro_th⟩
theorem oq_ref (p : PIV np R m Ro A I X T F) (hE : E ∈ Es) (C : ∀ sc h r, CIV h np pl R m Ro A I X T F pc pa pb r → ∀ Q : Rs → AH → Prop, TC sc 60 c (.ref 0 :: args) h Q ↔ Q (.inr E) (ap_n h 30 0 6)) : OPI Es c args (np, pl, R, m, Ro, A, I, X, T, F, pc, pa, pb) := ⟨_, _, oq_r0 C, p, Or.inr ⟨E, hE, rfl, rfl⟩⟩
theorem oq_rev (p : PIV np R m Ro A I X T F) (hE : E ∈ Es) (C : ∀ sc h r, CIV h np pl R m Ro A I X T F pc pa pb r → ∀ Q : Rs → AH → Prop, TC sc 60 c (.ref 0 :: args) h Q ↔ Q (.inr E) (ap_n h 30 0 6)) : OPV Es c args (np, pl, R, m, Ro, A, I, X, T, F, pc, pa, pb) := ⟨_, _, oq_r0 C, p, Or.inr ⟨E, hE, rfl, rfl⟩⟩
theorem oq_d0 {R' : RW} {o : Rs} (p : PIV np R m Ro A I X T F) (C : ∀ sc h r, CIV h np pl R m Ro A I X T F pc pa pb r → ∃ hc, (∀ Q : Rs → AH → Prop, TC sc 60 c (.ref 0 :: args) h Q ↔ Q o hc) ∧ FR h hc (Sd r) ∧ RCo hc r R') : OPS c args (np, pl, R, m, Ro, A, I, X, T, F, pc, pa, pb) o (np, pl, R', m, Ro, A, I, X, T, F, pc, pa, pb) := by
  rintro sc h ⟨r, c⟩
  obtain ⟨hc, k, f, d⟩ := C sc h r c
  exact (k _).mpr ⟨rfl, ⟨r, c.dr p (f.mono fun a k z => Or.inl z) d⟩, by rw [f.1]; omega, by rw [f.2.1]; omega⟩
theorem oq_dr {R' : RW} {v : Nat} (p : PIV np R m Ro A I X T F) (ok : R_ok np R') (hv : v ≤ 1000) (C : ∀ sc h r, CIV h np pl R m Ro A I X T F pc pa pb r → ∃ hc, (∀ Q : Rs → AH → Prop, TC sc 60 c (.ref 0 :: args) h Q ↔ Q (.inl (some (.int (nI v)))) hc) ∧ FR h hc (Sd r) ∧ RCo hc r R') : OPI Es c args (np, pl, R, m, Ro, A, I, X, T, F, pc, pa, pb) := ⟨_, _, oq_d0 p C, ⟨ok, p.2⟩, Or.inl ⟨v, hv, rfl⟩⟩
theorem oq_dv {R' : RW} (p : PIV np R m Ro A I X T F) (ok : R_ok np R') (C : ∀ sc h r, CIV h np pl R m Ro A I X T F pc pa pb r → ∃ hc, (∀ Q : Rs → AH → Prop, TC sc 60 c (.ref 0 :: args) h Q ↔ Q (.inl none) hc) ∧ FR h hc (Sd r) ∧ RCo hc r R') : OPV Es c args (np, pl, R, m, Ro, A, I, X, T, F, pc, pa, pb) := ⟨_, _, oq_d0 p C, ⟨ok, p.2⟩, Or.inl rfl⟩
/-- head -/
theorem oq_2 (p : PIV np R m Ro A I X T F) (p0 p1 p2 : Int32) : OPI [0, 1, 2] 2 [.int p0, .int p1, .int p2] (np, pl, R, m, Ro, A, I, X, T, F, pc, pa, pb) := by
  have n3 := p.1.2.1 0 (by omega)
  have k3 := p.1.1
  have np6 := p.2.1
  by_cases h1 : vp_in p0 np
  · obtain ⟨p', hp1, rfl⟩ := vp_in_of h1 (by omega)
    cases ht : trmB pl p' (-4) p1 p2
    · exact oq_ref (E := 0) p (by decide) fun sc h r c Q => d_2n c.1.1 c.2.1 hp1 ht
    · by_cases hf : 2 ≤ R_kd R ∨ R_n R 0 = 3
      · exact oq_ref (E := 1) p (by decide) fun sc h r c Q => d_2k c.1.1 c.2.1 c.2.2.1.1 hp1 ht k3 hf
      · obtain ⟨x, y, vx, vy, rfl, rfl⟩ := trm_ex4 ht
        exact oq_dr (v := R_n R 0 + 1) p (ok_add p.1 (by omega) (by omega) vx vy (by rw [if_neg (by omega)]; exact hp1) (fun _ => by omega)) (by omega) fun sc h r c => ⟨_, fun Q => d_2 c.1.1 c.2.1 c.2.2.1.1 hp1 ht (by omega) (by omega), push_fr (by omega), RCo_add c.2.2.1.1.2.2.1 (by omega) p' x y (fun z => absurd z (by omega))⟩
  · exact oq_ref (E := 2) p (by decide) fun sc h r c Q => d_2p c.1.1 c.2.1 h1 p1 p2
/-- body -/
theorem oq_6 (p : PIV np R m Ro A I X T F) (p0 p1 p2 : Int32) (z : Bool) : OPI [0, 1, 2] 6 [.int p0, .int p1, .int p2, .int (bI z)] (np, pl, R, m, Ro, A, I, X, T, F, pc, pa, pb) := by
  have np6 := p.2.1
  have n3 : R_n R (if z = true then 2 else 1) ≤ 3 := by cases z <;> exact p.1.2.1 _ (by decide)
  by_cases h1 : vp_in p0 np
  · obtain ⟨p', hp1, rfl⟩ := vp_in_of h1 (by omega)
    cases ht : trmB pl p' (-4) p1 p2
    · exact oq_ref (E := 0) p (by decide) fun sc h r c Q => d_6n c.1.1 c.2.1 hp1 z ht
    · by_cases hf : R_n R (if z = true then 2 else 1) = 3
      · exact oq_ref (E := 1) p (by decide) fun sc h r c Q => d_6k c.1.1 c.2.1 c.2.2.1.1 hp1 z ht hf
      · obtain ⟨x, y, vx, vy, rfl, rfl⟩ := trm_ex4 ht
        have l3 : (if z = true then 2 else 1) < 4 := by cases z <;> decide
        exact oq_dr (v := R_n R (if z = true then 2 else 1) + 1) p (ok_add p.1 l3 (by omega) vx vy (by rw [if_neg (by cases z <;> decide)]; exact hp1) (fun q => by cases z <;> exact absurd q (by decide))) (by omega) fun sc h r c => ⟨_, fun Q => d_6 c.1.1 c.2.1 c.2.2.1.1 hp1 z ht (by omega), push_fr (by omega), RCo_add c.2.2.1.1.2.2.1 (by omega) p' x y (fun z => absurd z (by omega))⟩
  · exact oq_ref (E := 2) p (by decide) fun sc h r c Q => d_6p c.1.1 c.2.1 h1 p1 p2 z
/-- compare -/
theorem oq_7 (p : PIV np R m Ro A I X T F) (p0 p1 p2 : Int32) : OPI [0, 1] 7 [.int p0, .int p1, .int p2] (np, pl, R, m, Ro, A, I, X, T, F, pc, pa, pb) := by
  have n33 := p.1.2.1 3 (by omega)
  cases hc : cmpB p0 p1 p2
  · exact oq_ref (E := 0) p (by decide) fun sc h r c Q => d_7n c.1.1 hc
  · have hc2 := hc
    unfold cmpB at hc2
    rw [Bool.and_eq_true, Bool.and_eq_true, bP_t] at hc2
    obtain ⟨h1, h2, h3⟩ := hc2
    obtain ⟨k, hk, rfl⟩ := vp_in_of h1 (by omega)
    by_cases hf : R_n R 3 = 3
    · exact oq_ref (E := 1) p (by decide) fun sc h r c Q => d_7k c.1.1 c.2.2.1.1 hk h2 h3 hf
    · obtain ⟨x, vx, rfl⟩ := isT_ex4 (by rw [isT_4]; exact h2)
      obtain ⟨y, vy, rfl⟩ := isT_ex4 (by rw [isT_4]; exact h3)
      exact oq_dr (v := R_n R 3 + 1) p (ok_add p.1 (by omega) (by omega) vx vy (by rw [if_pos rfl]; omega) (fun q => absurd q (by decide))) (by omega) fun sc h r c => ⟨_, fun Q => d_7 c.1.1 c.2.2.1.1 hk h2 h3 (by omega), push_fr (by omega), RCo_add c.2.2.1.1.2.2.1 (by omega) k x y (fun z => absurd z (by omega))⟩
/-- choice -/
theorem oq_3 (p : PIV np R m Ro A I X T F) (p0 p1 : Int32) : OPV [0, 1] 3 [.int p0, .int p1] (np, pl, R, m, Ro, A, I, X, T, F, pc, pa, pb) := by
  have k3 := p.1.1
  cases hc : choB p0 p1
  · exact oq_rev (E := 0) p (by decide) fun sc h r c Q => d_3n c.1.1 hc
  · by_cases h0 : R_kd R = 0
    · exact oq_dv p (ok_Ch p.1 hc) fun sc h r c => ⟨hCh h r p0 p1, fun Q => d_3 c.1.1 c.2.2.1.1 hc h0, (((FR.refl _ _).i ⟨by omega, by omega⟩).i ⟨by omega, by omega⟩).i ⟨by omega, by omega⟩, ch_co c.2.2.1.1.2.2.1 p0 p1⟩
    · exact oq_rev (E := 1) p (by decide) fun sc h r c Q => d_3k c.1.1 c.2.2.1.1 hc k3 h0
/-- weak -/
theorem oq_4 (p : PIV np R m Ro A I X T F) (p0 p1 : Int32) : OPV [1, 2] 4 [.int p0, .int p1] (np, pl, R, m, Ro, A, I, X, T, F, pc, pa, pb) := by
  have n3 := p.1.2.1 0 (by omega)
  have k3 := p.1.1
  by_cases h1 : vp_in p1 3
  · obtain ⟨l, hl, rfl⟩ := vp_in_of h1 (by omega)
    by_cases h0 : R_kd R ≠ 0 ∨ R_n R 0 ≠ 0
    · exact oq_rev (E := 1) p (by decide) fun sc h r c Q => d_4k c.1.1 c.2.2.1.1 hl k3 n3 h0
    · have k0 : R_kd R = 0 := by omega
      have n0 : R_n R 0 = 0 := by omega
      exact oq_dv p (ok_Wk p.1 hl n0) fun sc h r c => ⟨hWk h r p0 (nI l), fun Q => d_4 c.1.1 c.2.2.1.1 hl k0 n0, (((FR.refl _ _).i ⟨by omega, by omega⟩).i ⟨by omega, by omega⟩).i ⟨by omega, by omega⟩, wk_co c.2.2.1.1.2.2.1 p0 (nI l)⟩
  · exact oq_rev (E := 2) p (by decide) fun sc h r c Q => d_4l c.1.1 h1
/-- difference -/
theorem oq_5 (p : PIV np R m Ro A I X T F) (p0 p1 p2 : Int32) : OPV [0, 1, 2] 5 [.int p0, .int p1, .int p2] (np, pl, R, m, Ro, A, I, X, T, F, pc, pa, pb) := by
  have n3 := p.1.2.1 0 (by omega)
  have k3 := p.1.1
  by_cases h1 : vp_in p0 4
  · obtain ⟨x, hx, rfl⟩ := vp_in_of h1 (by omega)
    by_cases h2 : vp_in p1 4
    · obtain ⟨y, hy, rfl⟩ := vp_in_of h2 (by omega)
      cases hc : difB x y p2
      · exact oq_rev (E := 0) p (by decide) fun sc h r c Q => d_5n c.1.1 hx hy hc
      · by_cases h0 : R_kd R ≠ 0 ∨ R_n R 0 ≠ 0
        · exact oq_rev (E := 1) p (by decide) fun sc h r c Q => d_5k c.1.1 c.2.2.1.1 hx hy hc k3 n3 h0
        · have k0 : R_kd R = 0 := by omega
          have n0 : R_n R 0 = 0 := by omega
          exact oq_dv p (ok_Df p.1 hx hy hc n0) fun sc h r c => ⟨hDf h r (nI x) (nI y) p2, fun Q => d_5 c.1.1 c.2.2.1.1 hx hy hc k0 n0, ((((FR.refl _ _).i ⟨by omega, by omega⟩).i ⟨by omega, by omega⟩).i ⟨by omega, by omega⟩).i ⟨by omega, by omega⟩, df_co c.2.2.1.1.2.2.1 (nI x) (nI y) p2⟩
    · exact oq_rev (E := 2) p (by decide) fun sc h r c Q => d_5y c.1.1 hx h2
  · exact oq_rev (E := 2) p (by decide) fun sc h r c Q => d_5x c.1.1 h1
/-- interval -/
theorem oq_8 (p : PIV np R m Ro A I X T F) (p0 p1 p2 : Int32) : OPV [0] 8 [.int p0, .int p1, .int p2] (np, pl, R, m, Ro, A, I, X, T, F, pc, pa, pb) := by
  cases hc : itvB p0 p1 p2
  · exact oq_rev (E := 0) p (by decide) fun sc h r c Q => d_8n c.1.1 hc
  · obtain ⟨v, f, t, hv, hf, ht, rfl, rfl, rfl⟩ := itv_ex hc
    exact oq_dv p (ok_I p.1 hf ht) fun sc h r c => ⟨hIv h r v f t (msk 4 (R_il R)), fun Q => d_8 c.1.1 c.2.2.1.1 hv hf ht, (((FR.refl _ _).i ⟨by omega, by omega⟩).i ⟨by omega, by omega⟩).i ⟨by omega, by omega⟩, iv_co c.2.2.1.1.2.2.1 hv f t⟩
/-- sum -/
theorem oq_9 (p : PIV np R m Ro A I X T F) (p0 p1 : Int32) : OPV [0, 1] 9 [.int p0, .int p1] (np, pl, R, m, Ro, A, I, X, T, F, pc, pa, pb) := by
  by_cases hc : p1 < p0
  · exact oq_rev (E := 0) p (by decide) fun sc h r c Q => d_9n c.1.1 hc
  · cases hs : R_su R
    · exact oq_dv p (ok_S p.1 p0 p1) fun sc h r c => ⟨hSu h r p0 p1, fun Q => d_9 c.1.1 c.2.2.1.1 hc hs, (((FR.refl _ _).i ⟨by omega, by omega⟩).i ⟨by omega, by omega⟩).i ⟨by omega, by omega⟩, su_co c.2.2.1.1.2.2.1 p0 p1⟩
    · exact oq_rev (E := 1) p (by decide) fun sc h r c Q => d_9k c.1.1 c.2.2.1.1 hc hs
/-- element -/
theorem oq_10 (p : PIV np R m Ro A I X T F) (p0 p1 p2 p3 : Int32) : OPI [0, 1, 2] 10 [.int p0, .int p1, .int p2, .int p3] (np, pl, R, m, Ro, A, I, X, T, F, pc, pa, pb) := by
  have np6 := p.2.1
  have n4 := p.1.2.2.1
  by_cases h1 : vp_in p1 np
  · obtain ⟨p', hp1, rfl⟩ := vp_in_of h1 (by omega)
    cases ht : trmB pl p' (-5) p2 p3
    · exact oq_ref (E := 0) p (by decide) fun sc h r c Q => d_10n c.1.1 c.2.1 hp1 ht
    · by_cases hf : R_su R = false ∨ R_n R 4 = 4
      · exact oq_ref (E := 1) p (by decide) fun sc h r c Q => d_10k c.1.1 c.2.1 c.2.2.1.1 hp1 ht hf
      · obtain ⟨x, y, vx, vy, rfl, rfl⟩ := trm_ex5 ht
        have hs : R_su R = true := by
          cases q : R_su R
          · exact absurd (Or.inl q) hf
          · rfl
        have hn : R_n R 4 < 4 := by
          have : R_n R 4 ≠ 4 := fun z => hf (Or.inr z)
          omega
        exact oq_dr (v := R_n R 4 + 1) p (ok_El p.1 hn hs vx vy hp1) (by omega) fun sc h r c => ⟨pushC (ap_i h (r + 13) (R_n R 4) p0) r R 4 p' x y, fun Q => d_10 c.1.1 c.2.1 c.2.2.1.1 hp1 ht hs hn, ((FR.refl _ _).i ⟨by omega, by omega⟩).trans (push_fr (by omega)) fun _ _ z => z, el_co c.2.2.1.1.2.2.1 p0 p' x y⟩
  · exact oq_ref (E := 2) p (by decide) fun sc h r c Q => d_10p c.1.1 c.2.1 h1 p0 p2 p3
/-- drop -/
theorem oq_11 (p : PIV np R m Ro A I X T F) : OPV [] 11 [] (np, pl, R, m, Ro, A, I, X, T, F, pc, pa, pb) := by
  refine oq_dv p (ok_clr R) fun sc h r c => ⟨hDr h r, fun Q => d_11 c.1.1 c.2.2.1.1, ?_, dr_co c.2.2.1.1.2.2.1⟩
  unfold hDr
  have e0 : eO 0 = 2 := rfl
  have e1 : eO 1 = 4 := rfl
  have e2 : eO 2 = 6 := rfl
  have e3 : eO 3 = 8 := rfl
  have e4 : eO 4 = 11 := rfl
  repeat (first | exact FR.refl _ _ | refine FR.i ?_ ⟨by omega, by omega⟩)
end OBJ
