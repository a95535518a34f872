/-! CALLS OF BOTH SIDES: HOW THEY COME TOGETHER -/
def opI (sc : (Nat → Int32) × Nat) (w mm : Nat) (wa ma : List Value) (h : AH) : Prop := ∃ k : Nat, k ≤ 3 ∧ TC sc 60 w wa h fun q h1 => q = .inl (some (.int (nI k))) ∧ TC sc 60 mm ma h1 fun q2 h2 => (∃ b, q2 = .inl (some (.int b)) ∧ (k = 0 → ah_l h2 69 0 = b.toInt64)) ∧ INVA h2 ∧ ah_i h2 49 0 = nI k ∧ GRO h h2
def opL (sc : (Nat → Int32) × Nat) (w mm : Nat) (wa ma : List Value) (h : AH) : Prop := ∃ k : Nat, k ≤ 3 ∧ TC sc 60 w wa h fun q h1 => q = .inl (some (.int (nI k))) ∧ TC sc 60 mm ma h1 fun q2 h2 => (∃ b, q2 = .inl (some (.long b)) ∧ (k = 0 → ah_l h2 69 0 = b)) ∧ INVA h2 ∧ ah_i h2 49 0 = nI k ∧ GRO h h2
def opV (sc : (Nat → Int32) × Nat) (w mm : Nat) (wa ma : List Value) (h : AH) : Prop := ∃ k : Nat, k ≤ 3 ∧ TC sc 60 w wa h fun q h1 => q = .inl (some (.int (nI k))) ∧ TC sc 60 mm ma h1 fun q2 h2 => q2 = .inl none ∧ INVA h2 ∧ ah_i h2 49 0 = nI k ∧ GRO h h2
/-- calls without a wrapper, compared at once -/
def opN (sc : (Nat → Int32) × Nat) (c mm : Nat) (h : AH) : Prop := ∃ v : Int32, TC sc 60 c [.ref 0] h fun q h1 => q = .inl (some (.int v)) ∧ TC sc 60 mm [.ref 49] h1 fun q2 h2 => q2 = .inl (some (.int v)) ∧ INVA h2 ∧ GRO h h2
section OPS
variable {sc : (Nat → Int32) × Nat} {h : AH} {w mm c E k a b e : Nat} {wa ma ca : List Value}
theorem wpX_of {Q : Rs → AH → Prop} {h1 : AH} (k0 : k ≠ 0) (cd : E = 0 ∧ a = k ∨ E = 1 ∧ b = k ∨ E = 2 ∧ e = k) (q : Q (.inl (some (.int (nI k)))) h1) : wpX Q a b e (.inr E) h1 := by
  rcases cd with ⟨rfl, rfl⟩ | ⟨rfl, rfl⟩ | ⟨rfl, rfl⟩
  · exact Or.inl ⟨k0, rfl, q⟩
  · exact Or.inr (Or.inl ⟨k0, rfl, q⟩)
  · exact Or.inr (Or.inr ⟨k0, rfl, q⟩)
/-- refused on both sides -/
theorem opI_ref (W : ∀ Q : Rs → AH → Prop, TC sc 59 c ca h (wpI Q a b e) → TC sc 60 w wa h Q) (k0 : k ≠ 0 ∧ k ≤ 3) (cd : E = 0 ∧ a = k ∨ E = 1 ∧ b = k ∨ E = 2 ∧ e = k) (C : ∀ Q : Rs → AH → Prop, TC sc 59 c ca h Q ↔ Q (.inr E) (ap_n h 30 0 6)) (M : ∀ Q : Rs → AH → Prop, TC sc 60 mm ma (ap_n h 30 0 6) Q ↔ Q (.inl (some (.int (nI 0)))) (ap_i (ap_n h 30 0 6) 49 0 (nI k)))
    (o : OU h) (n : 70 ≤ ah_n h) (iv : INVA (ap_i (ap_n h 30 0 6) 49 0 (nI k)) ∧ ah_i (ap_i (ap_n h 30 0 6) 49 0 (nI k)) 49 0 = nI k ∧ GRO h (ap_i (ap_n h 30 0 6) 49 0 (nI k))) : opI sc w mm wa ma h :=
  ⟨k, k0.2, W _ ((C _).mpr ⟨o.ag (AG_th h) n, Or.inr (wpX_of k0.1 cd ⟨rfl, (M _).mpr ⟨⟨_, rfl, fun z => absurd z k0.1⟩, iv⟩⟩)⟩)⟩
theorem opV_ref (W : ∀ Q : Rs → AH → Prop, TC sc 59 c ca h (wpV Q a b e) → TC sc 60 w wa h Q) (k0 : k ≠ 0 ∧ k ≤ 3) (cd : E = 0 ∧ a = k ∨ E = 1 ∧ b = k ∨ E = 2 ∧ e = k) (C : ∀ Q : Rs → AH → Prop, TC sc 59 c ca h Q ↔ Q (.inr E) (ap_n h 30 0 6)) (M : ∀ Q : Rs → AH → Prop, TC sc 60 mm ma (ap_n h 30 0 6) Q ↔ Q (.inl none) (ap_i (ap_n h 30 0 6) 49 0 (nI k)))
    (o : OU h) (n : 70 ≤ ah_n h) (iv : INVA (ap_i (ap_n h 30 0 6) 49 0 (nI k)) ∧ ah_i (ap_i (ap_n h 30 0 6) 49 0 (nI k)) 49 0 = nI k ∧ GRO h (ap_i (ap_n h 30 0 6) 49 0 (nI k))) : opV sc w mm wa ma h :=
  ⟨k, k0.2, W _ ((C _).mpr ⟨o.ag (AG_th h) n, Or.inr (wpX_of k0.1 cd ⟨rfl, (M _).mpr ⟨rfl, iv⟩⟩)⟩)⟩
/-- done on both sides -/
theorem opI_ok {v : Int32} {hc hm : AH} (W : ∀ Q : Rs → AH → Prop, TC sc 59 c ca h (wpI Q a b e) → TC sc 60 w wa h Q) (C : ∀ Q : Rs → AH → Prop, TC sc 59 c ca h Q ↔ Q (.inl (some (.int v))) hc) (M : ∀ Q : Rs → AH → Prop, TC sc 60 mm ma (ap_l hc 69 0 v.toInt64) Q ↔ Q (.inl (some (.int v))) hm)
    (o : OU hc) (l : ah_l hm 69 0 = v.toInt64) (th : ah_i hm 49 0 = nI 0) (iv : INVA hm ∧ GRO h hm) : opI sc w mm wa ma h :=
  ⟨0, by omega, W _ ((C _).mpr ⟨o, Or.inl ⟨v, rfl, rfl, (M _).mpr ⟨⟨v, rfl, fun _ => l⟩, iv.1, th, iv.2⟩⟩⟩)⟩
theorem opV_ok {hc hm : AH} (W : ∀ Q : Rs → AH → Prop, TC sc 59 c ca h (wpV Q a b e) → TC sc 60 w wa h Q) (C : ∀ Q : Rs → AH → Prop, TC sc 59 c ca h Q ↔ Q (.inl none) hc) (M : ∀ Q : Rs → AH → Prop, TC sc 60 mm ma hc Q ↔ Q (.inl none) hm)
    (o : OU hc) (th : ah_i hm 49 0 = nI 0) (iv : INVA hm ∧ GRO h hm) : opV sc w mm wa ma h :=
  ⟨0, by omega, W _ ((C _).mpr ⟨o, Or.inl ⟨rfl, rfl, (M _).mpr ⟨rfl, iv.1, th, iv.2⟩⟩⟩)⟩
theorem push_fr {r l p x y : Nat} {R : RW} (hl : l < 5) : FR h (pushC h r R l p x y) (Sd r) := by
  have el : eO l + 1 < 16 := by
    have : l = 0 ∨ l = 1 ∨ l = 2 ∨ l = 3 ∨ l = 4 := by omega
    rcases this with rfl | rfl | rfl | rfl | rfl <;> decide
  exact ((FR.refl _ _).i ⟨by omega, by omega⟩).i ⟨by omega, by omega⟩
section MIDS
variable {np : Nat} {pl : Nat → Nat} {R : RW} {m : Nat} {Ro : Nat → RW} {A I : List Nat} {X T F pc : Nat} {pa pb : Nat → Nat} {r : Nat}
/-- between the two calls -/
theorem MIDc {hc h1 : AH} (c : CIV h np pl R m Ro A I X T F pc pa pb r) (s : MIV h np pl R m Ro A I X T F pc pa pb) (o : OU h) (fc : FR h hc (Sd r)) (f1 : FR hc h1 S69) : SHP h1 ∧ PLM h1 np pl ∧ MRw (ap_i h1 49 0 (nI 0)) 51 0 R ∧ MRw h1 51 0 R ∧ OU hc := by
  have r3 : r = 3 ∨ 70 ≤ r := c.2.2.1.2.1
  have e : ∀ a k, 49 ≤ a → a ≤ 68 → ah_i h1 a k = ah_i h a k := fun a k h1 h2 => (f1.ci fun z => by have : a = 69 := z; omega).trans (fc.ci fun z => by have := z.1; have := z.2; omega)
  have pm : PLM h1 np pl := by
    have := s.1
    unfold PLM at *
    simp (disch := omega) only [e]
    exact this
  have mr : MRw h1 51 0 R := s.2.1.c fun j => e 51 j (by omega) (by omega)
  exact ⟨(c.1.1.fr fc).fr f1, pm, mr.c fun j => by rw [ai_n (by omega)], mr, o.fr fc⟩
theorem put_fr {h1 : AH} {t n p : Nat} {a b : Int32} : FR h1 (hPut (ap_i h1 49 0 (nI 0)) t n p a b) Sdm := (((((FR.refl _ _).i (Or.inl ⟨rfl, rfl⟩)).i (Or.inr rfl)).i (Or.inr rfl)).i (Or.inr rfl)).i (Or.inr rfl)
theorem put_0 {h1 : AH} {t n p : Nat} {a b : Int32} : ah_i (hPut (ap_i h1 49 0 (nI 0)) t n p a b) 49 0 = nI 0 := by
  unfold hPut
  rw [ai_n (by omega), ai_n (by omega), ai_n (by omega), ai_n (by omega), ai_y]
theorem l69 {h1 : AH} {v : Int64} : ah_l (ap_l h1 69 0 v) 69 0 = v := by rw [al_l, if_pos ⟨rfl, rfl⟩]
theorem f69 {h1 : AH} {v : Int64} : FR h1 (ap_l h1 69 0 v) S69 := (FR.refl _ _).l rfl
end MIDS
/-- 1: head -/
theorem op_1 (iv : INVA h) (p0 p1 p2 : Int32) : opI sc 251 71 [.ref 0, .int p0, .int p1, .int p2, .ref 69] [.ref 49, .int p0, .int p1, .int p2] h := by
  obtain ⟨np, pl, R, m, Ro, A, I, X, T, F, pc, pa, pb, r, p, c, s, o⟩ := iv
  have hp := c.1.1
  have n70 := c.1.2
  have W := fun Q => w_251 (sc := sc) (d := 59) (h := h) (Q := Q) hp p0 p1 p2
  have g := AG_th h
  have hpx := hp.ag g n70
  have plx := s.1.ag g n70
  have mrx := s.2.1.ag g (by omega)
  have n3 := p.1.2.1 0 (by omega)
  have k3 := p.1.1
  have np6 := p.2.1
  have dr := c.2.2.1.1
  by_cases h1 : vp_in p0 np
  · obtain ⟨p', hp1, rfl⟩ := vp_in_of h1 (by omega)
    cases ht : trmB pl p' (-4) p1 p2
    · exact opI_ref (E := 0) (k := 2) W (by omega) (by omega) (fun Q => d_2n hp c.2.1 hp1 ht) (fun Q => m_71n hpx plx hp1 ht) o n70 (INV_th p c s o 2)
    · by_cases hf : 2 ≤ R_kd R ∨ R_n R 0 = 3
      · exact opI_ref (E := 1) (k := 3) W (by omega) (by omega) (fun Q => d_2k hp c.2.1 dr hp1 ht k3 hf) (fun Q => m_71k hpx plx mrx hp1 ht k3 hf n3) o n70 (INV_th p c s o 3)
      · obtain ⟨x, y, vx, vy, rfl, rfl⟩ := trm_ex4 ht
        have fc : FR h (pushC h r R 0 p' x y) (Sd r) := push_fr (by omega)
        obtain ⟨m1, m2, m3, m4, m5⟩ := MIDc (h1 := ap_l (pushC h r R 0 p' x y) 69 0 (nI (R_n R 0 + 1)).toInt64) c s o fc f69
        exact opI_ok W (fun Q => d_2 hp c.2.1 dr hp1 ht (by omega) (by omega)) (fun Q => m_71 m1 m2 m4 hp1 ht (by omega) (by omega)) m5 l69 put_0 (INV_dr p c s o (ok_add p.1 (by omega) (by omega) vx vy (by rw [if_neg (by omega)]; exact hp1) (fun _ => by omega)) fc (RCo_add dr.2.2.1 (by omega) p' x y (fun z => absurd z (by omega))) f69 put_fr (MRw_put m3 (ok_len p.1) (l := 0) (by omega) (by omega) p' x y))
  · exact opI_ref (E := 2) (k := 1) W (by omega) (by omega) (fun Q => d_2p hp c.2.1 h1 p1 p2) (fun Q => m_71p hpx plx h1 p1 p2) o n70 (INV_th p c s o 1)
/-- 5: body -/
theorem op_5 (iv : INVA h) (p0 p1 p2 : Int32) (z : Bool) : opI sc 255 76 [.ref 0, .int p0, .int p1, .int p2, .int (bI z), .ref 69] [.ref 49, .int p0, .int p1, .int p2, .int (bI z)] h := by
  obtain ⟨np, pl, R, m, Ro, A, I, X, T, F, pc, pa, pb, r, p, c, s, o⟩ := iv
  have hp := c.1.1
  have n70 := c.1.2
  have W := fun Q => w_255 (sc := sc) (d := 59) (h := h) (Q := Q) hp p0 p1 p2 z
  have g := AG_th h
  have hpx := hp.ag g n70
  have plx := s.1.ag g n70
  have mrx := s.2.1.ag g (by omega)
  have n3 := p.1.2.1 0 (by omega)
  have k3 := p.1.1
  have np6 := p.2.1
  have dr := c.2.2.1.1
  have n3 : R_n R (if z = true then 2 else 1) ≤ 3 := by cases z <;> exact p.1.2.1 _ (by decide)
  by_cases h1 : vp_in p0 np
  · obtain ⟨p', hp1, rfl⟩ := vp_in_of h1 (by omega)
    cases ht : trmB pl p' (-4) p1 p2
    · exact opI_ref (E := 0) (k := 2) W (by omega) (by omega) (fun Q => d_6n hp c.2.1 hp1 z ht) (fun Q => m_76n hpx plx hp1 z ht) o n70 (INV_th p c s o 2)
    · by_cases hf : R_n R (if z = true then 2 else 1) = 3
      · exact opI_ref (E := 1) (k := 3) W (by omega) (by omega) (fun Q => d_6k hp c.2.1 dr hp1 z ht hf) (fun Q => m_76k hpx plx mrx hp1 z ht hf) o n70 (INV_th p c s o 3)
      · obtain ⟨x, y, vx, vy, rfl, rfl⟩ := trm_ex4 ht
        have l3 : (if z = true then 2 else 1) < 4 := by cases z <;> decide
        have fc : FR h (pushC h r R (if z = true then 2 else 1) p' x y) (Sd r) := push_fr (by omega)
        obtain ⟨m1, m2, m3, m4, m5⟩ := MIDc (h1 := ap_l (pushC h r R (if z = true then 2 else 1) p' x y) 69 0 (nI (R_n R (if z = true then 2 else 1) + 1)).toInt64) c s o fc f69
        have mp := MRw_put m3 (ok_len p.1) (l := if z = true then 2 else 1) l3 (by omega) p' x y
        rw [show 5 + 10 * (if z = true then 2 else 1) = (if z = true then 25 else 15) by cases z <;> rfl] at mp
        exact opI_ok W (fun Q => d_6 hp c.2.1 dr hp1 z ht (by omega)) (fun Q => m_76 m1 m2 m4 hp1 z ht (by omega)) m5 l69 put_0 (INV_dr p c s o (ok_add p.1 l3 (by omega) vx vy (by rw [if_neg (by cases z <;> decide)]; exact hp1) (fun q => by cases z <;> exact absurd q (by decide))) fc (RCo_add dr.2.2.1 (by omega) p' x y (fun z => absurd z (by omega))) f69 put_fr mp)
  · exact opI_ref (E := 2) (k := 1) W (by omega) (by omega) (fun Q => d_6p hp c.2.1 h1 p1 p2 z) (fun Q => m_76p hpx plx h1 p1 p2 z) o n70 (INV_th p c s o 1)
/-- 6: compare -/
theorem op_6 (iv : INVA h) (p0 p1 p2 : Int32) : opI sc 256 77 [.ref 0, .int p0, .int p1, .int p2, .ref 69] [.ref 49, .int p0, .int p1, .int p2] h := by
  obtain ⟨np, pl, R, m, Ro, A, I, X, T, F, pc, pa, pb, r, p, c, s, o⟩ := iv
  have hp := c.1.1
  have n70 := c.1.2
  have W := fun Q => w_256 (sc := sc) (d := 59) (h := h) (Q := Q) hp p0 p1 p2
  have g := AG_th h
  have hpx := hp.ag g n70
  have plx := s.1.ag g n70
  have mrx := s.2.1.ag g (by omega)
  have n3 := p.1.2.1 0 (by omega)
  have k3 := p.1.1
  have np6 := p.2.1
  have dr := c.2.2.1.1
  have n33 := p.1.2.1 3 (by omega)
  cases hc : cmpB p0 p1 p2
  · exact opI_ref (E := 0) (k := 1) W (by omega) (by omega) (fun Q => d_7n hp hc) (fun Q => m_77n hpx hc) o n70 (INV_th p c s o 1)
  · have hc2 := hc
    unfold cmpB at hc2
    rw [Bool.and_eq_true, Bool.and_eq_true, bP_t] at hc2
    obtain ⟨h1, h2, h3⟩ := hc2
    obtain ⟨k, hk, rfl⟩ := vp_in_of h1 (by omega)
    by_cases hf : R_n R 3 = 3
    · exact opI_ref (E := 1) (k := 2) W (by omega) (by omega) (fun Q => d_7k hp dr hk h2 h3 hf) (fun Q => m_77k hpx mrx hk h2 h3 hf) o n70 (INV_th p c s o 2)
    · obtain ⟨x, vx, rfl⟩ := isT_ex4 (by rw [isT_4]; exact h2)
      obtain ⟨y, vy, rfl⟩ := isT_ex4 (by rw [isT_4]; exact h3)
      have fc : FR h (pushC h r R 3 k x y) (Sd r) := push_fr (by omega)
      obtain ⟨m1, m2, m3, m4, m5⟩ := MIDc (h1 := ap_l (pushC h r R 3 k x y) 69 0 (nI (R_n R 3 + 1)).toInt64) c s o fc f69
      exact opI_ok W (fun Q => d_7 hp dr hk h2 h3 (by omega)) (fun Q => m_77 m1 m4 hk h2 h3 (by omega)) m5 l69 put_0 (INV_dr p c s o (ok_add p.1 (by omega) (by omega) vx vy (by rw [if_pos rfl]; omega) (fun q => absurd q (by decide))) fc (RCo_add dr.2.2.1 (by omega) k x y (fun z => absurd z (by omega))) f69 put_fr (MRw_put m3 (ok_len p.1) (l := 3) (by omega) (by omega) k x y))
end OPS
