/-! GROUNDING, PURE: THE LEAST ONE, IN ANY ORDER -/
def RsO (Rs : Nat → RW) (m : Nat) : Prop := m ≤ 20 ∧ ∀ n, n < m → R_ok 6 (Rs n)
def czr (R : RW) (c : Nat → Nat) : Prop := (∀ u, u < 4 → rng R c u) ∧ ∀ u, 4 ≤ u → c u = 0
theorem hR_le {R : RW} {v : Nat} (o : R_ok 6 R) (hv : v < 4) : hR R v ≤ 9 := by
  unfold hR
  by_cases e : vall R v = true
  · rw [if_pos e]
    by_cases q : R_il R v = true
    · rw [if_pos q]; exact (o.2.2.2.2.2.2.1 v hv q).2
    · rw [if_neg q]; omega
  · rw [if_neg e]; omega
theorem czr.le {R : RW} {c : Nat → Nat} (z : czr R c) (o : R_ok 6 R) : ∀ v, c v ≤ 9 := fun v => by
  by_cases e : v < 4
  · have := (z.1 v e).2
    have := hR_le o e
    omega
  · rw [z.2 v (by omega)]; omega
theorem tv9 {x z : Nat} {c : Nat → Nat} (hx : VZ x) (hz : z ≤ 9) (hc : ∀ v, v < 4 → c v ≤ 9) (hr : ∀ v, v < 4 → hitb true x v = true → c v ≤ 8) : tv x z c ≤ 9 := by
  rcases tm_cases hx with rfl | rfl | rfl | rfl | rfl | e | e
  · exact hz
  · exact hc 3 (by omega)
  · exact hc 2 (by omega)
  · exact hc 1 (by omega)
  · exact hc 0 (by omega)
  · rw [tv_v.2.1 e.1 (by omega)]; omega
  · rw [tv_v.2.2 e.1]
    have := hr (x - 25) (by omega) (by
      unfold hitb vv
      rw [if_neg (by omega), if_neg (by omega), if_neg (by omega), decide_eq_true (show x - 24 = x - 25 + 1 by omega), decide_eq_true (show 25 ≤ x by omega)]; rfl)
    omega
theorem occ_of {r : Bool} {R : RW} {l v k : Nat} (h : (hitb r (R_a R l k) v || hitb r (R_b R l k) v) = true) : ∀ {n : Nat}, k < n → occ r R l v n = true
  | 0, q => absurd q (by omega)
  | n + 1, q => by
    rw [occ_s]
    by_cases e : k = n
    · rw [← e, h, Bool.or_true]
    · rw [occ_of h (n := n) (by omega), Bool.true_or]
theorem voc_of {r : Bool} {R : RW} {l v k : Nat} (hl : l < 5) (hk : k < R_n R l) (h : (hitb r (R_a R l k) v || hitb r (R_b R l k) v) = true) : voc r R v = true := by
  have := occ_of h hk
  unfold voc
  have : l = 0 ∨ l = 1 ∨ l = 2 ∨ l = 3 ∨ l = 4 := by omega
  rcases this with rfl | rfl | rfl | rfl | rfl <;> simp_all
theorem tv9s {R : RW} (o : R_ok 6 R) {l k z : Nat} {c : Nat → Nat} (hl : l < 5) (hk : k < R_n R l) (hz : z ≤ 9) (hc : ∀ v, v < 4 → c v ≤ 9) (hr : ∀ v, v < 4 → voc true R v = true → c v ≤ 8) : tv (R_a R l k) z c ≤ 9 ∧ tv (R_b R l k) z c ≤ 9 := by
  obtain ⟨va, vb, _⟩ := (o.lok (by omega) l hl).2 k hk
  exact ⟨tv9 va hz hc fun v hv q => hr v hv (voc_of hl hk (by rw [q, Bool.true_or])), tv9 vb hz hc fun v hv q => hr v hv (voc_of hl hk (by rw [q, Bool.or_true]))⟩
theorem R_ok.p {np : Nat} {R : RW} (o : R_ok np R) {l k : Nat} (hl : l < 5) (h3 : l ≠ 3) (hk : k < R_n R l) : R_p R l k < np := by
  have := o.2.2.2.2.2.1 l k hl hk
  rw [if_neg h3] at this
  exact this
theorem gcd_lt {R : RW} (o : R_ok 6 R) {l k z : Nat} {c : Nat → Nat} (hl : l < 5) (h3 : l ≠ 3) (hk : k < R_n R l) (hz : z ≤ 9) (hc : ∀ v, v < 4 → c v ≤ 9) (hr : ∀ v, v < 4 → voc true R v = true → c v ≤ 8) : R_p R l k * 100 + tv (R_a R l k) z c * 10 + tv (R_b R l k) z c < 600 := by
  obtain ⟨a, b⟩ := tv9s o hl hk hz hc hr
  have := o.p hl h3 hk
  omega
theorem cin_mono {R : RW} {c : Nat → Nat} {X Y : Nat → Prop} (h : cin R c X) (s : ∀ x, X x → Y x) : cin R c Y := ⟨h.1, h.2.1, fun k hk => s _ (h.2.2 k hk)⟩
theorem tl4_i {n n' : Nat} {c c' : Nat → Nat} (h : ∀ v, c v ≤ 9) (h' : ∀ v, c' v ≤ 9) (z : ∀ u, 4 ≤ u → c u = 0) (z' : ∀ u, 4 ≤ u → c' u = 0) (e : tl4 n c = tl4 n' c') : n = n' ∧ c = c' := by
  unfold tl4 tld at e
  have a0 := h 0
  have a1 := h 1
  have a2 := h 2
  have a3 := h 3
  have b0 := h' 0
  have b1 := h' 1
  have b2 := h' 2
  have b3 := h' 3
  refine ⟨by omega, funext fun u => ?_⟩
  by_cases q : u < 4
  · have : u = 0 ∨ u = 1 ∨ u = 2 ∨ u = 3 := by omega
    rcases this with rfl | rfl | rfl | rfl <;> omega
  · rw [z u (by omega), z' u (by omega)]
theorem tl4_lt {n : Nat} {c : Nat → Nat} (h : ∀ v, c v ≤ 9) (hn : n < 20) : tl4 n c < 200000 := by
  unfold tl4 tld
  have a0 := h 0
  have a1 := h 1
  have a2 := h 2
  have a3 := h 3
  omega
def gnd (S : gS) : Prop := S.1.Nodup ∧ S.2.1.Nodup ∧ S.1.length ≤ 12 ∧ S.2.1.length ≤ 60 ∧ (∀ x, x ∈ S.1 → x < 600) ∧ ∀ t, t ∈ S.2.1 → t < 200000
def gmn (E : Nat → Prop) (Rs : Nat → RW) (m : Nat) (A : List Nat) : Prop := ∀ X : Nat → Prop, (∀ x, E x → X x) → (∀ n c, n < m → czr (Rs n) c → cin (Rs n) c X → ∀ k, k < R_n (Rs n) 0 → X (hdc (Rs n) c k)) → ∀ x, x ∈ A → X x
def gjs (Rs : Nat → RW) (m : Nat) (S : gS) : Prop := ∀ t, t ∈ S.2.1 → ∃ n c, n < m ∧ czr (Rs n) c ∧ t = tl4 n c ∧ cin (Rs n) c fun x => x ∈ S.1
def ghd (Rs : Nat → RW) (m : Nat) (S : gS) : Prop := ∀ n c, n < m → czr (Rs n) c → tl4 n c ∈ S.2.1 → ∀ k, k < R_n (Rs n) 0 → hdc (Rs n) c k ∈ S.1
def GV (E : Nat → Prop) (Rs : Nat → RW) (m : Nat) (S : gS) : Prop := gnd S ∧ gmn E Rs m S.1 ∧ gjs Rs m S ∧ (S.2.2 = true → ghd Rs m S)
theorem cin_hd {R : RW} (o : R_ok 6 R) {c : Nat → Nat} {X : Nat → Prop} (z : czr R c) (h : cin R c X) {k : Nat} (hk : k < R_n R 0) : hdc R c k < 600 := gcd_lt o (by omega) (by omega) hk (by omega) (fun v _ => z.le o v) h.1
theorem GV_st {E : Nat → Prop} {Rs : Nat → RW} {m : Nat} (o : RsO Rs m) {n : Nat} {c : Nat → Nat} (hn : n < m) (z : czr (Rs n) c) {S : gS} (g : GV E Rs m S) : GV E Rs m (gst (Rs n) n c S) := by
  rcases gst_cs (Rs n) n c S with e | ⟨h, ⟨q, e⟩ | ⟨q, e⟩⟩
  · rw [e]; exact g
  · rw [e]; exact ⟨g.1, g.2.1, g.2.2.1, fun z => Bool.noConfusion (show false = true from z)⟩
  · obtain ⟨⟨g1, g2, g3, g4, g5, g6⟩, m1, j1, d1⟩ := g
    have on := o.2 n hn
    have sub : ∀ x, x ∈ S.1 → x ∈ (gad (hdc (Rs n) c) (R_n (Rs n) 0) 0 S.1).1 := fun x hx => gad_in hx
    have c2 : cin (Rs n) c fun x => x ∈ (gad (hdc (Rs n) c) (R_n (Rs n) 0) 0 S.1).1 := cin_mono h.2.1 sub
    rw [e]
    refine ⟨⟨?_, ?_, ?_, ?_, ?_, ?_⟩, ?_, ?_, ?_⟩
    · exact gad_P (P := List.Nodup) (fun j A _ _ w _ p => nd_app p w) g1
    · exact nd_app g2 h.2.2
    · exact gad_P (P := fun A => A.length ≤ 12) (fun j A _ _ _ l _ => by rw [List.length_append, List.length_singleton]; omega) g3
    · show (S.2.1 ++ [tl4 n c]).length ≤ 60
      rw [List.length_append, List.length_singleton]; omega
    · exact gad_P (P := fun A => ∀ x, x ∈ A → x < 600) (fun j A _ hj _ _ p x hx => by
        rcases List.mem_append.mp hx with w | w
        · exact p x w
        · rw [List.mem_singleton.mp w]; exact cin_hd on z h.2.1 (by omega)) g5
    · intro t ht
      rcases List.mem_append.mp ht with w | w
      · exact g6 t w
      · rw [List.mem_singleton.mp w]; exact tl4_lt (z.le on) (by have := o.1; omega)
    · intro X hE hX
      have hA := m1 X hE hX
      have hc := hX n c hn z (cin_mono h.2.1 hA)
      exact gad_P (P := fun A => ∀ x, x ∈ A → X x) (fun j A _ hj _ _ p x hx => by
        rcases List.mem_append.mp hx with w | w
        · exact p x w
        · rw [List.mem_singleton.mp w]; exact hc j (by omega)) hA
    · intro t ht
      rcases List.mem_append.mp ht with w | w
      · obtain ⟨n', c', q1, q2, q3, q4⟩ := j1 t w
        exact ⟨n', c', q1, q2, q3, cin_mono q4 sub⟩
      · exact ⟨n, c, hn, z, List.mem_singleton.mp w, c2⟩
    · intro ok n' c' hn' z' ht k hk
      rcases List.mem_append.mp ht with w | w
      · exact sub _ (d1 h.1 n' c' hn' z' w k hk)
      · obtain ⟨a, b⟩ := tl4_i (z'.le (o.2 n' hn')) (z.le on) z'.2 z.2 (List.mem_singleton.mp w)
        subst a b
        exact gad_t ok k (Nat.zero_le _) (by omega)
theorem GV_al {E : Nat → Prop} {Rs : Nat → RW} {m : Nat} (o : RsO Rs m) {t : Nat} {S : gS} (g : GV E Rs m S) : GV E Rs m (gal Rs m t S) :=
  gal_P Rs m (fun n c hn h1 h2 S g => GV_st o hn ⟨h1, h2⟩ g) g
theorem GV_cl {E : Nat → Prop} {Rs : Nat → RW} {m : Nat} (o : RsO Rs m) {S : gS} (g : GV E Rs m S) (ok : (gal Rs m 62 S).2.2 = true) : gcl Rs m (gal Rs m 62 S) :=
  gal_fix (P := GV E Rs m) (fun n c hn h1 h2 S g => GV_st o hn ⟨h1, h2⟩ g) (fun S g => g.1.2.2.2.1) g (by omega) ok
/-- what the rules give is there -/
theorem gcl_u {E : Nat → Prop} {Rs : Nat → RW} {m : Nat} {S : gS} (g : GV E Rs m S) (ok : S.2.2 = true) (cl : gcl Rs m S) {n : Nat} {c : Nat → Nat} (hn : n < m) (z : czr (Rs n) c) (h : cin (Rs n) c fun x => x ∈ S.1) : tl4 n c ∈ S.2.1 ∧ ∀ k, k < R_n (Rs n) 0 → hdc (Rs n) c k ∈ S.1 := by
  have ht : tl4 n c ∈ S.2.1 := Decidable.byContradiction fun q => by
    have e := cl n c hn z.1 z.2
    have p : S.2.2 = true ∧ cin (Rs n) c (fun x => x ∈ S.1) ∧ tl4 n c ∉ S.2.1 := ⟨ok, h, q⟩
    by_cases l : 60 ≤ S.2.1.length
    · rw [gst_ov p l] at e
      have : false = S.2.2 := congrArg (fun z : gS => z.2.2) e
      rw [ok] at this; exact Bool.noConfusion this
    · rw [gst_yes p (by omega)] at e
      have : (S.2.1 ++ [tl4 n c]).length = S.2.1.length := congrArg (fun z : gS => z.2.1.length) e
      rw [List.length_append, List.length_singleton] at this
      omega
  exact ⟨ht, g.2.2.2 ok n c hn z ht⟩
/-- grounding anew gives as many of each -/
theorem gal_anew {E : Nat → Prop} {Rs : Nat → RW} {m : Nat} (o : RsO Rs m) {S : gS} (g : GV E Rs m S) (ok : S.2.2 = true) (cl : gcl Rs m S) (hE : ∀ x, E x → x ∈ S.1) {A0 : List Nat} (n0 : A0.Nodup) (s0 : ∀ x, x ∈ A0 ↔ E x) :
    (gal Rs m 62 (A0, [], true)).2.2 = true ∧ (gal Rs m 62 (A0, [], true)).1.length = S.1.length ∧ (gal Rs m 62 (A0, [], true)).2.1.length = S.2.1.length := by
  have l0 := nd_le n0 fun x hx => hE x ((s0 x).mp hx)
  have g3 := g.1.2.2.1
  have g0 : GV E Rs m (A0, [], true) := ⟨⟨n0, List.nodup_nil, by show A0.length ≤ 12; omega, by show (0 : Nat) ≤ 60; omega, fun x hx => g.1.2.2.2.2.1 x (hE x ((s0 x).mp hx)), fun t ht => absurd ht List.not_mem_nil⟩, fun X h1 _ x hx => h1 x ((s0 x).mp hx), fun t ht => absurd ht List.not_mem_nil, fun _ n c _ _ ht => absurd ht List.not_mem_nil⟩
  have p0 : GV E Rs m (A0, [], true) ∧ (A0, ([] : List Nat), true).2.2 = true ∧ (∀ x, x ∈ A0 → x ∈ S.1) ∧ ∀ t, t ∈ ([] : List Nat) → t ∈ S.2.1 := ⟨g0, rfl, fun x hx => hE x ((s0 x).mp hx), fun t ht => absurd ht List.not_mem_nil⟩
  obtain ⟨gT, okT, sA, sI⟩ := gal_P (P := fun T : gS => GV E Rs m T ∧ T.2.2 = true ∧ (∀ x, x ∈ T.1 → x ∈ S.1) ∧ ∀ t, t ∈ T.2.1 → t ∈ S.2.1) Rs m (t := 62) (fun n c hn h1 h2 T p => by
    obtain ⟨p1, p2, p3, p4⟩ := p
    refine ⟨GV_st o hn ⟨h1, h2⟩ p1, ?_⟩
    rcases gst_cs (Rs n) n c T with e | ⟨h, w⟩
    · rw [e]; exact ⟨p2, p3, p4⟩
    · obtain ⟨u1, u2⟩ := gcl_u g ok cl hn ⟨h1, h2⟩ (cin_mono h.2.1 p3)
      have l1 := nd_le (nd_app p1.1.2.1 h.2.2) (B := S.2.1) fun x hx => by
        rcases List.mem_append.mp hx with w | w
        · exact p4 x w
        · rw [List.mem_singleton.mp w]; exact u1
      rw [List.length_append, List.length_singleton] at l1
      have l2 := g.1.2.2.2.1
      rcases w with ⟨q, e⟩ | ⟨q, e⟩
      · omega
      · rw [e]
        refine ⟨gad_ok (C := S.1) (fun A hA hs => by have := nd_le hA hs; omega) p1.1.1 p3 (fun j _ hj => u2 j (by omega)), ?_, ?_⟩
        · exact gad_P (P := fun A => ∀ x, x ∈ A → x ∈ S.1) (fun j A _ hj _ _ p x hx => by
            rcases List.mem_append.mp hx with w | w
            · exact p x w
            · rw [List.mem_singleton.mp w]; exact u2 j (by omega)) p3
        · intro t ht
          rcases List.mem_append.mp ht with w | w
          · exact p4 t w
          · rw [List.mem_singleton.mp w]; exact u1) p0
  have clT := GV_cl o g0 okT
  have xT := gal_x Rs m 62 (A0, [], true)
  have sA2 : ∀ x, x ∈ S.1 → x ∈ (gal Rs m 62 (A0, [], true)).1 := g.2.1 _ (fun x hx => by
    obtain ⟨B, eB⟩ := xT.1
    rw [eB]; exact List.mem_append_left _ ((s0 x).mpr hx)) fun n c hn z h k hk => (gcl_u gT okT clT hn z h).2 k hk
  have sI2 : ∀ t, t ∈ S.2.1 → t ∈ (gal Rs m 62 (A0, [], true)).2.1 := fun t ht => by
    obtain ⟨n, c, hn, z, e, h⟩ := g.2.2.1 t ht
    rw [e]; exact (gcl_u gT okT clT hn z (cin_mono h sA2)).1
  exact ⟨okT, Nat.le_antisymm (nd_le gT.1.1 sA) (nd_le g.1.1 sA2), Nat.le_antisymm (nd_le gT.1.2.1 sI) (nd_le g.1.2.1 sI2)⟩
