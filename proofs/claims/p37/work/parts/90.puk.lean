/-! GROUNDING, PURE: WHAT IT KEEPS -/
theorem gad_P {P : List Nat → Prop} {f : Nat → Nat} : ∀ {m k : Nat} {A : List Nat}, (∀ j A, k ≤ j → j < k + m → f j ∉ A → A.length < 12 → P A → P (A ++ [f j])) → P A → P (gad f m k A).1
  | 0, _, _, _, p => p
  | m + 1, k, A, h, p => by
    rw [gad_s]
    by_cases e : f k ∈ A
    · rw [if_pos e]; exact gad_P (fun j B h1 h2 => h j B (by omega) (by omega)) p
    · rw [if_neg e]
      by_cases q : 12 ≤ A.length
      · rw [if_pos q]; exact p
      · rw [if_neg q]; exact gad_P (fun j B h1 h2 => h j B (by omega) (by omega)) (h k A (Nat.le_refl _) (by omega) e (by omega) p)
theorem gad_sub {f : Nat → Nat} {m k : Nat} {A : List Nat} : ∃ B, (gad f m k A).1 = A ++ B :=
  gad_P (P := fun C => ∃ B, C = A ++ B) (fun j C _ _ _ _ ⟨B, e⟩ => ⟨B ++ [f j], by rw [e, List.append_assoc]⟩) ⟨[], (List.append_nil A).symm⟩
theorem gad_in {f : Nat → Nat} {m k : Nat} {A : List Nat} {x : Nat} (h : x ∈ A) : x ∈ (gad f m k A).1 := by
  obtain ⟨B, e⟩ := gad_sub (f := f) (m := m) (k := k) (A := A)
  rw [e]; exact List.mem_append_left _ h
theorem gad_t {f : Nat → Nat} : ∀ {m k : Nat} {A : List Nat}, (gad f m k A).2 = true → ∀ j, k ≤ j → j < k + m → f j ∈ (gad f m k A).1
  | 0, _, _, _, j, h1, h2 => absurd h1 (by omega)
  | m + 1, k, A, h, j, h1, h2 => by
    rw [gad_s] at *
    by_cases e : f k ∈ A
    · rw [if_pos e] at *
      by_cases w : j = k
      · rw [w]; exact gad_in e
      · exact gad_t h j (by omega) (by omega)
    · rw [if_neg e] at *
      by_cases q : 12 ≤ A.length
      · rw [if_pos q] at h; exact Bool.noConfusion h
      · rw [if_neg q] at *
        by_cases w : j = k
        · rw [w]; exact gad_in (List.mem_append_right _ (List.mem_singleton.mpr rfl))
        · exact gad_t h j (by omega) (by omega)
/-- never too many, where all lies in what is not too much -/
theorem gad_ok {f : Nat → Nat} {C : List Nat} (hC : ∀ A : List Nat, A.Nodup → (∀ x, x ∈ A → x ∈ C) → A.length ≤ 12) : ∀ {m k : Nat} {A : List Nat}, A.Nodup → (∀ x, x ∈ A → x ∈ C) → (∀ j, k ≤ j → j < k + m → f j ∈ C) → (gad f m k A).2 = true
  | 0, _, _, _, _, _ => rfl
  | m + 1, k, A, hn, hs, hf => by
    rw [gad_s]
    by_cases e : f k ∈ A
    · rw [if_pos e]; exact gad_ok hC hn hs fun j h1 h2 => hf j (by omega) (by omega)
    · rw [if_neg e]
      have n2 : (A ++ [f k]).Nodup := List.nodup_append.mpr ⟨hn, List.nodup_cons.mpr ⟨List.not_mem_nil, List.nodup_nil⟩, fun a ha b hb q => e (by rw [List.mem_singleton] at hb; rw [← hb, ← q]; exact ha)⟩
      have s2 : ∀ x, x ∈ A ++ [f k] → x ∈ C := fun x hx => by
        rcases List.mem_append.mp hx with w | w
        · exact hs x w
        · rw [List.mem_singleton.mp w]; exact hf k (Nat.le_refl _) (by omega)
      have l2 := hC _ n2 s2
      rw [List.length_append, List.length_singleton] at l2
      rw [if_neg (by omega)]
      exact gad_ok hC n2 s2 fun j h1 h2 => hf j (by omega) (by omega)
theorem nd_app {A : List Nat} {x : Nat} (h : A.Nodup) (e : x ∉ A) : (A ++ [x]).Nodup := List.nodup_append.mpr ⟨h, List.nodup_cons.mpr ⟨List.not_mem_nil, List.nodup_nil⟩, fun a ha b hb q => e (by rw [List.mem_singleton] at hb; rw [← hb, ← q]; exact ha)⟩
theorem nd_le : ∀ {A B : List Nat}, A.Nodup → (∀ x, x ∈ A → x ∈ B) → A.length ≤ B.length
  | [], _, _, _ => Nat.zero_le _
  | a :: A, B, h, s => by
    have h2 := List.nodup_cons.mp h
    have hb : a ∈ B := s a List.mem_cons_self
    have := nd_le (A := A) (B := B.erase a) h2.2 fun x hx => by
      have hne : x ≠ a := fun e => h2.1 (e ▸ hx)
      exact (List.mem_erase_of_ne hne).mpr (s x (List.mem_cons_of_mem _ hx))
    rw [List.length_erase_of_mem hb] at this
    have : 0 < B.length := List.length_pos_of_mem hb
    simp only [List.length_cons]; omega
theorem gst_no {R : RW} {n : Nat} {c : Nat → Nat} {S : gS} (h : ¬ (S.2.2 = true ∧ cin R c (fun x => x ∈ S.1) ∧ tl4 n c ∉ S.2.1)) : gst R n c S = S := by
  unfold gst
  rw [if_neg]
  rw [bP_t]; exact h
theorem gst_ov {R : RW} {n : Nat} {c : Nat → Nat} {S : gS} (h : S.2.2 = true ∧ cin R c (fun x => x ∈ S.1) ∧ tl4 n c ∉ S.2.1) (q : 60 ≤ S.2.1.length) : gst R n c S = (S.1, S.2.1, false) := by
  unfold gst
  rw [if_pos (by rw [bP_t]; exact h), if_pos q]
theorem gst_yes {R : RW} {n : Nat} {c : Nat → Nat} {S : gS} (h : S.2.2 = true ∧ cin R c (fun x => x ∈ S.1) ∧ tl4 n c ∉ S.2.1) (q : S.2.1.length < 60) : gst R n c S = ((gad (hdc R c) (R_n R 0) 0 S.1).1, S.2.1 ++ [tl4 n c], (gad (hdc R c) (R_n R 0) 0 S.1).2) := by
  unfold gst
  rw [if_pos (by rw [bP_t]; exact h), if_neg (by omega)]
theorem gst_cs (R : RW) (n : Nat) (c : Nat → Nat) (S : gS) : gst R n c S = S ∨ (S.2.2 = true ∧ cin R c (fun x => x ∈ S.1) ∧ tl4 n c ∉ S.2.1) ∧ (60 ≤ S.2.1.length ∧ gst R n c S = (S.1, S.2.1, false) ∨ S.2.1.length < 60 ∧ gst R n c S = ((gad (hdc R c) (R_n R 0) 0 S.1).1, S.2.1 ++ [tl4 n c], (gad (hdc R c) (R_n R 0) 0 S.1).2)) := by
  by_cases h : S.2.2 = true ∧ cin R c (fun x => x ∈ S.1) ∧ tl4 n c ∉ S.2.1
  · right
    refine ⟨h, ?_⟩
    by_cases q : 60 ≤ S.2.1.length
    · exact Or.inl ⟨q, gst_ov h q⟩
    · exact Or.inr ⟨by omega, gst_yes h (by omega)⟩
  · exact Or.inl (gst_no h)
theorem gst_f {R : RW} {n : Nat} {c : Nat → Nat} {S : gS} (h : S.2.2 = false) : gst R n c S = S := gst_no fun z => by rw [h] at z; exact Bool.noConfusion z.1
theorem gbd_f {R : RW} {n j : Nat} {c : Nat → Nat} {S : gS} (hj : j ≤ 4) (h : S.2.2 = false) : gbd R n j c S = S :=
  gbd_P (P := fun T => T = S) R n j hj c (fun c' _ _ _ T e => by rw [e]; exact gst_f h) S rfl
theorem lpf_f {f : Nat → gS → gS} {S : gS} : ∀ {m k : Nat}, (∀ j, k ≤ j → j < k + m → f j S = S) → lpf f m k S = S
  | 0, _, _ => rfl
  | m + 1, k, h => by
    rw [lpf_s, h k (Nat.le_refl _) (by omega)]
    exact lpf_f fun j h1 h2 => h j (by omega) (by omega)
theorem grd_f {Rs : Nat → RW} {m : Nat} {S : gS} (h : S.2.2 = false) : grd Rs m S = S := lpf_f fun _ _ _ => gbd_f (Nat.le_refl _) h
/-- what comes later lies behind -/
def gxt (S T : gS) : Prop := (∃ B, T.1 = S.1 ++ B) ∧ (∃ J, T.2.1 = S.2.1 ++ J) ∧ (S.2.2 = false → T = S)
theorem gxt.refl (S : gS) : gxt S S := ⟨⟨[], (List.append_nil _).symm⟩, ⟨[], (List.append_nil _).symm⟩, fun _ => rfl⟩
theorem gxt.trans {S T U : gS} (a : gxt S T) (b : gxt T U) : gxt S U := by
  obtain ⟨⟨B, e1⟩, ⟨J, e2⟩, e3⟩ := a
  obtain ⟨⟨C, f1⟩, ⟨K, f2⟩, f3⟩ := b
  exact ⟨⟨B ++ C, by rw [f1, e1, List.append_assoc]⟩, ⟨J ++ K, by rw [f2, e2, List.append_assoc]⟩, fun z => by
    have := e3 z
    rw [f3 (by rw [this]; exact z), this]⟩
theorem gxt.len {S T : gS} (a : gxt S T) : S.1.length ≤ T.1.length ∧ S.2.1.length ≤ T.2.1.length := by
  obtain ⟨⟨B, e1⟩, ⟨J, e2⟩, e3⟩ := a
  rw [e1, e2, List.length_append, List.length_append]; omega
theorem gst_x (R : RW) (n : Nat) (c : Nat → Nat) (S : gS) : gxt S (gst R n c S) := by
  rcases gst_cs R n c S with e | ⟨h, ⟨q, e⟩ | ⟨q, e⟩⟩
  · rw [e]; exact gxt.refl S
  · rw [e]; exact ⟨⟨[], (List.append_nil _).symm⟩, ⟨[], (List.append_nil _).symm⟩, fun z => by rw [z] at h; exact Bool.noConfusion h.1⟩
  · rw [e]; exact ⟨gad_sub, ⟨[tl4 n c], rfl⟩, fun z => by rw [z] at h; exact Bool.noConfusion h.1⟩
theorem gbd_x (R : RW) (n : Nat) {j : Nat} (hj : j ≤ 4) (c : Nat → Nat) (S : gS) : gxt S (gbd R n j c S) :=
  gbd_P (P := gxt S) R n j hj c (fun c' _ _ _ T e => e.trans (gst_x R n c' T)) S (gxt.refl S)
theorem grd_x (Rs : Nat → RW) (m : Nat) (S : gS) : gxt S (grd Rs m S) := grd_P (P := gxt S) Rs m (fun n c _ _ _ T e => e.trans (gst_x _ n c T)) (gxt.refl S)
theorem gal_x (Rs : Nat → RW) (m t : Nat) (S : gS) : gxt S (gal Rs m t S) := gal_P (P := gxt S) Rs m (fun n c _ _ _ T e => e.trans (gst_x _ n c T)) (gxt.refl S)
/-- nothing new: nothing changes anywhere -/
theorem gst_fix {R : RW} {n : Nat} {c : Nat → Nat} {S : gS} (h : (gst R n c S).2.2 = true) (l : (gst R n c S).2.1.length = S.2.1.length) : gst R n c S = S := by
  rcases gst_cs R n c S with e | ⟨_, ⟨_, e⟩ | ⟨_, e⟩⟩
  · exact e
  · rw [e] at h; exact Bool.noConfusion h
  · rw [e] at l
    simp only [List.length_append, List.length_singleton] at l
    omega
theorem lpf_fix {f : Nat → gS → gS} {G : Nat → gS → Prop} (hx : ∀ k T, gxt T (f k T)) : ∀ {m k : Nat} {S : gS}, (∀ j T, k ≤ j → j < k + m → (f j T).2.2 = true → (f j T).2.1.length = T.2.1.length → f j T = T ∧ G j T) → (lpf f m k S).2.2 = true → (lpf f m k S).2.1.length = S.2.1.length → lpf f m k S = S ∧ ∀ j, k ≤ j → j < k + m → G j S
  | 0, _, _, _, _, _ => ⟨rfl, fun j h1 h2 => absurd h1 (by omega)⟩
  | m + 1, k, S, h, ok, ln => by
    rw [lpf_s] at *
    have x1 := hx k S
    have x2 : gxt (f k S) (lpf f m (k + 1) (f k S)) := lpf_P (P := gxt (f k S)) (fun j T _ _ e => e.trans (hx j T)) (gxt.refl _)
    have ok1 : (f k S).2.2 = true := by
      cases e : (f k S).2.2
      · rw [x2.2.2 e, e] at ok; exact ok
      · rfl
    have l1 := x1.len
    have l2 := x2.len
    obtain ⟨a1, a2⟩ := h k S (Nat.le_refl _) (by omega) ok1 (by omega)
    rw [a1] at ok ln ⊢
    obtain ⟨b1, b2⟩ := lpf_fix (G := G) hx (fun j T h1 h2 => h j T (by omega) (by omega)) ok ln
    refine ⟨b1, fun j h1 h2 => ?_⟩
    by_cases w : j = k
    · rw [w]; exact a2
    · exact b2 j (by omega) (by omega)
theorem gbd_fix (R : RW) (n : Nat) : ∀ j, j ≤ 4 → ∀ c S, (gbd R n j c S).2.2 = true → (gbd R n j c S).2.1.length = S.2.1.length → gbd R n j c S = S ∧ ∀ c', (∀ u, u < 4 - j → c' u = c u) → (∀ u, 4 - j ≤ u → u < 4 → rng R c' u) → (∀ u, 4 ≤ u → c' u = 0) → gst R n c' S = S
  | 0, _, c, S, ok, ln => by
    have e := gst_fix (R := R) (n := n) (c := cl4 c) (S := S) ok ln
    refine ⟨e, fun c' h1 _ h3 => ?_⟩
    have : c' = cl4 c := by
      funext u
      by_cases w : u < 4
      · rw [h1 u w]; exact (if_pos w).symm
      · rw [h3 u (by omega)]; exact (if_neg w).symm
    rw [this]; exact e
  | j + 1, hj, c, S, ok, ln => by
    rw [gbd_s] at *
    obtain ⟨a, b⟩ := lpf_fix (G := fun k S => ∀ c', (∀ u, u < 4 - j → c' u = cup c (3 - j) k u) → (∀ u, 4 - j ≤ u → u < 4 → rng R c' u) → (∀ u, 4 ≤ u → c' u = 0) → gst R n c' S = S) (fun k T => gbd_x R n (by omega) _ T) (fun k T _ _ o l => gbd_fix R n j (by omega) _ T o l) ok ln
    refine ⟨a, fun c' h1 h2 h3 => ?_⟩
    obtain ⟨r1, r2⟩ := h2 (3 - j) (by omega) (by omega)
    refine b (c' (3 - j)) r1 (by omega) c' (fun u hu => ?_) (fun u q1 q2 => h2 u (by omega) q2) h3
    unfold cup
    by_cases e : u = 3 - j
    · rw [if_pos e, e]
    · rw [if_neg e]; exact h1 u (by omega)
/-- all that the rules give is there -/
def gcl (Rs : Nat → RW) (m : Nat) (S : gS) : Prop := ∀ n c, n < m → (∀ u, u < 4 → rng (Rs n) c u) → (∀ u, 4 ≤ u → c u = 0) → gst (Rs n) n c S = S
theorem grd_fix {Rs : Nat → RW} {m : Nat} {S : gS} (ok : (grd Rs m S).2.2 = true) (ln : (grd Rs m S).2.1.length = S.2.1.length) : grd Rs m S = S ∧ gcl Rs m S := by
  obtain ⟨a, b⟩ := lpf_fix (f := fun n S => gbd (Rs n) n 4 (fun _ => 0) S) (G := fun n S => ∀ c', (∀ u, u < 4 - 4 → c' u = (fun _ : Nat => 0) u) → (∀ u, 4 - 4 ≤ u → u < 4 → rng (Rs n) c' u) → (∀ u, 4 ≤ u → c' u = 0) → gst (Rs n) n c' S = S) (fun k T => gbd_x _ _ (Nat.le_refl _) _ T) (fun k T _ _ o l => gbd_fix (Rs k) k 4 (Nat.le_refl _) _ T o l) ok ln
  exact ⟨a, fun n c hn h1 h2 => b n (Nat.zero_le _) (by omega) c (fun u hu => absurd hu (by omega)) (fun u _ q => h1 u q) h2⟩
theorem gal_fix {Rs : Nat → RW} {m : Nat} {P : gS → Prop} (hP : ∀ n c, n < m → (∀ u, u < 4 → rng (Rs n) c u) → (∀ u, 4 ≤ u → c u = 0) → ∀ S, P S → P (gst (Rs n) n c S)) (h60 : ∀ S, P S → S.2.1.length ≤ 60) : ∀ {t : Nat} {S : gS}, P S → 61 ≤ t + S.2.1.length → (gal Rs m t S).2.2 = true → gcl Rs m (gal Rs m t S)
  | 0, S, p, l, _ => absurd (h60 S p) (by omega)
  | t + 1, S, p, l, ok => by
    rw [gal_s] at *
    have p2 := grd_P Rs m hP p
    have x := (grd_x Rs m S).len
    by_cases e : (grd Rs m S).2.2 = true ∧ (grd Rs m S).2.1.length ≠ S.2.1.length
    · rw [if_pos e] at *
      exact gal_fix hP h60 p2 (by have := e.2; omega) ok
    · rw [if_neg e] at *
      have ln : (grd Rs m S).2.1.length = S.2.1.length := Decidable.byContradiction fun z => e ⟨ok, z⟩
      obtain ⟨a, b⟩ := grd_fix ok ln
      rw [a]; exact b
