/-! GROUNDING, PURE: ATOMS AND INSTANCES AS LISTS -/
abbrev gS : Type := List Nat × List Nat × Bool
def lat (A : List Nat) : Nat → Nat := fun k => A.getD k 0
def idx (A : List Nat) (x : Nat) : Nat := nof (lat A) x 0 A.length
theorem lat_app {A B : List Nat} {k : Nat} (h : k < A.length) : lat (A ++ B) k = lat A k := by
  unfold lat
  rw [List.getD_eq_getElem?_getD, List.getD_eq_getElem?_getD, List.getElem?_append_left h]
theorem lat_new {A : List Nat} {x : Nat} : lat (A ++ [x]) A.length = x := by
  unfold lat
  rw [List.getD_eq_getElem?_getD, List.getElem?_append_right (Nat.le_refl _), Nat.sub_self]; rfl
theorem lat_mem {A : List Nat} {k : Nat} (h : k < A.length) : lat A k ∈ A := by
  unfold lat
  rw [List.getD_eq_getElem?_getD, List.getElem?_eq_getElem h]
  exact List.getElem_mem h
theorem mem_lat {A : List Nat} {x : Nat} (h : x ∈ A) : ∃ k, k < A.length ∧ lat A k = x := by
  obtain ⟨k, h1, h2⟩ := List.mem_iff_getElem.mp h
  refine ⟨k, h1, ?_⟩
  unfold lat
  rw [List.getD_eq_getElem?_getD, List.getElem?_eq_getElem h1, ← h2]; rfl
theorem nof_cg {f g : Nat → Nat} {x : Nat} : ∀ {n k : Nat}, (∀ j, k ≤ j → j < k + n → f j = g j) → nof f x k n = nof g x k n
  | 0, _, _ => rfl
  | n + 1, k, h => by
    rw [nof_s, nof_s, h k (Nat.le_refl _) (by omega), nof_cg (n := n) (k := k + 1) fun j h1 h2 => h j (by omega) (by omega)]
theorem nof_e {f : Nat → Nat} {x : Nat} : ∀ {n k : Nat}, nof f x k (n + 1) = if nof f x k n ≠ 0 then nof f x k n else if f (k + n) = x then k + n + 1 else 0
  | 0, k => by simp [nof]
  | n + 1, k => by
    rw [nof_s f x k (n + 1), nof_s f x k n]
    by_cases e : f k = x
    · rw [if_pos e, if_pos e, if_pos (by omega)]
    · rw [if_neg e, if_neg e, nof_e (n := n) (k := k + 1), show k + 1 + n = k + (n + 1) by omega]
theorem nof_i {f : Nat → Nat} {x : Nat} : ∀ {n k : Nat}, nof f x k n ≠ 0 → k < nof f x k n ∧ nof f x k n ≤ k + n ∧ f (nof f x k n - 1) = x
  | 0, _, h => absurd rfl h
  | n + 1, k, h => by
    rw [nof_s] at *
    by_cases e : f k = x
    · rw [if_pos e]; exact ⟨by omega, by omega, e⟩
    · rw [if_neg e] at *
      obtain ⟨h1, h2, h3⟩ := nof_i h
      exact ⟨by omega, by omega, h3⟩
theorem idx_z {A : List Nat} {x : Nat} : idx A x = 0 ↔ x ∉ A := by
  unfold idx
  rw [nof_z]
  constructor
  · intro h m
    obtain ⟨k, h1, h2⟩ := mem_lat m
    exact h k (Nat.zero_le _) (by omega) h2
  · intro h j _ h2 e
    exact h (e ▸ lat_mem (by omega))
theorem idx_i {A : List Nat} {x : Nat} (h : x ∈ A) : 0 < idx A x ∧ idx A x ≤ A.length ∧ lat A (idx A x - 1) = x := by
  have : idx A x ≠ 0 := fun z => idx_z.mp z h
  obtain ⟨h1, h2, h3⟩ := nof_i this
  exact ⟨by omega, by rw [Nat.zero_add] at h2; exact h2, h3⟩
theorem idx_le (A : List Nat) (x : Nat) : idx A x ≤ A.length := by
  have := nof_le (at' := lat A) x A.length 0
  rw [Nat.zero_add] at this
  exact this
theorem idx_app {A : List Nat} {x y : Nat} (hy : y ∉ A) : idx (A ++ [y]) x = if x = y then A.length + 1 else idx A x := by
  have e : nof (lat (A ++ [y])) x 0 A.length = idx A x := nof_cg fun j _ h => lat_app (by omega)
  unfold idx at *
  rw [List.length_append, List.length_singleton, nof_e, e, Nat.zero_add, lat_new]
  by_cases q : x = y
  · rw [if_pos q, q, idx_z.mpr hy |> (fun z => (show nof (lat A) y 0 A.length = 0 from z)), if_neg (fun z => z rfl), if_pos rfl]
  · rw [if_neg q]
    by_cases w : nof (lat A) x 0 A.length = 0
    · rw [w, if_neg (fun z => z rfl), if_neg (fun z => q z.symm)]
    · rw [if_pos w]
/-- the atoms of a head -/
def gad (f : Nat → Nat) : Nat → Nat → List Nat → List Nat × Bool
  | 0, _, A => (A, true)
  | m + 1, k, A => if f k ∈ A then gad f m (k + 1) A else if 12 ≤ A.length then (A, false) else gad f m (k + 1) (A ++ [f k])
theorem gad_s (f : Nat → Nat) (m k : Nat) (A : List Nat) : gad f (m + 1) k A = if f k ∈ A then gad f m (k + 1) A else if 12 ≤ A.length then (A, false) else gad f m (k + 1) (A ++ [f k]) := rfl
def hdc (R : RW) (c : Nat → Nat) (k : Nat) : Nat := gcd3 (R_p R 0 k) (R_a R 0 k) (R_b R 0 k) c
def bdc (R : RW) (c : Nat → Nat) (k : Nat) : Nat := gcd3 (R_p R 1 k) (R_a R 1 k) (R_b R 1 k) c
/-- constants give an instance over atoms -/
def cin (R : RW) (c : Nat → Nat) (X : Nat → Prop) : Prop := (∀ v, v < 4 → voc true R v = true → c v ≤ 8) ∧ cmA R c ∧ ∀ k, k < R_n R 1 → X (bdc R c k)
def tl4 (n : Nat) (c : Nat → Nat) : Nat := n * 10000 + tld c
noncomputable def gst (R : RW) (n : Nat) (c : Nat → Nat) (S : gS) : gS :=
  if S.2.2 = true ∧ bP (cin R c (fun x => x ∈ S.1) ∧ tl4 n c ∉ S.2.1) = true then
    if 60 ≤ S.2.1.length then (S.1, S.2.1, false) else ((gad (hdc R c) (R_n R 0) 0 S.1).1, S.2.1 ++ [tl4 n c], (gad (hdc R c) (R_n R 0) 0 S.1).2)
  else S
def lpf (f : Nat → gS → gS) : Nat → Nat → gS → gS
  | 0, _, S => S
  | m + 1, k, S => lpf f m (k + 1) (f k S)
theorem lpf_s (f : Nat → gS → gS) (m k : Nat) (S : gS) : lpf f (m + 1) k S = lpf f m (k + 1) (f k S) := rfl
def cl4 (c : Nat → Nat) : Nat → Nat := fun u => if u < 4 then c u else 0
def cup (c : Nat → Nat) (v k : Nat) : Nat → Nat := fun u => if u = v then k else c u
def hR (R : RW) (v : Nat) : Nat := if vall R v = true then (if R_il R v = true then R_to R v else 9) else 0
noncomputable def gbd (R : RW) (n : Nat) : Nat → (Nat → Nat) → gS → gS
  | 0, c, S => gst R n (cl4 c) S
  | j + 1, c, S => lpf (fun k S => gbd R n j (cup c (3 - j) k) S) (hR R (3 - j) + 1 - loR R (3 - j)) (loR R (3 - j)) S
theorem gbd_s (R : RW) (n j : Nat) (c : Nat → Nat) (S : gS) : gbd R n (j + 1) c S = lpf (fun k S => gbd R n j (cup c (3 - j) k) S) (hR R (3 - j) + 1 - loR R (3 - j)) (loR R (3 - j)) S := rfl
noncomputable def grd (Rs : Nat → RW) (m : Nat) (S : gS) : gS := lpf (fun n S => gbd (Rs n) n 4 (fun _ => 0) S) m 0 S
noncomputable def gal (Rs : Nat → RW) (m : Nat) : Nat → gS → gS
  | 0, S => S
  | t + 1, S => if (grd Rs m S).2.2 = true ∧ (grd Rs m S).2.1.length ≠ S.2.1.length then gal Rs m t (grd Rs m S) else grd Rs m S
theorem gal_s (Rs : Nat → RW) (m t : Nat) (S : gS) : gal Rs m (t + 1) S = if (grd Rs m S).2.2 = true ∧ (grd Rs m S).2.1.length ≠ S.2.1.length then gal Rs m t (grd Rs m S) else grd Rs m S := rfl
theorem cl4_e {c c' : Nat → Nat} (h : ∀ u, u < 4 → c u = c' u) : cl4 c = cl4 c' := by
  funext u
  unfold cl4
  by_cases e : u < 4
  · rw [if_pos e, if_pos e, h u e]
  · rw [if_neg e, if_neg e]
theorem lpf_cg {f g : Nat → gS → gS} : ∀ {m k : Nat} {S : gS}, (∀ j T, k ≤ j → j < k + m → f j T = g j T) → lpf f m k S = lpf g m k S
  | 0, _, _, _ => rfl
  | m + 1, k, S, h => by
    rw [lpf_s, lpf_s, h k S (Nat.le_refl _) (by omega)]
    exact lpf_cg fun j T h1 h2 => h j T (by omega) (by omega)
theorem gbd_cg (R : RW) (n : Nat) : ∀ {j : Nat} {c c' : Nat → Nat} {S : gS}, j ≤ 4 → (∀ u, u < 4 - j → c u = c' u) → gbd R n j c S = gbd R n j c' S
  | 0, c, c', S, _, h => by
    show gst R n (cl4 c) S = gst R n (cl4 c') S
    rw [cl4_e h]
  | j + 1, c, c', S, hj, h => by
    rw [gbd_s, gbd_s]
    refine lpf_cg fun k T _ _ => gbd_cg R n (by omega) fun u hu => ?_
    unfold cup
    by_cases e : u = 3 - j
    · rw [if_pos e, if_pos e]
    · rw [if_neg e, if_neg e]; exact h u (by omega)
theorem lpf_P {P : gS → Prop} {f : Nat → gS → gS} : ∀ {m k : Nat}, (∀ j S, k ≤ j → j < k + m → P S → P (f j S)) → ∀ {S : gS}, P S → P (lpf f m k S)
  | 0, _, _, _, p => p
  | m + 1, k, h, S, p => by
    rw [lpf_s]
    exact lpf_P (fun j T h1 h2 => h j T (by omega) (by omega)) (h k S (Nat.le_refl _) (by omega) p)
def rng (R : RW) (c : Nat → Nat) (v : Nat) : Prop := loR R v ≤ c v ∧ c v ≤ hR R v
theorem gbd_P {P : gS → Prop} (R : RW) (n : Nat) : ∀ j, j ≤ 4 → ∀ c, (∀ c', (∀ u, u < 4 - j → c' u = c u) → (∀ u, 4 - j ≤ u → u < 4 → rng R c' u) → (∀ u, 4 ≤ u → c' u = 0) → ∀ S, P S → P (gst R n c' S)) → ∀ S, P S → P (gbd R n j c S)
  | 0, _, c, h, S, p => h (cl4 c) (fun u hu => if_pos hu) (fun u h1 h2 => absurd h1 (by omega)) (fun u hu => if_neg (by omega)) S p
  | j + 1, hj, c, h, S, p => by
    rw [gbd_s]
    refine lpf_P (fun k T h1 h2 q => gbd_P R n j (by omega) _ (fun c' a1 a2 a3 => h c' (fun u hu => ?_) (fun u q1 q2 => ?_) a3) T q) p
    · rw [a1 u (by omega)]; exact if_neg (by omega)
    · by_cases e : u = 3 - j
      · have := a1 u (by omega)
        unfold cup at this
        rw [if_pos e] at this
        subst e
        exact ⟨by omega, by omega⟩
      · exact a2 u (by omega) q2
theorem grd_P {P : gS → Prop} (Rs : Nat → RW) (m : Nat) (h : ∀ n c, n < m → (∀ u, u < 4 → rng (Rs n) c u) → (∀ u, 4 ≤ u → c u = 0) → ∀ S, P S → P (gst (Rs n) n c S)) {S : gS} (p : P S) : P (grd Rs m S) :=
  lpf_P (fun n T _ h2 q => gbd_P (Rs n) n 4 (Nat.le_refl _) _ (fun c' _ a2 a3 => h n c' (by omega) (fun u hu => a2 u (by omega) hu) a3) T q) p
theorem gal_P {P : gS → Prop} (Rs : Nat → RW) (m : Nat) (h : ∀ n c, n < m → (∀ u, u < 4 → rng (Rs n) c u) → (∀ u, 4 ≤ u → c u = 0) → ∀ S, P S → P (gst (Rs n) n c S)) : ∀ {t : Nat} {S : gS}, P S → P (gal Rs m t S)
  | 0, _, p => p
  | t + 1, S, p => by
    rw [gal_s]
    by_cases e : (grd Rs m S).2.2 = true ∧ (grd Rs m S).2.1.length ≠ S.2.1.length
    · rw [if_pos e]; exact gal_P Rs m h (grd_P Rs m h p)
    · rw [if_neg e]; exact grd_P Rs m h p
