/-! FEWER DIFFERENCES CAN HOLD TOGETHER WHERE MORE CAN -/
def sol (P : PG) (H : Nat) (f : Nat → Int) : Prop := (∀ x, x < 4 → f x ≤ 0) ∧ ∀ i, i < P_m P → H.testBit i = true → f (dx P i) ≤ f (dy P i) + dz P i
theorem rdb_f {P : PG} {H : Nat} {v : Nat → Int} : ∀ {k : Nat}, rdb P H v k = false → rdv P H v k = v ∧ ∀ i, i < k → H.testBit i = true → v (dx P i) ≤ v (dy P i) + dz P i
  | 0, _ => ⟨rfl, fun i hi => absurd hi (by omega)⟩
  | k + 1, h => by
    rw [rdb] at h
    rw [rdv]
    cases e : H.testBit k
    · rw [e] at h
      simp only [Bool.false_eq_true, if_false] at h ⊢
      obtain ⟨a, b⟩ := rdb_f h
      refine ⟨a, fun i hi hb => ?_⟩
      by_cases q : i = k
      · subst q; rw [e] at hb; cases hb
      · exact b i (by omega) hb
    · rw [e] at h
      simp only [if_true, Bool.or_eq_false_iff] at h ⊢
      obtain ⟨a, b⟩ := rdb_f h.1
      have h2 := h.2
      rw [a] at h2 ⊢
      have h3 : v (dx P k) ≤ v (dy P k) + dz P k := by simpa [lwb] using h2
      refine ⟨?_, fun i hi hb => ?_⟩
      · funext j
        rw [lw, if_neg (fun z => by omega)]
      · by_cases q : i = k
        · subst q; exact h3
        · exact b i (by omega) hb
theorem sol_of {P : PG} (o : P_ok P) {H : Nat} (hH : ∀ i, H.testBit i = true → i < P_m P → P_kd P i = 3) : ∀ j, (rds P H j).2 = false → ∃ f, sol P H f
  | 0, h => by cases h
  | j + 1, h => by
    rw [rds] at h
    by_cases e : (rds P H j).2 = true
    · rw [if_pos e] at h
      refine ⟨(rds P H j).1, fun x hx => (rds_bnd o hH j x hx).2, (rdb_f h).2⟩
    · exact sol_of o hH j (by simpa using e)
def s4 (f : Nat → Int) : Int := f 0 + f 1 + f 2 + f 3
theorem sol_max {P : PG} {H : Nat} : ∀ (n : Nat) (f : Nat → Int), sol P H f → (-(s4 f)).toNat ≤ n → ∃ f, sol P H f ∧ ∀ g, sol P H g → s4 g ≤ s4 f
  | 0, f, h, hn => ⟨f, h, fun g hg => by
    have := h.1 0 (by omega); have := h.1 1 (by omega); have := h.1 2 (by omega); have := h.1 3 (by omega)
    have := hg.1 0 (by omega); have := hg.1 1 (by omega); have := hg.1 2 (by omega); have := hg.1 3 (by omega)
    unfold s4 at *; omega⟩
  | n + 1, f, h, hn => by
    by_cases q : ∃ g, sol P H g ∧ s4 f < s4 g
    · obtain ⟨g, hg, hl⟩ := q
      exact sol_max n g hg (by omega)
    · exact ⟨f, h, fun g hg => Int.not_lt.mp fun z => q ⟨g, hg, z⟩⟩
/-- numbers not yet down -/
def up4 (f v : Nat → Int) : Nat := (if v 0 = f 0 then 0 else 1) + (if v 1 = f 1 then 0 else 1) + (if v 2 = f 2 then 0 else 1) + (if v 3 = f 3 then 0 else 1)
theorem lw_le {P : PG} {i : Nat} {v : Nat → Int} (j : Nat) : lw P i v j ≤ v j := by
  unfold lw; split
  · next h => rw [h.1]; omega
  · omega
theorem rdv_le {P : PG} {H : Nat} {v : Nat → Int} : ∀ k j, rdv P H v k j ≤ v j
  | 0, _ => Int.le_refl _
  | k + 1, j => by
    rw [rdv]
    split
    · exact Int.le_trans (lw_le j) (rdv_le k j)
    · exact rdv_le k j
theorem rdv_ge {P : PG} {H : Nat} {v f : Nat → Int} (hf : sol P H f) (hd : ∀ i, H.testBit i = true → i < P_m P → dx P i < 4 ∧ dy P i < 4) (hv : ∀ x, x < 4 → f x ≤ v x) : ∀ k, k ≤ P_m P → ∀ x, x < 4 → f x ≤ rdv P H v k x
  | 0, _, x, hx => hv x hx
  | k + 1, hk, x, hx => by
    have ih := rdv_ge hf hd hv k (by omega)
    rw [rdv]
    split
    · next e =>
      have := hd k e (by omega)
      have a := ih x hx
      have b := ih (dy P k) this.2
      have c := hf.2 k (by omega) e
      unfold lw; split
      · next q => rw [q.1]; omega
      · exact a
    · exact ih x hx
theorem rdv_tight {P : PG} {H : Nat} {v f : Nat → Int} (hf : sol P H f) (hd : ∀ i, H.testBit i = true → i < P_m P → dx P i < 4 ∧ dy P i < 4) (hv : ∀ x, x < 4 → f x ≤ v x) {i : Nat} (hi : H.testBit i = true) (hm : i < P_m P) (hy : v (dy P i) = f (dy P i)) (ht : f (dx P i) = f (dy P i) + dz P i) : ∀ k, i < k → k ≤ P_m P → rdv P H v k (dx P i) = f (dx P i)
  | 0, h, _ => absurd h (by omega)
  | k + 1, h, hk => by
    have g := rdv_ge hf hd hv (k + 1) hk (dx P i) (hd i hi hm).1
    have u : rdv P H v (k + 1) (dx P i) ≤ f (dx P i) := by
      rw [rdv]
      by_cases q : i = k
      · subst q
        rw [if_pos hi]
        have a := rdv_le (P := P) (H := H) (v := v) i (dy P i)
        unfold lw; split
        · omega
        · next z =>
          have : ¬ rdv P H v i (dy P i) + dz P i < rdv P H v i (dx P i) := fun y => z ⟨rfl, y⟩
          omega
      · have ih := rdv_tight hf hd hv hi hm hy ht k (by omega) (by omega)
        split
        · exact Int.le_trans (lw_le _) (by omega)
        · omega
    omega
theorem up_dec {P : PG} {H : Nat} {v f : Nat → Int} (hf : sol P H f) (mx : ∀ g, sol P H g → s4 g ≤ s4 f) (hd : ∀ i, H.testBit i = true → i < P_m P → dx P i < 4 ∧ dy P i < 4) (hv : ∀ x, x < 4 → f x ≤ v x) (h0 : ∀ x, x < 4 → v x ≤ 0) (hu : ¬ ∀ x, x < 4 → v x = f x) : up4 f (rdv P H v (P_m P)) < up4 f v := by
  have key : ∃ i, i < P_m P ∧ H.testBit i = true ∧ v (dx P i) ≠ f (dx P i) ∧ v (dy P i) = f (dy P i) ∧ f (dx P i) = f (dy P i) + dz P i := by
    apply Classical.byContradiction
    intro no
    have := mx (fun x => if v x = f x then f x else f x + 1) ⟨fun x hx => by
      have a := hf.1 x hx
      have b := hv x hx
      have c := h0 x hx
      simp only
      split <;> omega, fun i hi hb => by
      have a := hf.2 i hi hb
      simp only
      by_cases q1 : v (dx P i) = f (dx P i)
      · rw [if_pos q1]; split <;> omega
      · rw [if_neg q1]
        by_cases q2 : v (dy P i) = f (dy P i)
        · rw [if_pos q2]
          have : f (dx P i) ≠ f (dy P i) + dz P i := fun z => no ⟨i, hi, hb, q1, q2, z⟩
          omega
        · rw [if_neg q2]; omega⟩
    apply hu
    intro x hx
    unfold s4 at this
    have q : x = 0 ∨ x = 1 ∨ x = 2 ∨ x = 3 := by omega
    apply Classical.byContradiction
    intro ne
    rcases q with rfl | rfl | rfl | rfl <;> simp only [ne, if_false] at this <;> (repeat' split at this) <;> omega
  obtain ⟨i, hi, hb, n1, e1, e2⟩ := key
  have t := rdv_tight hf hd hv hb hi e1 e2 (P_m P) hi (Nat.le_refl _)
  have hx := (hd i hb hi).1
  have st : ∀ x, x < 4 → v x = f x → rdv P H v (P_m P) x = f x := fun x hx e => by
    have a := rdv_le (P := P) (H := H) (v := v) (P_m P) x
    have b := rdv_ge hf hd hv (P_m P) (Nat.le_refl _) x hx
    omega
  have m : ∀ x, x < 4 → (if rdv P H v (P_m P) x = f x then 0 else 1) ≤ if v x = f x then 0 else 1 := fun x hx => by
    by_cases e : v x = f x
    · rw [if_pos e, if_pos (st x hx e)]; exact Nat.le_refl _
    · rw [if_neg e]; split <;> omega
  have m0 := m 0 (by omega)
  have m1 := m 1 (by omega)
  have m2 := m 2 (by omega)
  have m3 := m 3 (by omega)
  have s : (if rdv P H v (P_m P) (dx P i) = f (dx P i) then 0 else 1) < (if v (dx P i) = f (dx P i) then 0 else 1) := by rw [if_pos t, if_neg n1]; omega
  unfold up4
  have q : dx P i = 0 ∨ dx P i = 1 ∨ dx P i = 2 ∨ dx P i = 3 := by omega
  rcases q with q | q | q | q <;> rw [q] at s <;> omega
theorem rdb_sol {P : PG} {H : Nat} {v : Nat → Int} : ∀ {k : Nat}, (∀ i, i < k → H.testBit i = true → v (dx P i) ≤ v (dy P i) + dz P i) → rdb P H v k = false ∧ rdv P H v k = v
  | 0, _ => ⟨rfl, rfl⟩
  | k + 1, h => by
    obtain ⟨a, b⟩ := rdb_sol (k := k) fun i hi => h i (by omega)
    rw [rdb, rdv]
    split
    · next e =>
      have q := h k (by omega) e
      rw [a, b]
      refine ⟨?_, ?_⟩
      · have : ¬ v (dy P k) + dz P k < v (dx P k) := by omega
        simp [lwb, this]
      · funext j
        rw [lw, if_neg (fun z => by omega)]
    · exact ⟨a, b⟩
theorem chd_sol {P : PG} (o : P_ok P) {H : Nat} (hH : ∀ i, H.testBit i = true → i < P_m P → P_kd P i = 3) {f0 : Nat → Int} (hf0 : sol P H f0) : chd P H = true := by
  obtain ⟨f, hf, mx⟩ := sol_max _ f0 hf0 (Nat.le_refl _)
  have hd : ∀ i, H.testBit i = true → i < P_m P → dx P i < 4 ∧ dy P i < 4 := fun i h hi => by
    obtain ⟨a, b, c, h1, h2, -, -, -, -, e1, e2, -⟩ := dOK_of o hi (hH i h hi)
    omega
  apply Classical.byContradiction
  intro no
  have t5 : (rds P H 5).2 = true := by
    cases e : (rds P H 5).2
    · exact (no (by rw [chd, e]; rfl)).elim
    · rfl
  have tj : ∀ j, j ≤ 5 → (rds P H j).2 = true := fun j hj => by
    cases e : (rds P H j).2
    · rw [rds_st e j hj, e] at t5; cases t5
    · rfl
  have inv : ∀ j, j ≤ 5 → (∀ x, x < 4 → f x ≤ (rds P H j).1 x) ∧ up4 f (rds P H j).1 + j ≤ 4 := by
    intro j
    induction j with
    | zero => exact fun _ => ⟨fun x hx => hf.1 x hx, by unfold up4; (repeat' split) <;> omega⟩
    | succ j ih =>
      intro hj
      obtain ⟨a, b⟩ := ih (by omega)
      have e : (rds P H (j + 1)).1 = rdv P H (rds P H j).1 (P_m P) := by rw [rds, if_pos (tj j (by omega))]
      have e2 : (rds P H (j + 1)).2 = rdb P H (rds P H j).1 (P_m P) := by rw [rds, if_pos (tj j (by omega))]
      by_cases q : ∀ x, x < 4 → (rds P H j).1 x = f x
      · have z : rdb P H (rds P H j).1 (P_m P) = false := (rdb_sol fun i hi hb => by
          have := hd i hb hi
          rw [q _ this.1, q _ this.2]
          exact hf.2 i hi hb).1
        have := tj (j + 1) hj
        rw [e2, z] at this; cases this
      · rw [e]
        refine ⟨rdv_ge hf hd a _ (Nat.le_refl _), ?_⟩
        have := up_dec hf mx hd a (fun x hx => (rds_bnd o hH j x hx).2) q
        omega
  have := inv 5 (by omega)
  omega
theorem chd_mono {P : PG} (o : P_ok P) {H H' : Nat} (hH : ∀ i, H.testBit i = true → i < P_m P → P_kd P i = 3) (hs : ∀ i, H'.testBit i = true → H.testBit i = true) (h : chd P H = true) : chd P H' = true := by
  have h2 : (rds P H 5).2 = false := by
    rw [chd] at h
    simpa using h
  obtain ⟨f, f1, f2⟩ := sol_of o hH 5 h2
  exact chd_sol o (fun i hi hm => hH i (hs i hi) hm) ⟨f1, fun i hi hb => f2 i hi (hs i hb)⟩
