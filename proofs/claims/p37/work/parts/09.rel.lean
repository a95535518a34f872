/-! WHAT THE ABSTRACT MACHINE'S STATE SAYS OF THE JVM'S -/
/-- an abstract value in the JVM's heap: addresses are counted from base on; the script lies at b -/
def cvv (base b : Nat) : Value → Value
  | .ref a => .ref (base + a)
  | .retAddr n => if n = 1 then .ref b else .retAddr n
  | v => v
theorem cvv_cat {base b : Nat} {v : Value} (hk : knw v = true) : (cvv base b v).category = if isLg v = true then 2 else 1 := by
  cases v with
  | double x => cases hk
  | retAddr n =>
    by_cases h : n = 1
    · subst h; rfl
    · simp [cvv, h, isLg, Value.category]
  | _ => rfl
theorem cvv_rf {base b : Nat} (o : Option Nat) : cvv base b (va_rf o) = va_rf (o.map (base + ·)) := by cases o <;> rfl
/-- what the locals hold -/
def lvl (base b : Nat) (ls : List Value) : List (Nat × Value) := ls.zipIdx.filterMap fun q => if knw q.1 = true then some (q.2, cvv base b q.1) else none
theorem lvl_mem {base b : Nat} {ls : List Value} {i : Nat} {w : Value} : (i, w) ∈ lvl base b ls ↔ ∃ v, ls[i]? = some v ∧ knw v = true ∧ w = cvv base b v := by
  unfold lvl
  rw [List.mem_filterMap]
  constructor
  · rintro ⟨⟨v, j⟩, h1, h2⟩
    rw [List.mem_zipIdx_iff_getElem?] at h1
    dsimp only at h1 h2
    split at h2
    · next hk =>
      cases h2
      exact ⟨v, h1, hk, rfl⟩
    · cases h2
  · rintro ⟨v, h1, h2, rfl⟩
    refine ⟨(v, i), List.mem_zipIdx_iff_getElem?.mpr h1, ?_⟩
    simp [h2]
def LR (base b : Nat) (lsA : Array Slot) (nL : Nat) (ls : List Value) : Prop := lv_has lsA nL (lvl base b ls) ∧ ls.length = nL
theorem lv_has_of {ls : Array Slot} {nL : Nat} {l l' : List (Nat × Value)} (h : lv_has ls nL l) (hs : ∀ q ∈ l', q ∈ l) : lv_has ls nL l' := ⟨h.1, h.2.1, fun q hq => h.2.2 q (hs q hq)⟩
theorem LR.get {base b nL : Nat} {lsA : Array Slot} {ls : List Value} (h : LR base b lsA nL ls) {k : Nat} {v : Value} (hv : ls[k]? = some v) (hk : knw v = true) : lsA[k]? = some (.val (cvv base b v)) := h.1.2.2 (k, cvv base b v) (lvl_mem.mpr ⟨v, hv, hk, rfl⟩)
theorem getD_known {ls : List Value} {k : Nat} (h : knw (ls.getD k unk) = true) : ls[k]? = some (ls.getD k unk) := by
  rw [List.getD_eq_getElem?_getD] at *
  cases hk : ls[k]? with
  | none => rw [hk] at h; cases h
  | some v => rfl
theorem st1_len {ls : List Value} {k : Nat} {v : Value} : (st1 ls k v).length = ls.length := by
  unfold st1
  split
  · simp
  · split <;> simp
theorem unk_not : knw unk = false := rfl
/-- what st1 holds, and what the JVM holds behind such a store -/
theorem st1_sub {base b : Nat} {ls : List Value} {k : Nat} {v : Value} (w : Value) (hw : w = cvv base b v) : ∀ q ∈ lvl base b (st1 ls k v), q ∈ (k, w) :: (lvl base b ls).filter (fun q => !(q.1 == k) && !(q.1 + 1 == k && q.2.category == 2)) := by
  rintro ⟨i, u⟩ hq
  obtain ⟨z, hz, hkz, rfl⟩ := lvl_mem.mp hq
  by_cases hik : i = k
  · subst hik
    have hz2 : z = v := by
      unfold st1 at hz
      split at hz
      · rw [List.getElem?_set] at hz
        simp at hz
        exact hz.2.symm
      · split at hz
        · rw [List.getElem?_set] at hz
          simp at hz
          exact hz.2.symm
        · rw [List.getElem?_set] at hz
          simp at hz
          exact hz.2.symm
    subst hz2
    rw [← hw]
    exact List.mem_cons_self
  · refine List.mem_cons_of_mem _ (List.mem_filter.mpr ?_)
    have hz2 : ls[i]? = some z ∧ ¬ (i + 1 = k ∧ isLg z = true) := by
      unfold st1 at hz
      split at hz
      · rw [List.getElem?_set_ne (by omega)] at hz
        exact ⟨hz, by omega⟩
      · next j =>
        split at hz
        · next hj =>
          rw [List.getElem?_set_ne (by omega)] at hz
          by_cases hij : j = i
          · subst hij
            rw [List.getElem?_set] at hz
            simp at hz
            rw [← hz.2] at hkz
            cases hkz
          · rw [List.getElem?_set_ne hij] at hz
            exact ⟨hz, by omega⟩
        · next hj =>
          rw [List.getElem?_set_ne (by omega)] at hz
          refine ⟨hz, fun q => hj ?_⟩
          have : i = j := by omega
          subst this
          rw [List.getD_eq_getElem?_getD, hz]
          exact q.2
    refine ⟨lvl_mem.mpr ⟨z, hz2.1, hkz, rfl⟩, ?_⟩
    have hc := cvv_cat (base := base) (b := b) hkz
    simp only [Bool.and_eq_true, Bool.not_eq_true', beq_eq_false_iff_ne, ne_eq, Bool.and_eq_false_iff]
    refine ⟨hik, ?_⟩
    by_cases h1 : i + 1 = k
    · right
      rw [hc, if_neg (fun q => hz2.2 ⟨h1, q⟩)]
      decide
    · exact Or.inl h1
theorem st2_sub {base b : Nat} {ls : List Value} {k : Nat} {v : Value} (w : Value) (hw : w = cvv base b v) : ∀ q ∈ lvl base b (st2 ls k v), q ∈ (k, w) :: (lvl base b ls).filter (fun q => !(q.1 == k) && (!(q.1 == k + 1) && !(q.1 + 1 == k && q.2.category == 2))) := by
  rintro ⟨i, u⟩ hq
  obtain ⟨z, hz, hkz, rfl⟩ := lvl_mem.mp hq
  unfold st2 at hz
  have hne : i ≠ k + 1 := by
    intro q
    subst q
    rw [List.getElem?_set] at hz
    simp at hz
    rw [← hz.2] at hkz
    cases hkz
  rw [List.getElem?_set_ne (Ne.symm hne)] at hz
  have h1 := st1_sub w hw (i, cvv base b z) (lvl_mem.mpr ⟨z, hz, hkz, rfl⟩)
  rcases List.mem_cons.mp h1 with h1 | h1
  · rw [h1]; exact List.mem_cons_self
  · obtain ⟨h2, h3⟩ := List.mem_filter.mp h1
    refine List.mem_cons_of_mem _ (List.mem_filter.mpr ⟨h2, ?_⟩)
    simp only [Bool.and_eq_true, Bool.not_eq_true', beq_eq_false_iff_ne, ne_eq] at h3 ⊢
    exact ⟨h3.1, hne, h3.2⟩
/-- a cell -/
def kOK (D : va_G) (base : Nat) (s : State) (H : Heap) (h : AH) (a : Nat) : Prop :=
  (ah_k h a = 20 → ∃ cA, H[base + a]? = some (arrV cA (ah_z h a) fun j => .int (ah_i h a j)) ∧ ArrOfT s cA .int) ∧
  (ah_k h a = 21 → ∃ cA, H[base + a]? = some (arrV cA (ah_z h a) fun j => .long (ah_l h a j)) ∧ ArrOfT s cA .long) ∧
  (ah_k h a = 22 → ∃ cA, H[base + a]? = some (arrV cA (ah_z h a) fun j => .int (ah_i h a j)) ∧ ArrOfT s cA .boolean) ∧
  (ah_k h a = 23 → ∃ cA, H[base + a]? = some (arrV cA (ah_z h a) fun j => va_rf ((ah_r h a j).map (base + ·))) ∧ ArrOfT s cA (.object RX8) ∧ va_RA s cA (.object RX8)) ∧
  (ah_k h a < 12 → t_OB (base + a) (D.1 (ah_k h a)) (nfl (ah_k h a)) (D.2 (ah_k h a)) H (fun j => cvv base 0 (fvl (fty (ah_k h a) j) h a j)))
theorem kOK.of {D : va_G} {base : Nat} {s s2 : State} {H H2 : Heap} {h h2 : AH} {a : Nat} (hk : kOK D base s H h a) (hvm : s.vm.Alike s2.vm) (hH : H2[base + a]? = H[base + a]?) (e1 : ah_k h2 a = ah_k h a) (e2 : ah_z h2 a = ah_z h a) (e3 : ah_i h2 a = ah_i h a) (e4 : ah_l h2 a = ah_l h a) (e5 : ah_r h2 a = ah_r h a) : kOK D base s2 H2 h2 a := by
  obtain ⟨k0, k1, k2, k3, k4⟩ := hk
  unfold kOK
  rw [e1, e2, e3, e4, e5, hH]
  refine ⟨fun q => ?_, fun q => ?_, fun q => ?_, fun q => ?_, fun q => ?_⟩
  · obtain ⟨cA, x, y⟩ := k0 q
    exact ⟨cA, x, arrOfT_moved hvm y⟩
  · obtain ⟨cA, x, y⟩ := k1 q
    exact ⟨cA, x, arrOfT_moved hvm y⟩
  · obtain ⟨cA, x, y⟩ := k2 q
    exact ⟨cA, x, arrOfT_moved hvm y⟩
  · obtain ⟨cA, x, y, z⟩ := k3 q
    exact ⟨cA, x, arrOfT_moved hvm y, z.moved hvm⟩
  · have h5 : (fun j => cvv base 0 (fvl (fty (ah_k h a) j) h2 a j)) = (fun j => cvv base 0 (fvl (fty (ah_k h a) j) h a j)) := by
      funext j
      unfold fvl
      rw [e3, e4, e5]
    rw [h5]
    exact (k4 q).kept hH
def RP (D : va_G) (base : Nat) (s : State) (H : Heap) (h : AH) : Prop := H.size = base + ah_n h ∧ ∀ a, a < ah_n h → kOK D base s H h a
/-- of the tables -/
def TV (s : State) : Prop := ∀ w ∈ lw_tbl, kwB w = true → ∀ A : Array Value, w.before A s = true
def EV (D : va_G) (s : State) : Prop := TV s ∧ va_K D vwCl [] s ∧ (∀ e ∈ STK, ∃ sa, vk_R RX11 e.1 e.2 sa s) ∧ va_AO RX8 s ∧ ∀ E F, E < 3 → F < 3 → E ≠ F → va_Nc (xnm E) (xnm F) s
theorem kwB_warm {s U : State} {w : Jvm.Cond} (hk : kwB w = true) (hW : s.WarmedH U.vm) (A : Array Value) (h : ∀ A : Array Value, w.before A s = true) : w.before A U = true := by
  unfold kwB at hk
  rw [Bool.or_eq_true] at hk
  rcases hk with hk | hk
  · exact word_at hW (good_of_word hk) (h A)
  · rw [Bool.and_eq_true] at hk
    obtain ⟨hon, hk⟩ := hk
    rw [Bool.or_eq_true] at hk
    rcases hk with hk | hk
    · have h1 : w.before A (s.setVm U.vm) = true := Cond.before_shiftedFace (State.Shifted.of_warmed hW) _ hk (h A)
      exact va_tabs hon (rfl : (s.setVm U.vm).vm = U.vm) h1
    · split at hk
      · exact va_Nw.use hon (va_Nw.warmF hW (va_Nw.of hon (h #[])))
      · exact va_Nw.use hon (va_Nw.warmM hW (va_Nw.of hon (h #[])))
      · cases hk
theorem TV.warm {s U : State} (hW : s.WarmedH U.vm) (h : TV s) : TV U := fun w hw hk A => kwB_warm hk hW A (h w hw hk)
theorem EV.warm {D : va_G} {s U : State} (hW : s.WarmedH U.vm) (h : EV D s) : EV D U := by
  obtain ⟨h1, h2, h3, h3a, h4⟩ := h
  refine ⟨h1.warm hW, va_K.moved hW.alike h2, fun e he => ?_, h3a.moved hW.alike, fun E F a b c => (h4 E F a b c).moved hW.alike⟩
  obtain ⟨sa, q⟩ := h3 e he
  exact ⟨sa, q.warm hW⟩
/-- of the heap -/
def HV (D : va_G) (base b : Nat) (sc : (Nat → Int32) × Nat) (s : State) (H : Heap) (h : AH) : Prop :=
  b < base ∧ va_X b sc.2 sc.1 s H ∧ vx_Zq Bundle.tN "UNASSIGNED_STACK" Bundle.steD (fun q => base ≤ q) s H ∧ vx_Zq Bundle.tN "SUPPRESSED_SENTINEL" Bundle.listD (fun q => base ≤ q) s H ∧ RP D base s H h
theorem HV.moved {D : va_G} {base b : Nat} {sc : (Nat → Int32) × Nat} {s s2 : State} {H : Heap} {h : AH} (hvm : s.vm.Alike s2.vm) (hv : HV D base b sc s H h) : HV D base b sc s2 H h := by
  obtain ⟨h1, h2, h3, h4, h5, h6⟩ := hv
  exact ⟨h1, h2.moved hvm, h3.moved hvm, h4.moved hvm, h5, fun a ha => (h6 a ha).of hvm rfl rfl rfl rfl rfl rfl⟩
/-- the heap written above base -/
theorem HV.to {D : va_G} {base b : Nat} {sc : (Nat → Int32) × Nat} {s : State} {H H2 : Heap} {h h2 : AH} (hv : HV D base b sc s H h) (hq : ∀ q, q < base → H2[q]? = H[q]?) (hz : base ≤ H2.size) (hr : RP D base s H2 h2) : HV D base b sc s H2 h2 := by
  obtain ⟨h1, h2, h3, h4, h5⟩ := hv
  exact ⟨h1, h2.kept (hq b h1), h3.kept (fun a _ hn => hq a (Nat.lt_of_not_le hn)), h4.kept (fun a _ hn => hq a (Nat.lt_of_not_le hn)), hr⟩
theorem HV.size {D : va_G} {base b : Nat} {sc : (Nat → Int32) × Nat} {s : State} {H : Heap} {h : AH} (hv : HV D base b sc s H h) : H.size = base + ah_n h := hv.2.2.2.2.1
/-- one cell written -/
theorem RP.set {D : va_G} {base : Nat} {s : State} {H H2 : Heap} {h h2 : AH} {a : Nat} (hr : RP D base s H h) (hz : H2.size = H.size) (oq : ∀ q, q ≠ base + a → H2[q]? = H[q]?) (en : ah_n h2 = ah_n h)
    (e : ∀ c, c ≠ a → ah_k h2 c = ah_k h c ∧ ah_z h2 c = ah_z h c ∧ ah_i h2 c = ah_i h c ∧ ah_l h2 c = ah_l h c ∧ ah_r h2 c = ah_r h c) (hk : kOK D base s H2 h2 a) : RP D base s H2 h2 := by
  refine ⟨by rw [hz, en]; exact hr.1, fun c hc => ?_⟩
  by_cases hca : c = a
  · subst hca; exact hk
  · obtain ⟨e1, e2, e3, e4, e5⟩ := e c hca
    exact (hr.2 c (by rw [← en]; exact hc)).of (Vm.Alike.refl _) (oq _ (by omega)) e1 e2 e3 e4 e5
/-- one cell made -/
theorem RP.push {D : va_G} {base : Nat} {s : State} {H H2 : Heap} {h : AH} {kd len us : Nat} (hr : RP D base s H h) (hz : H2.size = H.size + 1) (oq : ∀ q, q < H.size → H2[q]? = H[q]?) (hk : kOK D base s H2 (ap_n h kd len us) (ah_n h)) : RP D base s H2 (ap_n h kd len us) := by
  refine ⟨by rw [hz, hr.1]; rfl, fun c hc => ?_⟩
  by_cases hca : c = ah_n h
  · subst hca; exact hk
  · have hlt : c < ah_n h := by
      have : c < ah_n h + 1 := hc
      omega
    have hne : ¬ c = h.1 := hca
    refine (hr.2 c hlt).of (Vm.Alike.refl _) (oq _ (by rw [hr.1]; omega)) ?_ ?_ ?_ ?_ ?_
    · have h1 : c < h.1 := hlt
      have h2 : c < h.1 + 1 := by omega
      simp [ah_k, ap_n, hne, h1, h2]
    · simp [ah_z, ap_n, hne]
    · funext j; simp [ah_i, ap_n, hne]
    · funext j; simp [ah_l, ap_n, hne]
    · funext j; simp [ah_r, ap_n, hne]
