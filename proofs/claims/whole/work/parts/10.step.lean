/-! ONE INSTRUCTION: what the abstract machine does, the JVM does -/
section STEP
variable {p : Program} {l : Launch} {e : Env} {R : Room} {s : State} {m : MethodId} {args : Array Value} {below : List Frame} {meth : Method} {c : Code} {Q : State → Prop} {cc : ByteArray}
variable {D : va_G} {base b : Nat} {sc : (Nat → Int32) × Nat} {nL n0 u0 : Nat}
/-- from a place of the method's code on -/
def WA (p : Program) (l : Launch) (e : Env) (R : Room) (s : State) (m : MethodId) (args : Array Value) (below : List Frame) (meth : Method) (c : Code) (Q : State → Prop) (D : va_G) (base b : Nat) (sc : (Nat → Int32) × Nat) (nL n0 u0 : Nat) (pc : Nat) (ls st : List Value) (h : AH) : Prop :=
  ∀ (H : Heap) (locs : List Loc) (lsA : Array Slot), HV D base b sc s H h → va_S (fun q => base ≤ q) s.heap H locs → LR base b lsA nL ls → W p l e R s m args below meth c H locs (ah_n h - n0) (ah_u h - u0) Q (F0 m pc lsA (st.map (cvv base b)))
theorem getD_is {ls : List Value} {k : Nat} {v : Value} (h : ls.getD k unk = v) (hv : ¬ v = unk) : ls[k]? = some v := by
  rw [List.getD_eq_getElem?_getD] at h
  cases hk : ls[k]? with
  | none => rw [hk] at h; exact absurd h.symm hv
  | some w => rw [hk] at h; exact congrArg some h
theorem LR_st1 {lsA lsA' : Array Slot} {ls : List Value} {k : Nat} {v w : Value} (hl : LR base b lsA nL ls) (hw : w = cvv base b v) (h' : lv_has lsA' nL ((k, w) :: (lvl base b ls).filter (fun q => !(q.1 == k) && !(q.1 + 1 == k && q.2.category == 2)))) : LR base b lsA' nL (st1 ls k v) := ⟨lv_has_of h' (st1_sub w hw), by rw [st1_len]; exact hl.2⟩
theorem LR_st2 {lsA lsA' : Array Slot} {ls : List Value} {k : Nat} {v w : Value} (hl : LR base b lsA nL ls) (hw : w = cvv base b v) (h' : lv_has lsA' nL ((k, w) :: (lvl base b ls).filter (fun q => !(q.1 == k) && (!(q.1 == k + 1) && !(q.1 + 1 == k && q.2.category == 2))))) : LR base b lsA' nL (st2 ls k v) := ⟨lv_has_of h' (st2_sub w hw), by unfold st2; rw [List.length_set, st1_len]; exact hl.2⟩
theorem find_spec {α : Type} {l : List (Nat × Nat × α)} {o i : Nat} {q : Nat × Nat × α} (h : l.find? (fun e => e.1 == o && e.2.1 == i) = some q) : q ∈ l ∧ q.1 = o ∧ q.2.1 = i := by
  have h1 := List.find?_some h
  simp only [Bool.and_eq_true, beq_iff_eq] at h1
  exact ⟨List.mem_of_find?_eq_some h, h1⟩
theorem flk_at {o i : Nat} {q : Nat × Nat × Nat × Nat × Bool × Nat} (h : ffl o i = some q) : q.1 = o ∧ q.2.1 = i ∧ flW q ∈ lw_tbl ∧ kwB (flW q) = true ∧ q.2.2.1 < 13 ∧ q.2.2.2.1 < nfl q.2.2.1 ∧ q.2.2.2.1 < 100 := by
  obtain ⟨h1, h2, h3⟩ := find_spec h
  have h4 := List.all_eq_true.mp flk_ok q h1
  simp only [Bool.and_eq_true, decide_eq_true_eq] at h4
  obtain ⟨⟨⟨⟨⟨h5, h6⟩, h7⟩, h8⟩, -⟩, -⟩ := h4
  exact ⟨h2, h3, (inT_mem h5).1, (inT_mem h5).2, h6, h7, h8⟩
theorem nlk_at {o i : Nat} {q : Nat × Nat × Nat × Nat} (h : fnl o i = some q) : q.1 = o ∧ q.2.1 = i ∧ Jvm.Cond.classLink (cnm q.1) q.2.1 (cnm q.2.2.1) ∈ lw_tbl ∧ kwB (.classLink (cnm q.1) q.2.1 (cnm q.2.2.1)) = true ∧ q.2.2.1 < 13 := by
  obtain ⟨h1, h2, h3⟩ := find_spec h
  have h4 := List.all_eq_true.mp nlk_ok q h1
  simp only [Bool.and_eq_true, decide_eq_true_eq] at h4
  exact ⟨h2, h3, (inT_mem h4.1).1, (inT_mem h4.1).2, h4.2⟩
theorem cls_at {cl : Nat} (hc : cl < 13) : (∀ w ∈ u_ws (cnm cl) (cTb cl) (nfl cl), w ∈ lw_tbl ∧ kwB w = true) ∧ (Jvm.Cond.instantiable (cnm cl) (nfl cl) ∈ lw_tbl ∧ kwB (.instantiable (cnm cl) (nfl cl)) = true) ∧ Jvm.Cond.initialized (cnm cl) ∈ lw_tbl := by
  have h := cls_ok cl hc
  simp only [Bool.and_eq_true, decide_eq_true_eq] at h
  obtain ⟨⟨⟨h1, h2⟩, h3⟩, h4⟩ := h
  refine ⟨fun w hw => ?_, ⟨h2, h3⟩, h4⟩
  have h5 := List.all_eq_true.mp h1 w hw
  simp only [Bool.and_eq_true, decide_eq_true_eq] at h5
  exact ⟨h5.1.1, h5.1.2⟩
theorem lays_at (hT : TV s) {cl k : Nat} (hc : cl < 13) (hk : k < nfl cl) : (u_lay (cnm cl) (cTb cl) k).before args s = true := by
  have h := (cls_at hc).1 _ (u_in_lay hk)
  exact hT _ h.1 h.2 _
theorem ah_k_lt {h : AH} {a k : Nat} (e : ah_k h a = k) (hk : k ≠ 99) : a < ah_n h := by
  unfold ah_k at e
  split at e
  · assumption
  · exact absurd e.symm hk
theorem fits_c {cl k : Nat} (hc : cl < 13) (hk : k < nfl cl) (v : Value) (hv : match fty cl k with
    | 0 => ∃ x, v = .int x
    | 1 => ∃ x, v = .long x
    | 2 => ∃ o, v = va_rf o
    | _ => ∃ x, v = .int x ∧ (x = 0 ∨ x = 1)) : narrow (cTy cl k) v = v ∧ fits (cTy cl k) v = true := by
  obtain ⟨h1, h2⟩ := cls_fty cl hc k hk
  rw [h1] at hv
  rcases h2 with e | e | e | ⟨n, e⟩ | ⟨n, e⟩ <;> rw [e] at hv ⊢
  · obtain ⟨x, rfl⟩ := hv
    exact ⟨rfl, rfl⟩
  · obtain ⟨x, rfl, rfl | rfl⟩ := hv <;> exact ⟨rfl, rfl⟩
  · obtain ⟨x, rfl⟩ := hv
    exact ⟨rfl, rfl⟩
  · obtain ⟨o, rfl⟩ := hv
    cases o <;> exact ⟨rfl, rfl⟩
  · obtain ⟨o, rfl⟩ := hv
    cases o <;> exact ⟨rfl, rfl⟩
/-- a field read -/
theorem WA.getf (hx : p.tables.exec = Jvm.exec) (hb : c.code = cc) {o : Nat} (hown : s.vm.findClass (cnm o) = some m.cls) (hE : EV D s) {i : Nat} {q : Nat × Nat × Nat × Nat × Bool × Nat} (hq : ffl o i = some q) {pc : Nat} (hd : decode cc pc = .ok (.getfield i, 3)) {ls st : List Value} {h : AH} {a : Nat} (hk : ah_k h a = q.2.2.1)
    (kk : WA p l e R s m args below meth c Q D base b sc nL n0 u0 (pc + 3) ls (fvl (fty q.2.2.1 q.2.2.2.1) h a q.2.2.2.1 :: st) h) : WA p l e R s m args below meth c Q D base b sc nL n0 u0 pc ls (.ref a :: st) h := by
  intro H locs lsA hr hS hl
  obtain ⟨h1, h2, h3, h4, h5, h6, h7⟩ := flk_at hq
  obtain ⟨q1, q2, ci, k, nest, ps⟩ := q
  dsimp only at h1 h2 h5 h6 h7 hk kk
  subst h1; subst h2
  have hlt : a < ah_n h := ah_k_lt hk (by omega)
  obtain ⟨-, -, -, -, hob⟩ := hr.2.2.2.2.2 a hlt
  rw [hk] at hob
  obtain ⟨cell, g1, g2, g3, g4⟩ := hob h5
  obtain ⟨hSl, hfc, kC, hkC, hkind⟩ := hE.2.1.1 ci _ (vwCl_at ci h5)
  obtain ⟨cf, kf, fi, f, hi, hsl⟩ := hSl k h6
  have hlay : (Jvm.Cond.lays (cnm ci) (cTb ci k).1 (cTb ci k).2.1 (cTb ci k).2.2.1).before args s = true ∨ (Jvm.Cond.laysFinal (cnm ci) (cTb ci k).1 (cTb ci k).2.1 (cTb ci k).2.2.1).before args s = true := u_lays (ws := u_ws (cnm ci) (cTb ci) (nfl ci)) (fun w hw => hE.1 w ((cls_at h5).1 w hw).1 ((cls_at h5).1 w hw).2 _) (fun w hw => hw) h6
  have hf := u_facts hfc hkC hlay hi
  have hv : cell.slots[f.slot]? = some (cvv base b (fvl (fty ci k) h a k)) := by
    rw [hsl, g4 k h6]
    unfold fvl
    split <;> first | rfl | (rw [cvv_rf, cvv_rf])
  have hw := hE.1 _ h3 h4 args
  cases nest with
  | false => exact W.getf hx hb hown hw hi hf.1 g1 (by rw [g3]; exact fun h => by cases h) hv rfl rfl hd (kk H locs lsA hr hS hl)
  | true => exact va_Wgetf hx hb hown hw hi hf.1 g1 (by rw [g3]; exact fun h => by cases h) hv rfl rfl hd (kk H locs lsA hr hS hl)
theorem upd_slot {cl k : Nat} {cell : Cell} {iS : Nat → Nat} {V : Nat → Value} (g4 : ∀ j, j < nfl cl → cell.slots[iS j]? = some (V j)) (hap : ∀ x y, x < nfl cl → y < nfl cl → x ≠ y → iS x ≠ iS y) (hk : k < nfl cl) {v : Value} {V2 : Nat → Value} (h1 : V2 k = v) (h2 : ∀ j, j ≠ k → V2 j = V j) : ∀ j, j < nfl cl → (cell.setSlot (iS k) v).slots[iS j]? = some (V2 j) := by
  intro j hj
  rw [t_set g4 hap hk v j hj]
  unfold updV
  by_cases hjk : j = k
  · subst hjk; rw [if_pos rfl, h1]
  · rw [if_neg hjk, h2 j hjk]
end STEP
