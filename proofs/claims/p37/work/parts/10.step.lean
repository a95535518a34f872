/-! ONE INSTRUCTION: what the abstract machine does, the JVM does -/
section STEP
variable {p : Program} {l : Launch} {e : Env} {R : Room} {s : State} {m : MethodId} {args : Array Value} {below : List Frame} {meth : Method} {c : Code} {Q : State → Prop} {cc : ByteArray}
variable {D : va_G} {base b : Nat} {sc : (Nat → Int32) × Nat} {nL n0 u0 : Nat}
/-- from a place of the method's code on -/
def WA (p : Program) (l : Launch) (e : Env) (R : Room) (s : State) (m : MethodId) (args : Array Value) (below : List Frame) (meth : Method) (c : Code) (Q : State → Prop) (D : va_G) (base b : Nat) (sc : (Nat → Int32) × Nat) (nL n0 u0 : Nat) (pc : Nat) (ls st : List Value) (h : AH) : Prop :=
  ∀ (H : Heap) (locs : List Loc) (lsA : Array Slot), HV D base b sc s H h → va_S (fun q => base ≤ q) s.heap H locs → LR base b lsA nL ls → W p l e R s m args below meth c H locs (ah_n h - n0) (ah_u h - u0) Q (F0 m pc lsA (st.map (cvv base b)))
theorem getD_is {ls : List Value} {k : Nat} {v : Value} (h : ls.getD k unk = v) (hv : ¬ v = unk) : ls[k]? = some v := by
  rw [List.getD_eq_getElem?_getD] at h
  cases hk : ls[k]? with
  | none => rw [hk] at h; exact absurd h.symm hv
  | some w => rw [hk] at h; exact congrArg some h
theorem LR_st1 {lsA lsA' : Array Slot} {ls : List Value} {k : Nat} {v w : Value} (hl : LR base b lsA nL ls) (hw : w = cvv base b v) (h' : lv_has lsA' nL ((k, w) :: (lvl base b ls).filter (fun q => !(q.1 == k) && !(q.1 + 1 == k && q.2.category == 2)))) : LR base b lsA' nL (st1 ls k v) := ⟨lv_has_of h' (st1_sub w hw), by rw [st1_len]; exact hl.2⟩
theorem LR_st2 {lsA lsA' : Array Slot} {ls : List Value} {k : Nat} {v w : Value} (hl : LR base b lsA nL ls) (hw : w = cvv base b v) (h' : lv_has lsA' nL ((k, w) :: (lvl base b ls).filter (fun q => !(q.1 == k) && (!(q.1 == k + 1) && !(q.1 + 1 == k && q.2.category == 2))))) : LR base b lsA' nL (st2 ls k v) := ⟨lv_has_of h' (st2_sub w hw), by unfold st2; rw [List.length_set, st1_len]; exact hl.2⟩
theorem find_spec {α : Type} {l : List (Nat × Nat × α)} {o i : Nat} {q : Nat × Nat × α} (h : l.find? (fun e => e.1 == o && e.2.1 == i) = some q) : q ∈ l ∧ q.1 = o ∧ q.2.1 = i := by
  have h1 := List.find?_some h
  simp only [Bool.and_eq_true, beq_iff_eq] at h1
  exact ⟨List.mem_of_find?_eq_some h, h1⟩
theorem flk_at {o i : Nat} {q : Nat × Nat × Nat × Nat × Bool × Nat} (h : ffl o i = some q) : q.1 = o ∧ q.2.1 = i ∧ flW q ∈ lw_tbl ∧ kwB (flW q) = true ∧ q.2.2.1 < 12 ∧ q.2.2.2.1 < nfl q.2.2.1 ∧ q.2.2.2.1 < 100 := by
  obtain ⟨h1, h2, h3⟩ := find_spec h
  have h4 := List.all_eq_true.mp flk_ok q h1
  simp only [Bool.and_eq_true, decide_eq_true_eq] at h4
  obtain ⟨⟨⟨⟨⟨h5, h6⟩, h7⟩, h8⟩, -⟩, -⟩ := h4
  exact ⟨h2, h3, (inT_mem h5).1, (inT_mem h5).2, h6, h7, h8⟩
theorem nlk_at {o i : Nat} {q : Nat × Nat × Nat × Nat} (h : fnl o i = some q) : q.1 = o ∧ q.2.1 = i ∧ Jvm.Cond.classLink (cnm q.1) q.2.1 (cnm q.2.2.1) ∈ lw_tbl ∧ kwB (.classLink (cnm q.1) q.2.1 (cnm q.2.2.1)) = true ∧ q.2.2.1 < 12 := by
  obtain ⟨h1, h2, h3⟩ := find_spec h
  have h4 := List.all_eq_true.mp nlk_ok q h1
  simp only [Bool.and_eq_true, decide_eq_true_eq] at h4
  exact ⟨h2, h3, (inT_mem h4.1).1, (inT_mem h4.1).2, h4.2⟩
theorem cls_at {cl : Nat} (hc : cl < 12) : (∀ w ∈ u_ws (cnm cl) (cTb cl) (nfl cl), w ∈ lw_tbl ∧ kwB w = true) ∧ (Jvm.Cond.instantiable (cnm cl) (nfl cl) ∈ lw_tbl ∧ kwB (.instantiable (cnm cl) (nfl cl)) = true) ∧ Jvm.Cond.initialized (cnm cl) ∈ lw_tbl := by
  have h := cls_ok cl hc
  simp only [Bool.and_eq_true, decide_eq_true_eq] at h
  obtain ⟨⟨⟨h1, h2⟩, h3⟩, h4⟩ := h
  refine ⟨fun w hw => ?_, ⟨h2, h3⟩, h4⟩
  have h5 := List.all_eq_true.mp h1 w hw
  simp only [Bool.and_eq_true, decide_eq_true_eq] at h5
  exact ⟨h5.1.1, h5.1.2⟩
theorem lays_at (hT : TV s) {cl k : Nat} (hc : cl < 12) (hk : k < nfl cl) : (u_lay (cnm cl) (cTb cl) k).before args s = true := by
  have h := (cls_at hc).1 _ (u_in_lay hk)
  exact hT _ h.1 h.2 _
theorem ah_k_lt {h : AH} {a k : Nat} (e : ah_k h a = k) (hk : k ≠ 99) : a < ah_n h := by
  unfold ah_k at e
  split at e
  · assumption
  · exact absurd e.symm hk
theorem fits_c {cl k : Nat} (hc : cl < 12) (hk : k < nfl cl) (v : Value) (hv : match fty cl k with
    | 0 => ∃ x, v = .int x
    | 1 => ∃ x, v = .long x
    | 2 => ∃ o, v = va_rf o
    | _ => ∃ x, v = .int x ∧ (x = 0 ∨ x = 1)) : narrow (cTy cl k) v = v ∧ fits (cTy cl k) v = true := by
  obtain ⟨h1, h2⟩ := cls_fty cl hc k hk
  rw [h1] at hv
  rcases h2 with e | e | e | ⟨n, e⟩ | ⟨n, e⟩ <;> rw [e] at hv ⊢
  · obtain ⟨x, rfl⟩ := hv
    exact ⟨rfl, rfl⟩
  · obtain ⟨x, rfl, rfl | rfl⟩ := hv <;> exact ⟨rfl, rfl⟩
  · obtain ⟨x, rfl⟩ := hv
    exact ⟨rfl, rfl⟩
  · obtain ⟨o, rfl⟩ := hv
    cases o <;> exact ⟨rfl, rfl⟩
  · obtain ⟨o, rfl⟩ := hv
    cases o <;> exact ⟨rfl, rfl⟩
theorem fvl_cvv {b2 t : Nat} {h : AH} {a k : Nat} : cvv base b (fvl t h a k) = cvv base b2 (fvl t h a k) := by
  unfold fvl
  split <;> first | rfl | (rw [cvv_rf, cvv_rf])
/-- a field read -/
theorem WA.getf (hx : p.tables.exec = Jvm.exec) (hb : c.code = cc) {o : Nat} (hown : s.vm.findClass (cnm o) = some m.cls) (hE : EV D s) {i : Nat} {q : Nat × Nat × Nat × Nat × Bool × Nat} (hq : ffl o i = some q) {pc : Nat} (hd : decode cc pc = .ok (.getfield i, 3)) {ls st : List Value} {h : AH} {a : Nat} (hk : ah_k h a = q.2.2.1)
    (kk : WA p l e R s m args below meth c Q D base b sc nL n0 u0 (pc + 3) ls (fvl (fty q.2.2.1 q.2.2.2.1) h a q.2.2.2.1 :: st) h) : WA p l e R s m args below meth c Q D base b sc nL n0 u0 pc ls (.ref a :: st) h := by
  intro H locs lsA hr hS hl
  obtain ⟨h1, h2, h3, h4, h5, h6, h7⟩ := flk_at hq
  obtain ⟨q1, q2, ci, k, nest, ps⟩ := q
  dsimp only at h1 h2 h5 h6 h7 hk kk
  subst h1; subst h2
  have hlt : a < ah_n h := ah_k_lt hk (by omega)
  obtain ⟨-, -, -, -, hob⟩ := hr.2.2.2.2.2 a hlt
  rw [hk] at hob
  obtain ⟨cell, g1, g2, g3, g4⟩ := hob h5
  obtain ⟨hSl, hfc, kC, hkC, hkind⟩ := hE.2.1.1 ci _ (vwCl_at ci h5)
  obtain ⟨cf, kf, fi, f, hi, hsl⟩ := hSl k h6
  have hlay : (Jvm.Cond.lays (cnm ci) (cTb ci k).1 (cTb ci k).2.1 (cTb ci k).2.2.1).before args s = true ∨ (Jvm.Cond.laysFinal (cnm ci) (cTb ci k).1 (cTb ci k).2.1 (cTb ci k).2.2.1).before args s = true := u_lays (ws := u_ws (cnm ci) (cTb ci) (nfl ci)) (fun w hw => hE.1 w ((cls_at h5).1 w hw).1 ((cls_at h5).1 w hw).2 _) (fun w hw => hw) h6
  have hf := u_facts hfc hkC hlay hi
  have hv : cell.slots[f.slot]? = some (cvv base b (fvl (fty ci k) h a k)) := by
    rw [hsl, g4 k h6]
    exact congrArg some fvl_cvv
  have hw := hE.1 _ h3 h4 args
  cases nest with
  | false => exact W.getf hx hb hown hw hi hf.1 g1 (by rw [g3]; exact fun h => by cases h) hv rfl rfl hd (kk H locs lsA hr hS hl)
  | true => exact va_Wgetf hx hb hown hw hi hf.1 g1 (by rw [g3]; exact fun h => by cases h) hv rfl rfl hd (kk H locs lsA hr hS hl)
theorem upd_slot {cl k : Nat} {cell : Cell} {iS : Nat → Nat} {V : Nat → Value} (g4 : ∀ j, j < nfl cl → cell.slots[iS j]? = some (V j)) (hap : ∀ x y, x < nfl cl → y < nfl cl → x ≠ y → iS x ≠ iS y) (hk : k < nfl cl) {v : Value} {V2 : Nat → Value} (h1 : V2 k = v) (h2 : ∀ j, j ≠ k → V2 j = V j) : ∀ j, j < nfl cl → (cell.setSlot (iS k) v).slots[iS j]? = some (V2 j) := by
  intro j hj
  rw [t_set g4 hap hk v j hj]
  unfold updV
  by_cases hjk : j = k
  · subst hjk; rw [if_pos rfl, h1]
  · rw [if_neg hjk, h2 j hjk]
/-- a cell written: the heap behind -/
theorem HV.put {H H1 : Heap} {h h2 : AH} {a : Nat} (hv : HV D base b sc s H h) (e2 : H1.size = H.size) (e3 : ∀ q, q ≠ base + a → H1[q]? = H[q]?) (en : ah_n h2 = ah_n h)
    (e : ∀ c, c ≠ a → ah_k h2 c = ah_k h c ∧ ah_z h2 c = ah_z h c ∧ ah_i h2 c = ah_i h c ∧ ah_l h2 c = ah_l h c ∧ ah_r h2 c = ah_r h c) (hk : kOK D base s H1 h2 a) : HV D base b sc s H1 h2 :=
  hv.to (fun q hq => e3 q (by omega)) (by rw [e2, hv.size]; omega) (hv.2.2.2.2.set e2 e3 en e hk)
theorem put_other {h : AH} {a k : Nat} {x : Int32} : ∀ c, c ≠ a → ah_k (ap_i h a k x) c = ah_k h c ∧ ah_z (ap_i h a k x) c = ah_z h c ∧ ah_i (ap_i h a k x) c = ah_i h c ∧ ah_l (ap_i h a k x) c = ah_l h c ∧ ah_r (ap_i h a k x) c = ah_r h c := fun c hc => ⟨rfl, rfl, by funext j; simp [ah_i, ap_i, hc], rfl, rfl⟩
theorem put_otherL {h : AH} {a k : Nat} {x : Int64} : ∀ c, c ≠ a → ah_k (ap_l h a k x) c = ah_k h c ∧ ah_z (ap_l h a k x) c = ah_z h c ∧ ah_i (ap_l h a k x) c = ah_i h c ∧ ah_l (ap_l h a k x) c = ah_l h c ∧ ah_r (ap_l h a k x) c = ah_r h c := fun c hc => ⟨rfl, rfl, rfl, by funext j; simp [ah_l, ap_l, hc], rfl⟩
theorem put_otherR {h : AH} {a k : Nat} {x : Option Nat} : ∀ c, c ≠ a → ah_k (ap_r h a k x) c = ah_k h c ∧ ah_z (ap_r h a k x) c = ah_z h c ∧ ah_i (ap_r h a k x) c = ah_i h c ∧ ah_l (ap_r h a k x) c = ah_l h c ∧ ah_r (ap_r h a k x) c = ah_r h c := fun c hc => ⟨rfl, rfl, rfl, rfl, by funext j; simp [ah_r, ap_r, hc]⟩
/-- an object's cell alone -/
theorem kOK.obj {H : Heap} {h : AH} {a cl : Nat} (hk : ah_k h a = cl) (hc : cl < 12) (ho : t_OB (base + a) (D.1 cl) (nfl cl) (D.2 cl) H (fun j => cvv base 0 (fvl (fty cl j) h a j))) : kOK D base s H h a := by
  unfold kOK
  rw [hk]
  exact ⟨fun q => absurd q (by omega), fun q => absurd q (by omega), fun q => absurd q (by omega), fun q => absurd q (by omega), fun _ => ho⟩
theorem kOK.ari {H : Heap} {h : AH} {a : Nat} (hk : ah_k h a = 20) {cA : ClassId} (h1 : H[base + a]? = some (arrV cA (ah_z h a) fun j => .int (ah_i h a j))) (h2 : ArrOfT s cA .int) : kOK D base s H h a := by
  unfold kOK
  rw [hk]
  exact ⟨fun _ => ⟨cA, h1, h2⟩, fun q => absurd q (by omega), fun q => absurd q (by omega), fun q => absurd q (by omega), fun q => absurd q (by omega)⟩
theorem kOK.arl {H : Heap} {h : AH} {a : Nat} (hk : ah_k h a = 21) {cA : ClassId} (h1 : H[base + a]? = some (arrV cA (ah_z h a) fun j => .long (ah_l h a j))) (h2 : ArrOfT s cA .long) : kOK D base s H h a := by
  unfold kOK
  rw [hk]
  exact ⟨fun q => absurd q (by omega), fun _ => ⟨cA, h1, h2⟩, fun q => absurd q (by omega), fun q => absurd q (by omega), fun q => absurd q (by omega)⟩
theorem kOK.arz {H : Heap} {h : AH} {a : Nat} (hk : ah_k h a = 22) {cA : ClassId} (h1 : H[base + a]? = some (arrV cA (ah_z h a) fun j => .int (ah_i h a j))) (h2 : ArrOfT s cA .boolean) : kOK D base s H h a := by
  unfold kOK
  rw [hk]
  exact ⟨fun q => absurd q (by omega), fun q => absurd q (by omega), fun _ => ⟨cA, h1, h2⟩, fun q => absurd q (by omega), fun q => absurd q (by omega)⟩
theorem kOK.arr {H : Heap} {h : AH} {a : Nat} (hk : ah_k h a = 23) {cA : ClassId} (h1 : H[base + a]? = some (arrV cA (ah_z h a) fun j => va_rf ((ah_r h a j).map (base + ·)))) (h2 : ArrOfT s cA (.object RX8)) (h3 : va_RA s cA (.object RX8)) : kOK D base s H h a := by
  unfold kOK
  rw [hk]
  exact ⟨fun q => absurd q (by omega), fun q => absurd q (by omega), fun q => absurd q (by omega), fun _ => ⟨cA, h1, h2, h3⟩, fun q => absurd q (by omega)⟩
/-- a field written: whatever its type -/
theorem WA.putf (hx : p.tables.exec = Jvm.exec) (hb : c.code = cc) {o : Nat} (hown : s.vm.findClass (cnm o) = some m.cls) (hE : EV D s) {i : Nat} {q : Nat × Nat × Nat × Nat × Bool × Nat} (hq : ffl o i = some q) {pc : Nat} (hd : decode cc pc = .ok (.putfield i, 3)) {ls st : List Value} {h h2 : AH} {a : Nat} {v : Value} (hk : ah_k h a = q.2.2.1)
    (hfin : (cTb q.2.2.1 q.2.2.2.1).2.2.2 = true → meth.name = "<init>" ∧ q.2.2.1 = o ∧ q.2.2.2.2.1 = false)
    (hv : narrow (cTy q.2.2.1 q.2.2.2.1) (cvv base b v) = cvv base b v ∧ fits (cTy q.2.2.1 q.2.2.2.1) (cvv base b v) = true)
    (en : ah_n h2 = ah_n h) (eu : ah_u h2 = ah_u h) (ek : ah_k h2 a = ah_k h a)
    (eo : ∀ c, c ≠ a → ah_k h2 c = ah_k h c ∧ ah_z h2 c = ah_z h c ∧ ah_i h2 c = ah_i h c ∧ ah_l h2 c = ah_l h c ∧ ah_r h2 c = ah_r h c)
    (ev : fvl (fty q.2.2.1 q.2.2.2.1) h2 a q.2.2.2.1 = v) (ej : ∀ j, j ≠ q.2.2.2.1 → fvl (fty q.2.2.1 j) h2 a j = fvl (fty q.2.2.1 j) h a j)
    (kk : WA p l e R s m args below meth c Q D base b sc nL n0 u0 (pc + 3) ls st h2) : WA p l e R s m args below meth c Q D base b sc nL n0 u0 pc ls (v :: .ref a :: st) h := by
  intro H locs lsA hr hS hl
  obtain ⟨h1, h2', h3, h4, h5, h6, h7⟩ := flk_at hq
  obtain ⟨q1, q2, ci, k, nest, ps⟩ := q
  dsimp only at h1 h2' h5 h6 h7 hk hfin hv ev ej
  subst h1; subst h2'
  have hlt : a < ah_n h := ah_k_lt hk (by omega)
  obtain ⟨-, -, -, -, hob⟩ := hr.2.2.2.2.2 a hlt
  rw [hk] at hob
  obtain ⟨cell, g1, g2, g3, g4⟩ := hob h5
  obtain ⟨hSl, hfc, kC, hkC, hkind⟩ := hE.2.1.1 ci _ (vwCl_at ci h5)
  obtain ⟨cf, kf, fi, f, hi, hsl⟩ := hSl k h6
  have hlays : ∀ j, j < nfl ci → (Jvm.Cond.lays (cnm ci) (cTb ci j).1 (cTb ci j).2.1 (cTb ci j).2.2.1).before args s = true ∨ (Jvm.Cond.laysFinal (cnm ci) (cTb ci j).1 (cTb ci j).2.1 (cTb ci j).2.2.1).before args s = true := fun j hj => u_lays (ws := u_ws (cnm ci) (cTb ci) (nfl ci)) (fun w hw => hE.1 w ((cls_at h5).1 w hw).1 ((cls_at h5).1 w hw).2 _) (fun w hw => hw) hj
  have hf := u_facts hfc hkC (hlays k h6) hi
  have hap : ∀ x y, x < nfl ci → y < nfl ci → x ≠ y → D.2 ci x ≠ D.2 ci y := by
    intro x y hx' hy hne
    obtain ⟨_, _, _, fa, hia, ea⟩ := hSl x hx'
    obtain ⟨_, _, _, fb, hib, eb⟩ := hSl y hy
    rw [← ea, ← eb]
    refine u_apart (hlays x hx') (hlays y hy) hia hib ?_
    rw [(State.fieldFound?_type hia (cls_ty ci h5 x hx').1).1, (State.fieldFound?_type hib (cls_ty ci h5 y hy).1).1]
    exact cls_nm ci h5 x hx' y hy hne
  have hw := hE.1 _ h3 h4 args
  have hlay := lays_at (args := args) hE.1 h5 h6
  have hty := (cls_ty ci h5 k h6).1
  have hgo : ∀ H' : Heap, H'[base + a]? = some (cell.setSlot f.slot (cvv base b v)) → H'.size = H.size → (∀ q, q ≠ base + a → H'[q]? = H[q]?) → W p l e R s m args below meth c H' (locs ++ [⟨base + a, f.slot⟩]) (ah_n h - n0) (ah_u h - u0) Q (F0 m (pc + 3) lsA (st.map (cvv base b))) := by
    intro H' e1 e2 e3
    rw [← en, ← eu]
    refine kk H' _ lsA (hr.put e2 e3 en eo (kOK.obj (ek.trans hk) h5 ?_)) (hS.put e2 e3 (Nat.le_add_right _ _)) hl
    refine ⟨_, e1, g2, g3, ?_⟩
    rw [hsl]
    refine upd_slot g4 hap h6 ?_ (fun j hj => ?_)
    · show cvv base 0 (fvl (fty ci k) h2 a k) = _
      rw [fvl_cvv (b2 := b), ev]
    · show cvv base 0 (fvl (fty ci j) h2 a j) = cvv base 0 (fvl (fty ci j) h a j)
      rw [ej j hj]
  have hslot : f.slot < cell.slots.size := by rw [hsl]; exact k2_hasslot (g4 k h6)
  cases hfi : (cTb ci k).2.2.2 with
  | true =>
    obtain ⟨hn, hco, hne⟩ := hfin hfi
    subst hco
    subst hne
    unfold u_lay at hlay
    rw [if_pos hfi] at hlay
    have hcf : m.cls = cf := by
      obtain ⟨_, _, c', _, _, _, -, -, hf', -, -, -, hown2, -⟩ := Cond.laysFinal_spec hlay
      have e1 : c' = cf := by
        have := hi.symm.trans hf'
        simp at this
        exact this.1.symm
      rw [(cls_ty ci h5 k h6).2] at hown2
      rw [← e1]
      exact Option.some.inj (hown.symm.trans hown2)
    have h8 := u_fits hfc hkC hkind (Or.inr hlay) hi hty hv.1 hv.2
    exact W.putFinK hx hb hown hw hi hf.1 hcf hn (by rw [g2]; exact h8) g1 g3 hslot rfl rfl hd hgo
  | false =>
    unfold u_lay at hlay
    rw [if_neg (by rw [hfi]; decide)] at hlay
    have h8 := u_store hfc hkC hkind hlay hi hty hv.1 hv.2
    cases nest with
    | false => exact W.putK hx hb (f := f) ⟨hown, hw, ⟨_, _, _, hi⟩, hf.1⟩ (by rw [g2]; exact h8) g1 g3 hslot rfl rfl hd hgo
    | true => exact va_WputK hx hb (f := f) hown hw hi hf.1 (by rw [g2]; exact h8) g1 g3 hslot rfl rfl hd hgo
theorem inA {base q : Nat} : base ≤ base + q := Nat.le_add_right _ _
theorem arr_in {cA : ClassId} {n : Nat} {f : Nat → Value} {i : Int32} (h : vp_in i n) : ¬ (i < 0 ∨ (arrV cA n f).slots.size ≤ i.toNatClampNeg) := by
  rw [arrV_size]; exact h
theorem arr_rd {cA : ClassId} {n : Nat} {f : Nat → Value} {i : Int32} (h : vp_in i n) : (arrV cA n f).slots[i.toNatClampNeg]? = some (f i.toNatClampNeg) := arrV_read _ _ (Nat.not_le.mp fun q => h (Or.inr q))
theorem WA.iald (hx : p.tables.exec = Jvm.exec) (hb : c.code = cc) {pc : Nat} (hd : decode cc pc = .ok (.iaload, 1)) {ls st : List Value} {h : AH} {a : Nat} {i : Int32} (hk : ah_k h a = 20) (hi : vp_in i (ah_z h a))
    (kk : WA p l e R s m args below meth c Q D base b sc nL n0 u0 (pc + 1) ls (.int (ah_i h a i.toNatClampNeg) :: st) h) : WA p l e R s m args below meth c Q D base b sc nL n0 u0 pc ls (.int i :: .ref a :: st) h := by
  intro H locs lsA hr hS hl
  obtain ⟨cA, h1, h2⟩ := (hr.2.2.2.2.2 a (ah_k_lt hk (by omega))).1 hk
  exact W.iald hx hb h1 (h2 _ _) (fun q => by cases q) (arr_in hi) (arr_rd hi) rfl rfl hd (kk H locs lsA hr hS hl)
theorem WA.lald (hx : p.tables.exec = Jvm.exec) (hb : c.code = cc) {pc : Nat} (hd : decode cc pc = .ok (.laload, 1)) {ls st : List Value} {h : AH} {a : Nat} {i : Int32} (hk : ah_k h a = 21) (hi : vp_in i (ah_z h a))
    (kk : WA p l e R s m args below meth c Q D base b sc nL n0 u0 (pc + 1) ls (.long (ah_l h a i.toNatClampNeg) :: st) h) : WA p l e R s m args below meth c Q D base b sc nL n0 u0 pc ls (.int i :: .ref a :: st) h := by
  intro H locs lsA hr hS hl
  obtain ⟨cA, h1, h2⟩ := (hr.2.2.2.2.2 a (ah_k_lt hk (by omega))).2.1 hk
  exact W.lald hx hb h1 (h2 _ _) (fun q => by cases q) (arr_in hi) (arr_rd hi) rfl rfl hd (kk H locs lsA hr hS hl)
theorem WA.zald (hx : p.tables.exec = Jvm.exec) (hb : c.code = cc) {pc : Nat} (hd : decode cc pc = .ok (.baload, 1)) {ls st : List Value} {h : AH} {a : Nat} {i : Int32} (hk : ah_k h a = 22) (hi : vp_in i (ah_z h a))
    (kk : WA p l e R s m args below meth c Q D base b sc nL n0 u0 (pc + 1) ls (.int (ah_i h a i.toNatClampNeg) :: st) h) : WA p l e R s m args below meth c Q D base b sc nL n0 u0 pc ls (.int i :: .ref a :: st) h := by
  intro H locs lsA hr hS hl
  obtain ⟨cA, h1, h2⟩ := (hr.2.2.2.2.2 a (ah_k_lt hk (by omega))).2.2.1 hk
  exact W.zald hx hb h1 (h2 _ _) (fun q => by cases q) (arr_in hi) (arr_rd hi) rfl rfl hd (kk H locs lsA hr hS hl)
theorem WA.aald (hx : p.tables.exec = Jvm.exec) (hb : c.code = cc) {pc : Nat} (hd : decode cc pc = .ok (.aaload, 1)) {ls st : List Value} {h : AH} {a : Nat} {i : Int32} (hk : ah_k h a = 23) (hi : vp_in i (ah_z h a))
    (kk : WA p l e R s m args below meth c Q D base b sc nL n0 u0 (pc + 1) ls (va_rf (ah_r h a i.toNatClampNeg) :: st) h) : WA p l e R s m args below meth c Q D base b sc nL n0 u0 pc ls (.int i :: .ref a :: st) h := by
  intro H locs lsA hr hS hl
  obtain ⟨cA, h1, h2, h3⟩ := (hr.2.2.2.2.2 a (ah_k_lt hk (by omega))).2.2.2.1 hk
  have k2 := kk H locs lsA hr hS hl
  rw [List.map_cons, cvv_rf] at k2
  exact W.aald (ty := .object RX8) hx hb h1 (h2 _ _) rfl (fun q => by cases q) (arr_in hi) (arr_rd hi) rfl rfl hd k2
theorem WA.sld (hx : p.tables.exec = Jvm.exec) (hb : c.code = cc) {pc : Nat} (hd : decode cc pc = .ok (.iaload, 1)) {ls st : List Value} {h : AH} {i : Int32} (hi : vp_in i sc.2)
    (kk : WA p l e R s m args below meth c Q D base b sc nL n0 u0 (pc + 1) ls (.int (sc.1 i.toNatClampNeg) :: st) h) : WA p l e R s m args below meth c Q D base b sc nL n0 u0 pc ls (.int i :: .retAddr 1 :: st) h := by
  intro H locs lsA hr hS hl
  exact va_sld (A := fun q => base ≤ q) hx hb hr.2.1 (by rw [hr.size]; have := hr.1; omega) (Nat.not_le.mpr hr.1) (H0 := H) ⟨Nat.le_refl _, fun _ _ _ => rfl, hS.2.2⟩ hi hd (kk H locs lsA hr hS hl)
theorem WA.slen (hx : p.tables.exec = Jvm.exec) (hb : c.code = cc) {pc : Nat} (hd : decode cc pc = .ok (.arraylength, 1)) {ls st : List Value} {h : AH}
    (kk : WA p l e R s m args below meth c Q D base b sc nL n0 u0 (pc + 1) ls (.int (Int32.ofNat sc.2) :: st) h) : WA p l e R s m args below meth c Q D base b sc nL n0 u0 pc ls (.retAddr 1 :: st) h := by
  intro H locs lsA hr hS hl
  exact va_slen (A := fun q => base ≤ q) hx hb hr.2.1 (by rw [hr.size]; have := hr.1; omega) (Nat.not_le.mpr hr.1) (H0 := H) ⟨Nat.le_refl _, fun _ _ _ => rfl, hS.2.2⟩ hd (kk H locs lsA hr hS hl)
theorem WA.alen (hx : p.tables.exec = Jvm.exec) (hb : c.code = cc) {pc : Nat} (hd : decode cc pc = .ok (.arraylength, 1)) {ls st : List Value} {h : AH} {a : Nat} (hk : 20 ≤ ah_k h a) (hk2 : ah_k h a ≤ 23)
    (kk : WA p l e R s m args below meth c Q D base b sc nL n0 u0 (pc + 1) ls (.int (Int32.ofNat (ah_z h a)) :: st) h) : WA p l e R s m args below meth c Q D base b sc nL n0 u0 pc ls (.ref a :: st) h := by
  intro H locs lsA hr hS hl
  have hlt : a < ah_n h := ah_k_lt rfl (by omega)
  obtain ⟨f0, f1, f2, f3, -⟩ := hr.2.2.2.2.2 a hlt
  have h4 : ∃ cA f ty, H[base + a]? = some (arrV cA (ah_z h a) f) ∧ ArrOfT s cA ty := by
    rcases (show ah_k h a = 20 ∨ ah_k h a = 21 ∨ ah_k h a = 22 ∨ ah_k h a = 23 by omega) with q | q | q | q
    · obtain ⟨cA, g1, g2⟩ := f0 q
      exact ⟨cA, _, _, g1, g2⟩
    · obtain ⟨cA, g1, g2⟩ := f1 q
      exact ⟨cA, _, _, g1, g2⟩
    · obtain ⟨cA, g1, g2⟩ := f2 q
      exact ⟨cA, _, _, g1, g2⟩
    · obtain ⟨cA, g1, g2, -⟩ := f3 q
      exact ⟨cA, _, _, g1, g2⟩
  obtain ⟨cA, f, ty, g1, g2⟩ := h4
  exact W.alen hx hb g1 (g2 _ _) (by rw [arrV_size]) rfl rfl hd (kk H locs lsA hr hS hl)
theorem arr_st {cA : ClassId} {n k : Nat} {f g : Nat → Value} {x : Value} (hg : ∀ j, g j = if j = k then x else f j) : (arrV cA n f).setSlot k x = arrV cA n g := by
  rw [arrV_store]
  congr 1
  funext j
  rw [hg j]; rfl
theorem ap_i_at {h : AH} {a k j : Nat} {x : Int32} : ah_i (ap_i h a k x) a j = if j = k then x else ah_i h a j := by simp [ah_i, ap_i]
theorem ap_l_at {h : AH} {a k j : Nat} {x : Int64} : ah_l (ap_l h a k x) a j = if j = k then x else ah_l h a j := by simp [ah_l, ap_l]
theorem ap_r_at {h : AH} {a k j : Nat} {x : Option Nat} : ah_r (ap_r h a k x) a j = if j = k then x else ah_r h a j := by simp [ah_r, ap_r]
theorem WA.iast (hx : p.tables.exec = Jvm.exec) (hb : c.code = cc) {pc : Nat} (hd : decode cc pc = .ok (.iastore, 1)) {ls st : List Value} {h : AH} {a : Nat} {i x : Int32} (hk : ah_k h a = 20) (hi : vp_in i (ah_z h a))
    (kk : WA p l e R s m args below meth c Q D base b sc nL n0 u0 (pc + 1) ls st (ap_i h a i.toNatClampNeg x)) : WA p l e R s m args below meth c Q D base b sc nL n0 u0 pc ls (.int x :: .int i :: .ref a :: st) h := by
  intro H locs lsA hr hS hl
  obtain ⟨cA, h1, h2⟩ := (hr.2.2.2.2.2 a (ah_k_lt hk (by omega))).1 hk
  refine W.iast hx hb h1 (h2 _ _) (fun q => by cases q) (arr_in hi) rfl rfl hd fun H' e1 e2 e3 => ?_
  refine kk H' _ lsA (hr.put e2 e3 rfl put_other (kOK.ari hk (cA := cA) ?_ h2)) (hS.put e2 e3 inA) hl
  rw [e1]
  exact congrArg some (arr_st fun j => by rw [ap_i_at]; split <;> rfl)
theorem WA.zast (hx : p.tables.exec = Jvm.exec) (hb : c.code = cc) {pc : Nat} (hd : decode cc pc = .ok (.bastore, 1)) {ls st : List Value} {h : AH} {a : Nat} {i x : Int32} (hk : ah_k h a = 22) (hi : vp_in i (ah_z h a)) (hx01 : x = 0 ∨ x = 1)
    (kk : WA p l e R s m args below meth c Q D base b sc nL n0 u0 (pc + 1) ls st (ap_i h a i.toNatClampNeg x)) : WA p l e R s m args below meth c Q D base b sc nL n0 u0 pc ls (.int x :: .int i :: .ref a :: st) h := by
  intro H locs lsA hr hS hl
  obtain ⟨cA, h1, h2⟩ := (hr.2.2.2.2.2 a (ah_k_lt hk (by omega))).2.2.1 hk
  refine W.zast hx hb h1 (h2 _ _) (fun q => by cases q) (arr_in hi) rfl rfl hd fun H' e1 e2 e3 => ?_
  refine kk H' _ lsA (hr.put e2 e3 rfl put_other (kOK.arz hk (cA := cA) ?_ h2)) (hS.put e2 e3 inA) hl
  rw [e1]
  have hn : narrow .boolean (.int x) = .int x := by rcases hx01 with rfl | rfl <;> rfl
  rw [hn]
  exact congrArg some (arr_st fun j => by rw [ap_i_at]; split <;> rfl)
theorem WA.last (hx : p.tables.exec = Jvm.exec) (hb : c.code = cc) {pc : Nat} (hd : decode cc pc = .ok (.lastore, 1)) {ls st : List Value} {h : AH} {a : Nat} {i : Int32} {x : Int64} (hk : ah_k h a = 21) (hi : vp_in i (ah_z h a))
    (kk : WA p l e R s m args below meth c Q D base b sc nL n0 u0 (pc + 1) ls st (ap_l h a i.toNatClampNeg x)) : WA p l e R s m args below meth c Q D base b sc nL n0 u0 pc ls (.long x :: .int i :: .ref a :: st) h := by
  intro H locs lsA hr hS hl
  obtain ⟨cA, h1, h2⟩ := (hr.2.2.2.2.2 a (ah_k_lt hk (by omega))).2.1 hk
  refine W.last hx hb h1 (h2 _ _) (fun q => by cases q) (arr_in hi) rfl rfl hd fun H' e1 e2 e3 => ?_
  refine kk H' _ lsA (hr.put e2 e3 rfl put_otherL (kOK.arl hk (cA := cA) ?_ h2)) (hS.put e2 e3 inA) hl
  rw [e1]
  exact congrArg some (arr_st fun j => by rw [ap_l_at]; split <;> rfl)
theorem WA.aast (hx : p.tables.exec = Jvm.exec) (hb : c.code = cc) (hE : EV D s) {pc : Nat} (hd : decode cc pc = .ok (.aastore, 1)) {ls st : List Value} {h : AH} {a : Nat} {i : Int32} {x : Option Nat} (hk : ah_k h a = 23) (hi : vp_in i (ah_z h a)) (hv : ∀ q, x = some q → ah_k h q = 8)
    (kk : WA p l e R s m args below meth c Q D base b sc nL n0 u0 (pc + 1) ls st (ap_r h a i.toNatClampNeg x)) : WA p l e R s m args below meth c Q D base b sc nL n0 u0 pc ls (va_rf x :: .int i :: .ref a :: st) h := by
  intro H locs lsA hr hS hl
  obtain ⟨cA, h1, h2, h3⟩ := (hr.2.2.2.2.2 a (ah_k_lt hk (by omega))).2.2.2.1 hk
  have hgo : ∀ (H' : Heap), H'[base + a]? = some ((arrV cA (ah_z h a) fun j => va_rf ((ah_r h a j).map (base + ·))).setSlot i.toNatClampNeg (cvv base b (va_rf x))) → H'.size = H.size → (∀ q, q ≠ base + a → H'[q]? = H[q]?) → W p l e R s m args below meth c H' (locs ++ [⟨base + a, i.toNatClampNeg⟩]) (ah_n h - n0) (ah_u h - u0) Q (F0 m (pc + 1) lsA (st.map (cvv base b))) := by
    intro H' e1 e2 e3
    refine kk H' _ lsA (hr.put e2 e3 rfl put_otherR (kOK.arr hk (cA := cA) ?_ h2 h3)) (hS.put e2 e3 inA) hl
    rw [e1]
    exact congrArg some (arr_st fun j => by rw [ap_r_at, cvv_rf]; split <;> rfl)
  cases x with
  | none => exact va_WaastN (C := RX8) hx hb h1 (h2 _ _) (fun q => by cases q) (arr_in hi) rfl rfl hd hgo
  | some v =>
    have hkv := hv v rfl
    obtain ⟨-, -, -, -, hob⟩ := hr.2.2.2.2.2 v (ah_k_lt hkv (by omega))
    rw [hkv] at hob
    obtain ⟨cellV, g1, g2, g3, g4⟩ := hob (by omega)
    have hcls := (hE.2.1.1 8 _ (vwCl_at 8 (by omega))).2
    obtain ⟨kA, comp, k1, k2, k3, -⟩ := h3
    have hcomp : comp = D.1 8 := Option.some.inj (k3.symm.trans hcls.1)
    subst hcomp
    obtain ⟨kC, hkC, -⟩ := hcls.2
    exact W.aast hx hb h1 (fun q h => by cases h) (fun h => by cases h) k1 k2 rfl hkC ⟨fun q => hi (Or.inl q), by rw [arrV_size]; exact Nat.not_le.mp fun q => hi (Or.inr q)⟩ g1 (fun q h => by rw [g3] at h; cases h) (by rw [g2]; exact hkC) (by rw [g2]; exact va_assign hcls) rfl rfl hd hgo
/-- a new cell: the heap behind -/
theorem HV.new {H H1 : Heap} {h : AH} {kd len us : Nat} (hv : HV D base b sc s H h) (e2 : H1.size = H.size + 1) (e3 : ∀ q, q < H.size → H1[q]? = H[q]?) (hk : kOK D base s H1 (ap_n h kd len us) (ah_n h)) : HV D base b sc s H1 (ap_n h kd len us) :=
  hv.to (fun q hq => e3 q (by rw [hv.size]; omega)) (by rw [e2, hv.size]; omega) (hv.2.2.2.2.push e2 e3 hk)
theorem vaS_new {A : Nat → Prop} {H0 H H1 : Heap} {locs : List Loc} (h : va_S A H0 H locs) (e2 : H1.size = H.size + 1) (e3 : ∀ q, q < H.size → H1[q]? = H[q]?) : va_S A H0 H1 locs :=
  ⟨Nat.le_trans h.1 (by omega), fun x h1 h2 => (e3 x (Nat.lt_of_lt_of_le h1 h.1)).trans (h.2.1 x h1 h2), h.2.2⟩
theorem new_k {h : AH} {kd len us : Nat} : ah_k (ap_n h kd len us) (ah_n h) = kd := by
  show (if h.1 < h.1 + 1 then _ else _) = _
  rw [if_pos (Nat.lt_succ_self _)]
  simp [ap_n, ah_n]
theorem new_z {h : AH} {kd len us : Nat} : ah_z (ap_n h kd len us) (ah_n h) = len := by simp [ah_z, ap_n, ah_n]
theorem new_i {h : AH} {kd len us j : Nat} : ah_i (ap_n h kd len us) (ah_n h) j = 0 := by simp [ah_i, ap_n, ah_n]
theorem new_l {h : AH} {kd len us j : Nat} : ah_l (ap_n h kd len us) (ah_n h) j = 0 := by simp [ah_l, ap_n, ah_n]
theorem new_r {h : AH} {kd len us j : Nat} : ah_r (ap_n h kd len us) (ah_n h) j = none := by simp [ah_r, ap_n, ah_n]
theorem WA.newa (hx : p.tables.exec = Jvm.exec) (hb : c.code = cc) (hT : ∀ A : Array Value, (Jvm.Cond.arrayClass .int).before A s = true ∧ (Jvm.Cond.arrayClass .long).before A s = true) {t : ArrayType} {pc : Nat} (hd : decode cc pc = .ok (.newarray t, 2)) {ls st : List Value} {h : AH} {n : Int32} (h8 : t = .int ∨ t = .long) (h0 : ¬ n < 0) (hm : n.toNatClampNeg ≤ 10000)
    (hn0 : n0 ≤ ah_n h) (hu0 : u0 ≤ ah_u h) (hcell : ah_n h + 1 ≤ n0 + R.cells) (hslot : ah_u h + n.toNatClampNeg ≤ u0 + R.slots)
    (kk : WA p l e R s m args below meth c Q D base b sc nL n0 u0 (pc + 2) ls (.ref (ah_n h) :: st) (ap_n h (aKind t) n.toNatClampNeg n.toNatClampNeg)) : WA p l e R s m args below meth c Q D base b sc nL n0 u0 pc ls (.int n :: st) h := by
  intro H locs lsA hr hS hl
  have harr : (Jvm.Cond.arrayClass (newarray.typeOf t)).before args s = true := by
    rcases h8 with rfl | rfl
    · exact (hT args).1
    · exact (hT args).2
  have hby : n.toNatClampNeg * componentBytes (newarray.typeOf t) ≤ 536870912 := by
    have : componentBytes (newarray.typeOf t) ≤ 8 := by rcases h8 with rfl | rfl <;> decide
    exact Nat.le_trans (Nat.mul_le_mul hm this) (by decide)
  refine va_newaK hx hb harr rfl hd rfl h0 rfl hby (by omega) (by omega) hr.size fun H1 cA e1 z1 o1 hAr _ => ?_
  have z2 : H1.size = H.size + 1 := by rw [z1, hr.size]
  have o2 : ∀ q, q < H.size → H1[q]? = H[q]? := fun q hq => o1 q (by rw [← hr.size]; exact hq)
  have k2 := kk H1 locs lsA (hr.new z2 o2 ?_) (vaS_new hS z2 o2) hl
  · have en : ah_n (ap_n h (aKind t) n.toNatClampNeg n.toNatClampNeg) - n0 = ah_n h - n0 + 1 := by show ah_n h + 1 - n0 = _; omega
    have eu : ah_u (ap_n h (aKind t) n.toNatClampNeg n.toNatClampNeg) - u0 = ah_u h - u0 + n.toNatClampNeg := by show ah_u h + n.toNatClampNeg - u0 = _; omega
    rw [en, eu] at k2
    exact k2
  · rcases h8 with rfl | rfl
    · refine kOK.ari new_k (cA := cA) ?_ hAr
      rw [e1, new_z]
      exact congrArg (fun f => some (arrV cA n.toNatClampNeg f)) (funext fun j => by rw [new_i]; rfl)
    · refine kOK.arl new_k (cA := cA) ?_ hAr
      rw [e1, new_z]
      exact congrArg (fun f => some (arrV cA n.toNatClampNeg f)) (funext fun j => by rw [new_l]; rfl)
theorem WA.newq (hx : p.tables.exec = Jvm.exec) (hb : c.code = cc) {o : Nat} (hown : s.vm.findClass (cnm o) = some m.cls) (hE : EV D s) {i : Nat} (hcl : (Jvm.Cond.classLink (cnm o) i RX8).before args s = true) {pc : Nat} (hd : decode cc pc = .ok (.anewarray i, 3)) {ls st : List Value} {h : AH} {n : Int32} (h0 : ¬ n < 0) (hm : n.toNatClampNeg ≤ 10000)
    (hn0 : n0 ≤ ah_n h) (hu0 : u0 ≤ ah_u h) (hcell : ah_n h + 1 ≤ n0 + R.cells) (hslot : ah_u h + n.toNatClampNeg ≤ u0 + R.slots)
    (kk : WA p l e R s m args below meth c Q D base b sc nL n0 u0 (pc + 3) ls (.ref (ah_n h) :: st) (ap_n h 23 n.toNatClampNeg n.toNatClampNeg)) : WA p l e R s m args below meth c Q D base b sc nL n0 u0 pc ls (.int n :: st) h := by
  intro H locs lsA hr hS hl
  refine W.anew hx hb hown hcl (va_AO.use hE.2.2.2.1) rfl hd rfl h0 (by omega) (by omega) (by omega) fun cA kA comp f1 f2 f3 f4 => ?_
  generalize hH1 : H.push ({ cls := cA, slots := Array.replicate n.toNatClampNeg .null, vm := .none } : Cell) = H1
  have z2 : H1.size = H.size + 1 := by rw [← hH1, Array.size_push]
  have e1 : H1[H.size]? = some (arrV cA n.toNatClampNeg (fun _ => .null)) := by rw [← hH1, Array.getElem?_push_size, ← arrV_new]
  have o2 : ∀ q : Nat, q < H.size → H1[q]? = H[q]? := fun q hq => by rw [← hH1, Array.getElem?_push, if_neg (Nat.ne_of_lt hq)]
  have hAr : ArrOfT s cA (.object RX8) := fun N z => ⟨(fun k h => by cases h), kA, f2, comp, f3⟩
  have k2 := kk H1 locs lsA (hr.new z2 o2 ?_) (vaS_new hS z2 o2) hl
  · have en : ah_n (ap_n h 23 n.toNatClampNeg n.toNatClampNeg) - n0 = ah_n h - n0 + 1 := by show ah_n h + 1 - n0 = _; omega
    have eu : ah_u (ap_n h 23 n.toNatClampNeg n.toNatClampNeg) - u0 = ah_u h - u0 + n.toNatClampNeg := by show ah_u h + n.toNatClampNeg - u0 = _; omega
    rw [en, eu] at k2
    rw [hr.size]
    exact k2
  · refine kOK.arr new_k (cA := cA) ?_ hAr ⟨kA, comp, f2, f3, f4, f1⟩
    rw [hr.size] at e1
    rw [e1, new_z]
    exact congrArg (fun f => some (arrV cA n.toNatClampNeg f)) (funext fun j => by rw [new_r]; rfl)
theorem WA.newo (hx : p.tables.exec = Jvm.exec) (hb : c.code = cc) {o : Nat} (hown : s.vm.findClass (cnm o) = some m.cls) (hE : EV D s) {i : Nat} {q : Nat × Nat × Nat × Nat} (hq : fnl o i = some q) {pc : Nat} (hd : decode cc pc = .ok (.new i, 3)) {ls st : List Value} {h : AH}
    (hn0 : n0 ≤ ah_n h) (hu0 : u0 ≤ ah_u h) (hcell : ah_n h + 1 ≤ n0 + R.cells) (hslot : ah_u h + nfl q.2.2.1 ≤ u0 + R.slots) (hini : kwB (.initialized (cnm q.2.2.1)) = true)
    (kk : WA p l e R s m args below meth c Q D base b sc nL n0 u0 (pc + 3) ls (.ref (ah_n h) :: st) (ap_n h q.2.2.1 0 (nfl q.2.2.1))) : WA p l e R s m args below meth c Q D base b sc nL n0 u0 pc ls st h := by
  intro H locs lsA hr hS hl
  obtain ⟨h1, h2, h3, h4, h5⟩ := nlk_at hq
  obtain ⟨q1, q2, ci, ps⟩ := q
  dsimp only at h1 h2 h3 h4 h5 hslot hini
  subst h1; subst h2
  obtain ⟨c1, c2, c3⟩ := cls_at h5
  have hKn := hE.2.1.1 ci _ (vwCl_at ci h5)
  refine W.newcK hx hb hown (hE.1 _ h3 h4 _) (hE.1 _ c2.1 c2.2 _) (hE.1 _ c3 hini _) rfl hd (by omega) (by omega) hKn.2.1 hr.size fun H1 kC hkC e1 z1 o1 => ?_
  have z2 : H1.size = H.size + 1 := by rw [z1, hr.size]
  have o2 : ∀ q, q < H.size → H1[q]? = H[q]? := fun q hq => o1 q (by rw [← hr.size]; exact hq)
  have k2 := kk H1 locs lsA (hr.new z2 o2 ?_) (vaS_new hS z2 o2) hl
  · have en : ah_n (ap_n h ci 0 (nfl ci)) - n0 = ah_n h - n0 + 1 := by show ah_n h + 1 - n0 = _; omega
    have eu : ah_u (ap_n h ci 0 (nfl ci)) - u0 = ah_u h - u0 + nfl ci := by show ah_u h + nfl ci - u0 = _; omega
    rw [en, eu] at k2
    exact k2
  · refine kOK.obj new_k h5 ?_
    have hbn := u_born (args := args) (cTy ci) (ws := u_ws (cnm ci) (cTb ci) (nfl ci)) (fun w hw => hE.1 w (c1 w hw).1 (c1 w hw).2 _) (fun w hw => hw) hKn hkC e1 (fun k hk => (cls_ty ci h5 k hk).1)
    refine hbn.to fun k hk => ?_
    obtain ⟨t1, t2⟩ := cls_fty ci h5 k hk
    rw [t1]
    rcases t2 with e | e | e | ⟨n, e⟩ | ⟨n, e⟩ <;> rw [e] <;> simp only [tyS, fvl, new_i, new_l, new_r] <;> rfl
end STEP
