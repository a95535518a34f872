/-! EMBEDDINGS: a run is carried from a heap into one that holds it somewhere -/
/-- a value, its addresses renamed -/
def vm (r : Nat → Nat) : Value → Value
  | .ref a => .ref (r a)
  | v => v
def vD (D : Nat → Prop) (v : Value) : Prop := ∀ a, v = .ref a → D a
def lD (D : Nat → Prop) (l : List Value) : Prop := ∀ v ∈ l, vD D v
def rm (r : Nat → Nat) : Rs → Rs
  | .inl v => .inl (v.map (vm r))
  | .inr E => .inr E
def rD (D : Nat → Prop) (q : Rs) : Prop := ∀ v, q = .inl (some v) → vD D v
/-- h lies in H, the places D of h by r -/
def EMB (D : Nat → Prop) (r : Nat → Nat) (h H : AH) : Prop := (∀ a, D a → a < ah_n h ∧ r a < ah_n H ∧ ah_k H (r a) = ah_k h a ∧ ah_z H (r a) = ah_z h a ∧ ∀ k, ah_i H (r a) k = ah_i h a k ∧ ah_l H (r a) k = ah_l h a k ∧ ah_r H (r a) k = (ah_r h a k).map r ∧ ∀ c, ah_r h a k = some c → D c) ∧ ∀ a b, D a → D b → r a = r b → a = b
/-- what is not of the object stays -/
def KEEP (D : Nat → Prop) (r : Nat → Nat) (H H' : AH) : Prop := ∀ b, b < ah_n H → (∀ a, D a → r a ≠ b) → ah_k H' b = ah_k H b ∧ ah_z H' b = ah_z H b ∧ ∀ k, ah_i H' b k = ah_i H b k ∧ ah_l H' b k = ah_l H b k ∧ ah_r H' b k = ah_r H b k
def EXT (D : Nat → Prop) (r : Nat → Nat) (h H : AH) (D' : Nat → Prop) (r' : Nat → Nat) (h' H' : AH) : Prop := (∀ a, D a → D' a ∧ r' a = r a) ∧ (∀ a, D' a → D a ∨ ah_n H ≤ r' a) ∧ ah_n H ≤ ah_n H' ∧ ah_n H' + ah_n h = ah_n H + ah_n h' ∧ ah_u H' + ah_u h = ah_u H + ah_u h' ∧ KEEP D r H H'
def KS (D : Nat → Prop) (r : Nat → Nat) (h H : AH) (K : TK) : TK := fun ip ls' st' H' => ∃ D' r' ls st h', EXT D r h H D' r' h' H' ∧ EMB D' r' h' H' ∧ lD D' ls ∧ lD D' st ∧ ls' = ls.map (vm r') ∧ st' = st.map (vm r') ∧ K ip ls st h'
def KCS (D : Nat → Prop) (r : Nat → Nat) (KC : TKC) : TKC := fun mi as' rest' => ∃ as rest, lD D as ∧ lD D rest ∧ as' = as.map (vm r) ∧ rest' = rest.map (vm r) ∧ KC mi as rest
def KRS (D : Nat → Prop) (r : Nat → Nat) (h H : AH) (KR : TKR) : TKR := fun q' H' => ∃ D' r' q h', EXT D r h H D' r' h' H' ∧ EMB D' r' h' H' ∧ rD D' q ∧ q' = rm r' q ∧ KR q h'
def SIM (D : Nat → Prop) (r : Nat → Nat) (h H : AH) (P P' : TK → TKC → TKR → Prop) : Prop := ∀ K KC KR, P K KC KR → P' (KS D r h H K) (KCS D r KC) (KRS D r h H KR)
theorem isLg_vm {r : Nat → Nat} {v : Value} : isLg (vm r v) = isLg v := by cases v <;> rfl
theorem knw_vm {r : Nat → Nat} {v : Value} : knw (vm r v) = knw v := by cases v <;> rfl
theorem isRf_vm {r : Nat → Nat} {v : Value} : isRf (vm r v) = isRf v := by cases v <;> rfl
theorem vm_rf {r : Nat → Nat} {x : Option Nat} : vm r (va_rf x) = va_rf (x.map r) := by cases x <;> rfl
theorem gd_vm {r : Nat → Nat} {ls : List Value} {k : Nat} : (ls.map (vm r)).getD k unk = vm r (ls.getD k unk) := by
  rw [List.getD_eq_getElem?_getD, List.getD_eq_getElem?_getD, List.getElem?_map]
  cases ls[k]? <;> rfl
theorem st1_vm {r : Nat → Nat} {ls : List Value} {v : Value} : ∀ {k : Nat}, (st1 ls k v).map (vm r) = st1 (ls.map (vm r)) k (vm r v)
  | 0 => by rw [st1_0, st1_0, List.map_set]
  | j + 1 => by
    rw [st1_s, st1_s, gd_vm, isLg_vm]
    split
    · rw [List.map_set, List.map_set]; rfl
    · rw [List.map_set]
theorem st2_vm {r : Nat → Nat} {ls : List Value} {v : Value} {k : Nat} : (st2 ls k v).map (vm r) = st2 (ls.map (vm r)) k (vm r v) := by
  rw [st2_e, st2_e, List.map_set, st1_vm]; rfl
theorem entL_vm {r : Nat → Nat} : ∀ (l : List Value), (entL l).map (vm r) = entL (l.map (vm r))
  | [] => rfl
  | v :: l => by
    show (entL (v :: l)).map (vm r) = (if isLg (vm r v) = true then vm r v :: unk :: entL (l.map (vm r)) else vm r v :: entL (l.map (vm r)))
    rw [isLg_vm, ← entL_vm l]
    show (if isLg v = true then v :: unk :: entL l else v :: entL l).map (vm r) = _
    split <;> rfl
theorem padL_vm {r : Nat → Nat} {n : Nat} {l : List Value} : (padL n l).map (vm r) = padL n (l.map (vm r)) := by
  unfold padL
  rw [List.map_append, List.length_map, List.map_replicate]; rfl
section EMBS
variable {D D' D2 : Nat → Prop} {r r' r2 : Nat → Nat} {h h' h2 H H' H2 : AH} {l ls st : List Value} {v : Value}
theorem vDi {x : Int32} : vD D (.int x) := fun _ z => by cases z
theorem vDl {x : Int64} : vD D (.long x) := fun _ z => by cases z
theorem vDn : vD D .null := fun _ z => by cases z
theorem vDu : vD D unk := fun _ z => by cases z
theorem vDr {a : Nat} (d : D a) : vD D (.ref a) := fun _ z => by cases z; exact d
theorem vDq {x : Option Nat} (d : ∀ a, x = some a → D a) : vD D (va_rf x) := by
  cases x with
  | none => exact vDn
  | some a => exact vDr (d a rfl)
theorem lDn : lD D [] := fun _ z => absurd z List.not_mem_nil
theorem lDc (a : vD D v) (b : lD D l) : lD D (v :: l) := fun w z => by
  rcases List.mem_cons.mp z with rfl | z
  · exact a
  · exact b w z
theorem lDh (a : lD D (v :: l)) : vD D v := a v List.mem_cons_self
theorem lDt (a : lD D (v :: l)) : lD D l := fun w z => a w (List.mem_cons_of_mem _ z)
theorem lDa {l' : List Value} (a : lD D l) (b : lD D l') : lD D (l ++ l') := fun w z => (List.mem_append.mp z).elim (a w) (b w)
theorem lDs (a : lD D l) (b : vD D v) (k : Nat) : lD D (l.set k v) := fun w z => (List.mem_or_eq_of_mem_set z).elim (a w) fun e => e ▸ b
theorem lDg (a : lD D l) (k : Nat) : vD D (l.getD k unk) := by
  rw [List.getD_eq_getElem?_getD]
  cases e : l[k]? with
  | none => exact vDu
  | some w => exact a w (List.mem_of_getElem? e)
theorem lD1 (a : lD D l) (b : vD D v) : ∀ (k : Nat), lD D (st1 l k v)
  | 0 => lDs a b 0
  | j + 1 => by
    rw [st1_s]
    split
    · exact lDs (lDs a vDu _) b _
    · exact lDs a b _
theorem lD2 (a : lD D l) (b : vD D v) (k : Nat) : lD D (st2 l k v) := lDs (lD1 a b k) vDu _
theorem lDe : ∀ {l : List Value}, lD D l → lD D (entL l)
  | [], _ => lDn
  | v :: l, a => by
    show lD D (if isLg v = true then v :: unk :: entL l else v :: entL l)
    split
    · exact lDc (lDh a) (lDc vDu (lDe (lDt a)))
    · exact lDc (lDh a) (lDe (lDt a))
theorem lDp (a : lD D l) (n : Nat) : lD D (padL n l) := lDa a fun w z => by
  rw [List.eq_of_mem_replicate z]
  exact vDu
theorem vDm (x : ∀ a, D a → D' a ∧ r' a = r a) (a : vD D v) : vD D' v ∧ vm r' v = vm r v := by
  refine ⟨fun b e => (x b (a b e)).1, ?_⟩
  cases v with
  | ref b => exact congrArg Value.ref (x b (a b rfl)).2
  | _ => rfl
theorem lDm (x : ∀ a, D a → D' a ∧ r' a = r a) (a : lD D l) : lD D' l ∧ l.map (vm r') = l.map (vm r) :=
  ⟨fun w z => (vDm x (a w z)).1, List.map_congr_left fun w z => (vDm x (a w z)).2⟩
theorem EXT_refl : EXT D r h H D r h H := ⟨fun _ z => ⟨z, rfl⟩, fun _ z => Or.inl z, Nat.le_refl _, rfl, rfl, fun _ _ _ => ⟨rfl, rfl, fun _ => ⟨rfl, rfl, rfl⟩⟩⟩
theorem EXT_trans (e1 : EXT D r h H D' r' h' H') (e2 : EXT D' r' h' H' D2 r2 h2 H2) : EXT D r h H D2 r2 h2 H2 := by
  obtain ⟨a1, a2, a3, a4, a5, a6⟩ := e1
  obtain ⟨b1, b2, b3, b4, b5, b6⟩ := e2
  refine ⟨fun a z => ⟨(b1 a (a1 a z).1).1, (b1 a (a1 a z).1).2.trans (a1 a z).2⟩, fun a z => ?_, by omega, by omega, by omega, fun b hb hn => ?_⟩
  · rcases b2 a z with y | y
    · rcases a2 a y with x | x
      · exact Or.inl x
      · exact Or.inr (by rw [(b1 a y).2]; exact x)
    · exact Or.inr (by omega)
  · have k := a6 b hb hn
    have g := b6 b (by omega) fun a z e => by
      rcases a2 a z with x | x
      · exact hn a x ((a1 a x).2.symm.trans e)
      · omega
    exact ⟨g.1.trans k.1, g.2.1.trans k.2.1, fun j => ⟨(g.2.2 j).1.trans (k.2.2 j).1, (g.2.2 j).2.1.trans (k.2.2 j).2.1, (g.2.2 j).2.2.trans (k.2.2 j).2.2⟩⟩
theorem EMB_i (e : EMB D r h H) {a : Nat} (da : D a) (k : Nat) (v : Int32) : EMB D r (ap_i h a k v) (ap_i H (r a) k v) ∧ EXT D r h H D r (ap_i h a k v) (ap_i H (r a) k v) := by
  refine ⟨⟨fun b db => ?_, e.2⟩, fun _ z => ⟨z, rfl⟩, fun _ z => Or.inl z, Nat.le_refl _, rfl, rfl, fun b hb hn => ?_⟩
  · obtain ⟨g1, g2, g3, g4, g5⟩ := e.1 b db
    refine ⟨g1, g2, by rw [ak_i, ak_i]; exact g3, by rw [az_i, az_i]; exact g4, fun j => ⟨?_, by rw [al_i, al_i]; exact (g5 j).2.1, by rw [ar_i, ar_i]; exact (g5 j).2.2.1, fun c hc => ?_⟩⟩
    · rw [ai_i, ai_i]
      by_cases q : b = a ∧ j = k
      · rw [if_pos q, if_pos ⟨congrArg r q.1, q.2⟩]
      · rw [if_neg q, if_neg fun z => q ⟨e.2 b a db da z.1, z.2⟩]
        exact (g5 j).1
    · rw [ar_i] at hc
      exact (g5 j).2.2.2 c hc
  · refine ⟨ak_i, az_i, fun j => ⟨?_, al_i, ar_i⟩⟩
    rw [ai_i, if_neg fun z => hn a da z.1.symm]
theorem EMB_l (e : EMB D r h H) {a : Nat} (da : D a) (k : Nat) (v : Int64) : EMB D r (ap_l h a k v) (ap_l H (r a) k v) ∧ EXT D r h H D r (ap_l h a k v) (ap_l H (r a) k v) := by
  refine ⟨⟨fun b db => ?_, e.2⟩, fun _ z => ⟨z, rfl⟩, fun _ z => Or.inl z, Nat.le_refl _, rfl, rfl, fun b hb hn => ?_⟩
  · obtain ⟨g1, g2, g3, g4, g5⟩ := e.1 b db
    refine ⟨g1, g2, by rw [ak_l, ak_l]; exact g3, by rw [az_l, az_l]; exact g4, fun j => ⟨by rw [ai_l, ai_l]; exact (g5 j).1, ?_, by rw [ar_l, ar_l]; exact (g5 j).2.2.1, fun c hc => ?_⟩⟩
    · rw [al_l, al_l]
      by_cases q : b = a ∧ j = k
      · rw [if_pos q, if_pos ⟨congrArg r q.1, q.2⟩]
      · rw [if_neg q, if_neg fun z => q ⟨e.2 b a db da z.1, z.2⟩]
        exact (g5 j).2.1
    · rw [ar_l] at hc
      exact (g5 j).2.2.2 c hc
  · refine ⟨ak_l, az_l, fun j => ⟨ai_l, ?_, ar_l⟩⟩
    rw [al_l, if_neg fun z => hn a da z.1.symm]
theorem EMB_r (e : EMB D r h H) {a : Nat} (da : D a) (k : Nat) (v : Option Nat) (dv : ∀ c, v = some c → D c) : EMB D r (ap_r h a k v) (ap_r H (r a) k (v.map r)) ∧ EXT D r h H D r (ap_r h a k v) (ap_r H (r a) k (v.map r)) := by
  have rr : ∀ (g : AH) (a k : Nat) (v : Option Nat) (b j : Nat), ah_r (ap_r g a k v) b j = if b = a ∧ j = k then v else ah_r g b j := fun _ _ _ _ _ _ => rfl
  refine ⟨⟨fun b db => ?_, e.2⟩, fun _ z => ⟨z, rfl⟩, fun _ z => Or.inl z, Nat.le_refl _, rfl, rfl, fun b hb hn => ?_⟩
  · obtain ⟨g1, g2, g3, g4, g5⟩ := e.1 b db
    refine ⟨g1, g2, by rw [ak_r, ak_r]; exact g3, by rw [az_r, az_r]; exact g4, fun j => ⟨by rw [ai_r, ai_r]; exact (g5 j).1, by rw [al_r, al_r]; exact (g5 j).2.1, ?_, fun c hc => ?_⟩⟩
    · rw [rr, rr]
      by_cases q : b = a ∧ j = k
      · rw [if_pos q, if_pos ⟨congrArg r q.1, q.2⟩]
      · rw [if_neg q, if_neg fun z => q ⟨e.2 b a db da z.1, z.2⟩]
        exact (g5 j).2.2.1
    · rw [rr] at hc
      split at hc
      · exact dv c hc
      · exact (g5 j).2.2.2 c hc
  · refine ⟨ak_r, az_r, fun j => ⟨ai_r, al_r, ?_⟩⟩
    rw [rr, if_neg fun z => hn a da z.1.symm]
/-- the places with a new one -/
def Dn (D : Nat → Prop) (h : AH) : Nat → Prop := fun a => D a ∨ a = ah_n h
def rn (r : Nat → Nat) (h H : AH) : Nat → Nat := fun a => if a = ah_n h then ah_n H else r a
theorem EMB_n (e : EMB D r h H) (kd len us : Nat) : EMB (Dn D h) (rn r h H) (ap_n h kd len us) (ap_n H kd len us) ∧ EXT D r h H (Dn D h) (rn r h H) (ap_n h kd len us) (ap_n H kd len us) := by
  have nw : rn r h H (ah_n h) = ah_n H := if_pos rfl
  have ol : ∀ a, D a → a ≠ ah_n h ∧ rn r h H a = r a ∧ r a ≠ ah_n H := fun a da => by
    have g1 := (e.1 a da).1
    have g2 := (e.1 a da).2.1
    have n : a ≠ ah_n h := by omega
    exact ⟨n, if_neg n, by omega⟩
  refine ⟨⟨fun b db => ?_, fun a b da db q => ?_⟩, fun a da => ⟨Or.inl da, (ol a da).2.1⟩, fun a da => ?_, Nat.le_succ _, ?_, ?_, fun b hb hn => ?_⟩
  · rcases db with db | rfl
    · obtain ⟨g1, g2, g3, g4, g5⟩ := e.1 b db
      obtain ⟨n1, n2, n3⟩ := ol b db
      rw [n2]
      refine ⟨Nat.lt_succ_of_lt g1, Nat.lt_succ_of_lt g2, by rw [ak_n, ak_n, if_neg n1, if_neg n3]; exact g3, by rw [az_n, az_n, if_neg n1, if_neg n3]; exact g4, fun j => ⟨?_, ?_, ?_, fun c hc => ?_⟩⟩
      · rw [ai_nw, ai_nw, if_neg n1, if_neg n3]; exact (g5 j).1
      · rw [al_n, al_n, if_neg n1, if_neg n3]; exact (g5 j).2.1
      · rw [ar_n, ar_n, if_neg n1, if_neg n3, (g5 j).2.2.1]
        cases hc : ah_r h b j with
        | none => rfl
        | some c => exact congrArg some (ol c ((g5 j).2.2.2 c hc)).2.1.symm
      · rw [ar_n, if_neg n1] at hc
        exact Or.inl ((g5 j).2.2.2 c hc)
    · rw [nw]
      refine ⟨Nat.lt_succ_self _, Nat.lt_succ_self _, by rw [ak_n, ak_n, if_pos rfl, if_pos rfl], by rw [az_n, az_n, if_pos rfl, if_pos rfl], fun j => ⟨?_, ?_, ?_, fun c hc => ?_⟩⟩
      · rw [ai_nw, ai_nw, if_pos rfl, if_pos rfl]
      · rw [al_n, al_n, if_pos rfl, if_pos rfl]
      · rw [ar_n, ar_n, if_pos rfl, if_pos rfl]; rfl
      · rw [ar_n, if_pos rfl] at hc
        cases hc
  · rcases da with da | rfl
    · rcases db with db | rfl
      · rw [(ol a da).2.1, (ol b db).2.1] at q
        exact e.2 a b da db q
      · rw [(ol a da).2.1, nw] at q
        exact absurd q (ol a da).2.2
    · rcases db with db | rfl
      · rw [(ol b db).2.1, nw] at q
        exact absurd q.symm (ol b db).2.2
      · rfl
  · rcases da with da | rfl
    · exact Or.inl da
    · exact Or.inr (by rw [nw]; exact Nat.le_refl _)
  · rw [an_n, an_n]; omega
  · rw [au_n, au_n]; omega
  · have n : b ≠ ah_n H := by omega
    exact ⟨by rw [ak_n, if_neg n], by rw [az_n, if_neg n], fun j => ⟨by rw [ai_nw, if_neg n], by rw [al_n, if_neg n], by rw [ar_n, if_neg n]⟩⟩
/-- one more cell of h that is none of the object -/
theorem EMB_g (e : EMB D r h H) (kd len us : Nat) : EMB D r (ap_n h kd len us) H := by
  refine ⟨fun b db => ?_, e.2⟩
  obtain ⟨g1, g2, g3, g4, g5⟩ := e.1 b db
  have n : b ≠ ah_n h := by omega
  refine ⟨Nat.lt_succ_of_lt g1, g2, by rw [ak_n, if_neg n]; exact g3, by rw [az_n, if_neg n]; exact g4, fun j => ⟨?_, ?_, ?_, fun c hc => ?_⟩⟩
  · rw [ai_nw, if_neg n]; exact (g5 j).1
  · rw [al_n, if_neg n]; exact (g5 j).2.1
  · rw [ar_n, if_neg n]; exact (g5 j).2.2.1
  · rw [ar_n, if_neg n] at hc
    exact (g5 j).2.2.2 c hc
/-- what another one's run leaves -/
theorem EMB_k {D1 : Nat → Prop} {r1 : Nat → Nat} (e : EMB D r h H) (k : KEEP D1 r1 H H') (n : ah_n H ≤ ah_n H') (ap : ∀ a b, D a → D1 b → r a ≠ r1 b) : EMB D r h H' := by
  refine ⟨fun b db => ?_, e.2⟩
  obtain ⟨g1, g2, g3, g4, g5⟩ := e.1 b db
  obtain ⟨k1, k2, k3⟩ := k (r b) g2 fun a da z => ap b a db da z.symm
  exact ⟨g1, by omega, k1.trans g3, k2.trans g4, fun j => ⟨(k3 j).1.trans (g5 j).1, (k3 j).2.1.trans (g5 j).2.1, (k3 j).2.2.trans (g5 j).2.2.1, (g5 j).2.2.2⟩⟩
theorem fvl_vm (e : EMB D r h H) {a : Nat} (da : D a) (t k : Nat) : fvl t H (r a) k = vm r (fvl t h a k) ∧ vD D (fvl t h a k) := by
  obtain ⟨g1, g2, g3, g4, g5⟩ := e.1 a da
  unfold fvl
  split
  · exact ⟨congrArg Value.long (g5 k).2.1, vDl⟩
  · rw [(g5 k).2.2.1]
    exact ⟨vm_rf.symm, vDq (g5 k).2.2.2⟩
  · exact ⟨congrArg Value.int (g5 k).1, vDi⟩
end EMBS
