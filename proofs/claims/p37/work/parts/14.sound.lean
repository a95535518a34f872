/-! A METHOD'S RUN IS THE JVM'S -/
set_option maxRecDepth 100000 in
theorem hh13_ok : (List.range 281).all (fun mi => decide ((mrow mi).2.2.2.2.1 = []) || (decide (mC mi = 13) && (mrow mi).2.2.2.2.1.all fun q => decide (q.2.2.2 ∈ [17, 19, 14]))) = true := by decide +kernel
theorem hh13 {mi : Nat} (h : mi < 281) (hh : (mrow mi).2.2.2.2.1 ≠ []) : mC mi = 13 ∧ ∀ q ∈ (mrow mi).2.2.2.2.1, q.2.2.2 ∈ [17, 19, 14] := by
  have h1 := List.all_eq_true.mp hh13_ok mi (List.mem_range.mpr h)
  simp only [Bool.or_eq_true, Bool.and_eq_true, decide_eq_true_eq] at h1
  have h2 := h1.resolve_left hh
  exact ⟨h2.1, fun q hq => of_decide_eq_true (List.all_eq_true.mp h2.2 q hq)⟩
theorem xct_3 {ct : Nat} (h : ct ∈ [17, 19, 14]) : xct ct < 3 ∧ ct ≠ 0 := by
  simp at h
  rcases h with rfl | rfl | rfl <;> exact ⟨by decide, by decide⟩
theorem hsel_spec : ∀ (hh : List (Nat × Nat × Nat × Nat)) (pc E hp : Nat), hsel hh pc E = some hp → ∃ pre q suf, hh = pre ++ q :: suf ∧ (∀ z ∈ pre, ¬ (z.1 ≤ pc ∧ pc < z.2.1) ∨ xct z.2.2.2 ≠ E) ∧ (q.1 ≤ pc ∧ pc < q.2.1) ∧ xct q.2.2.2 = E ∧ q.2.2.1 = hp
  | [], pc, E, hp, h => by cases h
  | q :: r, pc, E, hp, h => by
    unfold hsel at h
    by_cases h1 : q.1 ≤ pc ∧ pc < q.2.1
    · rw [if_pos h1] at h
      by_cases h2 : xct q.2.2.2 = E
      · rw [if_pos h2] at h
        cases h
        exact ⟨[], q, r, rfl, fun _ hz => absurd hz List.not_mem_nil, h1, h2, rfl⟩
      · rw [if_neg h2] at h
        obtain ⟨pre, q', suf, e, k1, k2⟩ := hsel_spec r pc E hp h
        exact ⟨q :: pre, q', suf, by rw [e]; rfl, fun z hz => (List.mem_cons.mp hz).elim (fun e => Or.inr (by rw [e]; exact h2)) (k1 z), k2⟩
    · rw [if_neg h1] at h
      obtain ⟨pre, q', suf, e, k1, k2⟩ := hsel_spec r pc E hp h
      exact ⟨q :: pre, q', suf, by rw [e]; rfl, fun z hz => (List.mem_cons.mp hz).elim (fun e => Or.inl (by rw [e]; exact h1)) (k1 z), k2⟩
theorem hdX_none {mi ip pc E : Nat} (hp : (ppo mi)[ip]? = some pc) (h : hdX mi ip E = none) : ∀ x ∈ tableOf (mrow mi).2.2.2.2.1, covers x pc = false := by
  unfold hdX at h
  rw [hp] at h
  dsimp only at h
  split at h
  · next ha =>
    intro x hx
    obtain ⟨q, hq, rfl⟩ := List.mem_map.mp hx
    have := List.all_eq_true.mp ha q hq
    show (decide (q.1 ≤ pc) && decide (pc < q.2.1)) = false
    cases hh : (decide (q.1 ≤ pc) && decide (pc < q.2.1)) with
    | false => rfl
    | true => rw [hh] at this; cases this
  · cases h
theorem hdX_some {mi ip pc E t k : Nat} (hp : (ppo mi)[ip]? = some pc) (h : hdX mi ip E = some (t, k)) (ht : t ≠ 99999) : ∃ hp' : Nat, hsel (mrow mi).2.2.2.2.1 pc E = some hp' ∧ ((decode (mrow mi).2.1 hp' = .ok (.astore k, 2) ∧ (ppo mi)[t]? = some (hp' + 2)) ∨ ∃ k' : Fin 4, (k' : Nat) = k ∧ decode (mrow mi).2.1 hp' = .ok (.astore_n k', 1) ∧ (ppo mi)[t]? = some (hp' + 1)) := by
  unfold hdX at h
  rw [hp] at h
  dsimp only at h
  split at h
  · cases h
  · have h := Option.some.inj h
    cases hf : hdF (mrow mi).2.1 (ppo mi) (mrow mi).2.2.2.2.1 pc E with
    | none => rw [hf] at h; exact absurd (congrArg Prod.fst h).symm ht
    | some tk =>
      rw [hf] at h
      have h : tk = (t, k) := h
      subst h
      unfold hdF at hf
      cases hs : hsel (mrow mi).2.2.2.2.1 pc E with
      | none => rw [hs] at hf; cases hf
      | some hp' =>
        rw [hs] at hf
        dsimp only at hf
        refine ⟨hp', rfl, ?_⟩
        split at hf
        · next k0 len hd =>
          split at hf
          · next hlen =>
            subst hlen
            cases hi : ipOf (ppo mi) (hp' + 2) with
            | none => rw [hi] at hf; cases hf; exact absurd rfl ht
            | some t' => rw [hi] at hf; cases hf; exact Or.inl ⟨hd, ipOf_get _ _ _ hi⟩
          · cases hf; exact absurd rfl ht
        · next k0 len hd =>
          split at hf
          · next hlen =>
            subst hlen
            cases hi : ipOf (ppo mi) (hp' + 1) with
            | none => rw [hi] at hf; cases hf; exact absurd rfl ht
            | some t' => rw [hi] at hf; cases hf; exact Or.inr ⟨k0, rfl, hd, ipOf_get _ _ _ hi⟩
          · cases hf; exact absurd rfl ht
        · cases hf; exact absurd rfl ht
theorem st1_self {ls : List Value} {k : Nat} {v : Value} (h : k < ls.length) : (st1 ls k v)[k]? = some v := by
  unfold st1
  split
  · rw [List.getElem?_set]; simp [h]
  · split
    · rw [List.getElem?_set]; simp [h]
    · rw [List.getElem?_set]; simp [h]
/-- the entry's locals -/
theorem ent_len {base b : Nat} : ∀ (as : List Value), (∀ v ∈ as, knw v = true) → (lg_sl (as.map (cvv base b))).length = (entL as).length
  | [], _ => rfl
  | v :: r, h => by
    have h1 := cvv_cat (base := base) (b := b) (h v List.mem_cons_self)
    have h2 := ent_len (base := base) (b := b) r (fun w hw => h w (List.mem_cons_of_mem _ hw))
    have e : lg_sl ((v :: r).map (cvv base b)) = (if (cvv base b v).category = 2 then [Slot.val (cvv base b v), .second] else [.val (cvv base b v)]) ++ lg_sl (r.map (cvv base b)) := by simp [lg_sl]
    rw [e, List.length_append, h2, h1]
    show _ = (if isLg v = true then v :: unk :: entL r else v :: entL r).length
    cases isLg v <;> simp <;> omega
theorem ent_args {base b : Nat} : ∀ (as : List Value), (∀ v ∈ as, knw v = true) → ∀ (i j : Nat) (v : Value), (entL as)[j]? = some v → knw v = true → (i + j, cvv base b v) ∈ lv_args i (as.map (cvv base b))
  | [], _, i, j, v, hj, _ => by cases hj
  | w :: r, h, i, j, v, hj, hk => by
    have h1 := cvv_cat (base := base) (b := b) (h w List.mem_cons_self)
    have ih := ent_args (base := base) (b := b) r (fun x hx => h x (List.mem_cons_of_mem _ hx))
    show (i + j, cvv base b v) ∈ (i, cvv base b w) :: lv_args (if (cvv base b w).category = 2 then i + 2 else i + 1) (r.map (cvv base b))
    rw [h1]
    unfold entL at hj
    cases hL : isLg w with
    | true =>
      rw [hL, if_pos rfl] at hj
      rw [if_pos rfl, if_pos rfl]
      match j, hj with
      | 0, hj => cases hj; exact List.mem_cons_self
      | 1, hj => cases hj; cases hk
      | j + 2, hj =>
        have := ih (i + 2) j v (by simpa using hj) hk
        rw [show i + 2 + j = i + (j + 2) by omega] at this
        exact List.mem_cons_of_mem _ this
    | false =>
      rw [hL, if_neg (by decide)] at hj
      rw [if_neg (by decide)]
      match j, hj with
      | 0, hj => cases hj; exact List.mem_cons_self
      | j + 1, hj =>
        have := ih (i + 1) j v (by simpa using hj) hk
        rw [show i + 1 + j = i + (j + 1) by omega] at this
        exact List.mem_cons_of_mem _ this
theorem ent_LR {base b n : Nat} {as : List Value} (hk : ∀ v ∈ as, knw v = true) (hn : (entL as).length ≤ n) : LR base b ((lg_sl (as.map (cvv base b)) ++ List.replicate (n - (lg_sl (as.map (cvv base b))).length) Slot.unset).toArray) n (padL n (entL as)) := by
  have hlen := ent_len (base := base) (b := b) as hk
  refine ⟨lv_has_of (lv_entry (as.map (cvv base b)) (by rw [hlen]; exact hn)) ?_, ?_⟩
  · rintro ⟨j, w⟩ hq
    obtain ⟨v, hv, hkv, rfl⟩ := lvl_mem.mp hq
    unfold padL at hv
    by_cases hj : j < (entL as).length
    · rw [List.getElem?_append_left hj] at hv
      have := ent_args (base := base) (b := b) as hk 0 j v hv hkv
      rwa [Nat.zero_add] at this
    · rw [List.getElem?_append_right (by omega)] at hv
      have := List.mem_of_getElem? hv
      rw [List.mem_replicate] at this
      rw [this.2] at hkv
      cases hkv
  · unfold padL
    rw [List.length_append, List.length_replicate]
    omega
theorem met_of_vx {l : Launch} {y : MethodName} {ws : List Jvm.Cond} {rm : Room} {Pc : Array Value → State → Prop} {Qc : Array Value → State → Outcome → State → Prop} {mc ms : Nat} {free : Addr → Prop} (h : vx_Met l y ws rm Pc Qc (fun _ _ _ => False) mc ms free) : Met l y ws rm Pc Qc mc ms free := by
  intro p e h1 h2 h3 s m args below h4 h5 h6 h7
  obtain ⟨n, o, k1, k2, k3, k4⟩ := h p e h1 h2 h3 s m args below h4 h5 h6 h7
  refine ⟨n, o, k1, k2, k3, ?_⟩
  rcases k4 with k4 | ⟨q, -, E, ce, L, hf, -⟩
  · exact k4
  · exact hf.elim
