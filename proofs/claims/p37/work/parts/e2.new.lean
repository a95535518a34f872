/-! THE LAW: ITS START -/
section STRT
variable {sc : (Nat → Int32) × Nat} {d m ip n c f a : Nat} {h : AH} {Q : Rs → AH → Prop} {ls : List Value}
theorem sgP {m' c' n : Nat} {G : AH → Nat → AH} (K900 : cdo m ip = some (.aload 0)) (K901 : cdo m (ip + 1) = some (.new c')) (K902 : cdo m (ip + 2) = some .dup) (K903 : cdo m (ip + 3) = some (.invokespecial m')) (na : nA m' = 1) (K904 : cdo m (ip + 4) = some (.putfield (100 * c + f))) (hf : f < 100) (ft : fty c f = 2) (e : ah_n h = n) (H : ∀ Q, Q (.inl none) (G (hW h c') n) → TC sc d m' [.ref n] (hW h c') Q) (ka : ah_k (G (hW h c') n) a = c) (K : TT sc d m Q (ip + 5) (.ref a :: ls) [] (ap_r (G (hW h c') n) a f (some n))) : TT sc d m Q ip (.ref a :: ls) [] h := by
  subst e
  exact sgO (G := G) K900 K901 K902 K903 na K904 hf ft H ka K
theorem n_0s : ah_n H01 = 3 ∧ ah_n H02 = 19 ∧ ah_n H03 = 23 ∧ ah_n H04 = 27 ∧ ah_n H05 = 28 ∧ ah_n H06 = 31 ∧ ah_n H07 = 43 ∧ ah_n H08 = 45 ∧ ah_n H09 = 46 ∧ ah_n H11 = 49 := by decide +kernel
theorem i_0 (hq : Q (.inl none) H11) : TC sc 60 0 [.ref 0] H00 Q := by
  obtain ⟨e1, e2, e3, e4, e5, e6, e7, e8, e9, -⟩ := n_0s
  refine TC_e (ls := [.ref 0]) (Nat.le_of_ble_eq_true rfl) rfl (sg0 rfl rfl (sgXs L0 2 H00 iL0 (by decide +kernel) (by decide +kernel) ?_))
  show TT sc 59 0 Q 10 [.ref 0] [] H01
  refine sgP (c := 11) (f := 4) (G := hNw) rfl rfl rfl rfl rfl rfl (by decide) rfl e1 (fun Q q => (c_230 (by decide +kernel) (by decide +kernel)).mpr q) (by decide +kernel) ?_
  show TT sc 59 0 Q 15 [.ref 0] [] H02
  refine sgP (c := 11) (f := 5) (G := fun h a => hNs h a L183) rfl rfl rfl rfl rfl rfl (by decide) rfl e2 (fun Q q => i_183 (by decide +kernel) (by decide +kernel) q) (by decide +kernel) ?_
  show TT sc 59 0 Q 20 [.ref 0] [] H03
  refine sgP (c := 11) (f := 6) (G := fun h a => hNs h a L183) rfl rfl rfl rfl rfl rfl (by decide) rfl e3 (fun Q q => i_183 (by decide +kernel) (by decide +kernel) q) (by decide +kernel) ?_
  show TT sc 59 0 Q 25 [.ref 0] [] H04
  refine sgP (c := 11) (f := 7) (G := fun h _ => h) rfl rfl rfl rfl rfl rfl (by decide) rfl e4 (fun Q q => i_171 q) (by decide +kernel) ?_
  show TT sc 59 0 Q 30 [.ref 0] [] H05
  refine sgP (c := 11) (f := 8) (G := fun h a => hNs h a L197) rfl rfl rfl rfl rfl rfl (by decide) rfl e5 (fun Q q => i_197 (by decide +kernel) (by decide +kernel) q) (by decide +kernel) ?_
  show TT sc 59 0 Q 35 [.ref 0] [] H06
  refine sgP (c := 11) (f := 9) (G := fun h a => hNs h a L202) rfl rfl rfl rfl rfl rfl (by decide) rfl e6 (fun Q q => i_202 (by decide +kernel) (by decide +kernel) q) (by decide +kernel) ?_
  show TT sc 59 0 Q 40 [.ref 0] [] H07
  refine sgP (c := 11) (f := 10) (G := fun h a => hNs h a L150) rfl rfl rfl rfl rfl rfl (by decide) rfl e7 (fun Q q => i_150 (by decide +kernel) (by decide +kernel) q) (by decide +kernel) ?_
  show TT sc 59 0 Q 45 [.ref 0] [] H08
  refine s_0s (x := 31) (y := 27) (z := 43) (by decide +kernel) (by decide +kernel) (by decide +kernel) (by decide +kernel) (by decide +kernel) ?_
  rw [e8]
  show TT sc 59 0 Q 56 [.ref 0] [] H09
  refine sgP (c := 11) (f := 12) (G := fun h a => hNs h a L177) rfl rfl rfl rfl rfl rfl (by decide) rfl e9 (fun Q q => i_177 (by decide +kernel) (by decide +kernel) q) (by decide +kernel) ?_
  show TT sc 59 0 Q 61 [.ref 0] [] H10
  exact s_0e (by decide +kernel) hq
end STRT

/-! A NEW OBJECT, WHEREVER -/
section AGS
variable {N : Nat} {h h' : AH}
theorem AG_r (g : AG N h h') {a : Nat} (ha : N ≤ a) (k : Nat) (v : Option Nat) : AG N h (ap_r h' a k v) := fun b hb => by
  obtain ⟨g1, g2, g3⟩ := g b hb
  refine ⟨by rw [ak_r]; exact g1, by rw [az_r]; exact g2, fun j => ⟨by rw [ai_r]; exact (g3 j).1, by rw [al_r]; exact (g3 j).2.1, ?_⟩⟩
  show (if b = a ∧ j = k then v else ah_r h' b j) = _
  rw [if_neg fun z => by omega]
  exact (g3 j).2.2
theorem AG_i (g : AG N h h') {a : Nat} (ha : N ≤ a) (k : Nat) (v : Int32) : AG N h (ap_i h' a k v) := fun b hb => by
  obtain ⟨g1, g2, g3⟩ := g b hb
  refine ⟨by rw [ak_i]; exact g1, by rw [az_i]; exact g2, fun j => ⟨?_, by rw [al_i]; exact (g3 j).2.1, by rw [ar_i]; exact (g3 j).2.2⟩⟩
  rw [ai_i, if_neg fun z => by omega]
  exact (g3 j).1
theorem AG_Ns {a : Nat} (ha : N ≤ a) : ∀ (l : List (Nat × Nat × Nat)) (h' : AH), AG N h h' → N ≤ ah_n h' → AG N h (hNs h' a l) ∧ N ≤ ah_n (hNs h' a l)
  | [], _, g, n => ⟨g, n⟩
  | x :: l, h', g, n => AG_Ns ha l (hN h' a x.1 x.2.1 x.2.2) (AG_r (g.n n _ _ _) ha _ _) (Nat.le_succ_of_le n)
end AGS
theorem ag_13 : AG 49 H11 H13 := by
  have n0 : 49 ≤ ah_n H11 := Nat.le_of_ble_eq_true rfl
  have a1 : AG 49 H11 (hW H11 12) := (AG.refl 49 H11).n n0 _ _ _
  obtain ⟨a2, n2⟩ := AG_Ns (a := 49) (Nat.le_refl _) L59a _ a1 (Nat.le_succ_of_le n0)
  obtain ⟨a3, n3⟩ := AG_Ns (a := 49) (Nat.le_refl _) L59b _ (AG_i a2 (Nat.le_refl _) 28 (-1)) n2
  have a4 : AG 49 H11 H12 := AG_i (AG_i (AG_i (AG_i a3 (a := 51) (by omega) 45 (-1)) (by omega) 47 (-1)) (by omega) 49 (-1)) (by omega) 51 (-1)
  exact a4.n n3 _ _ _
theorem EMB_ag {D : Nat → Prop} {r : Nat → Nat} {h h' H : AH} {N : Nat} (e : EMB D r h H) (g : AG N h h') (hD : ∀ a, D a → a < N) (n : N ≤ ah_n h') : EMB D r h' H := by
  refine ⟨fun a da => ?_, e.2⟩
  obtain ⟨e1, e2, e3, e4, e5⟩ := e.1 a da
  obtain ⟨g1, g2, g3⟩ := g a (hD a da)
  have := hD a da
  refine ⟨by omega, e2, e3.trans g1.symm, e4.trans g2.symm, fun j => ⟨(e5 j).1.trans (g3 j).1.symm, (e5 j).2.1.trans (g3 j).2.1.symm, by rw [(g3 j).2.2]; exact (e5 j).2.2.1, fun c hc => (e5 j).2.2.2 c (by rw [← (g3 j).2.2]; exact hc)⟩⟩
theorem new_obj {sc : (Nat → Int32) × Nat} {H : AH} {Q : Rs → AH → Prop} (hq : ∀ H' D r, EMB D r H13 H' → D 0 → r 0 = ah_n H → (∀ a, D a → ah_n H ≤ r a) → KEEP (fun _ => False) id H H' → ah_n H' = ah_n H + 49 → ah_u H' ≤ ah_u H + 100000 → Q (.inl none) H') : TC sc 63 0 [.ref (ah_n H)] (hW H 11) Q := by
  have e0 : EMB (fun _ => False) id AH0 H := ⟨fun _ z => z.elim, fun _ _ z => z.elim⟩
  obtain ⟨e1, x1⟩ := EMB_n e0 11 0 (nfl 11)
  have i0 : TC sc 60 0 [.ref 0] H00 (fun q h' => q = .inl none ∧ h' = H11) := i_0 ⟨rfl, rfl⟩
  have T := TC_emb i0 e1 (lDc (vDr (Or.inr rfl)) lDn)
  refine TC_up 3 (TC_mono T ?_)
  rintro q' H' ⟨D, r, q, h', x2, e2, -, rfl, rfl, rfl⟩
  have x := EXT_trans x1 x2
  have n11 : ah_n H11 = 49 := n_0s.2.2.2.2.2.2.2.2.2
  have n00 : ah_n AH0 = 0 := rfl
  have u00 : ah_u AH0 = 0 := rfl
  have nu := n_13
  have xn := x.2.2.2.1
  have xu := x.2.2.2.2.1
  refine hq H' D r (EMB_ag e2 ag_13 (fun a da => by have := (e2.1 a da).1; omega) (by rw [nu.1]; decide)) (x2.1 0 (Or.inr rfl)).1 ((x2.1 0 (Or.inr rfl)).2.trans rfl) (fun a da => (x.2.1 a da).elim (fun z => z.elim) id) x.2.2.2.2.2 (by omega) (by omega)
