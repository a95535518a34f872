/-! THE LAW: ITS START -/
section STRT
variable {sc : (Nat → Int32) × Nat} {d m ip n c f a : Nat} {h : AH} {Q : Rs → AH → Prop} {ls : List Value}
theorem sgP {m' c' n : Nat} {G : AH → Nat → AH} (K900 : cdo m ip = some (.aload 0)) (K901 : cdo m (ip + 1) = some (.new c')) (K902 : cdo m (ip + 2) = some .dup) (K903 : cdo m (ip + 3) = some (.invokespecial m')) (na : nA m' = 1) (K904 : cdo m (ip + 4) = some (.putfield (100 * c + f))) (hf : f < 100) (ft : fty c f = 2) (e : ah_n h = n) (H : ∀ Q, Q (.inl none) (G (hW h c') n) → TC sc d m' [.ref n] (hW h c') Q) (ka : ah_k (G (hW h c') n) a = c) (K : TT sc d m Q (ip + 5) (.ref a :: ls) [] (ap_r (G (hW h c') n) a f (some n))) : TT sc d m Q ip (.ref a :: ls) [] h := by
  subst e
  exact sgO (G := G) K900 K901 K902 K903 na K904 hf ft H ka K
theorem n_0s : ah_n H01 = 3 ∧ ah_n H02 = 19 ∧ ah_n H03 = 23 ∧ ah_n H04 = 27 ∧ ah_n H05 = 28 ∧ ah_n H06 = 31 ∧ ah_n H07 = 43 ∧ ah_n H08 = 45 ∧ ah_n H09 = 46 ∧ ah_n H11 = 49 ∧ ah_n H12 = 69 := by decide +kernel
theorem i_0 (hq : Q (.inl none) H11) : TC sc 60 0 [.ref 0] H00 Q := by
  obtain ⟨e1, e2, e3, e4, e5, e6, e7, e8, e9, -, -⟩ := n_0s
  refine TC_e (ls := [.ref 0]) (Nat.le_of_ble_eq_true rfl) rfl (sg0 rfl rfl (sgXs L0 2 H00 iL0 (by decide +kernel) (by decide +kernel) ?_))
  show TT sc 59 0 Q 10 [.ref 0] [] H01
  refine sgP (c := 11) (f := 4) (G := hNw) rfl rfl rfl rfl rfl rfl (by decide) rfl e1 (fun Q q => (c_230 (by decide +kernel) (by decide +kernel)).mpr q) (by decide +kernel) ?_
  show TT sc 59 0 Q 15 [.ref 0] [] H02
  refine sgP (c := 11) (f := 5) (G := fun h a => hNs h a L183) rfl rfl rfl rfl rfl rfl (by decide) rfl e2 (fun Q q => i_183 (by decide +kernel) (by decide +kernel) q) (by decide +kernel) ?_
  show TT sc 59 0 Q 20 [.ref 0] [] H03
  refine sgP (c := 11) (f := 6) (G := fun h a => hNs h a L183) rfl rfl rfl rfl rfl rfl (by decide) rfl e3 (fun Q q => i_183 (by decide +kernel) (by decide +kernel) q) (by decide +kernel) ?_
  show TT sc 59 0 Q 25 [.ref 0] [] H04
  refine sgP (c := 11) (f := 7) (G := fun h _ => h) rfl rfl rfl rfl rfl rfl (by decide) rfl e4 (fun Q q => i_171 q) (by decide +kernel) ?_
  show TT sc 59 0 Q 30 [.ref 0] [] H05
  refine sgP (c := 11) (f := 8) (G := fun h a => hNs h a L197) rfl rfl rfl rfl rfl rfl (by decide) rfl e5 (fun Q q => i_197 (by decide +kernel) (by decide +kernel) q) (by decide +kernel) ?_
  show TT sc 59 0 Q 35 [.ref 0] [] H06
  refine sgP (c := 11) (f := 9) (G := fun h a => hNs h a L202) rfl rfl rfl rfl rfl rfl (by decide) rfl e6 (fun Q q => i_202 (by decide +kernel) (by decide +kernel) q) (by decide +kernel) ?_
  show TT sc 59 0 Q 40 [.ref 0] [] H07
  refine sgP (c := 11) (f := 10) (G := fun h a => hNs h a L150) rfl rfl rfl rfl rfl rfl (by decide) rfl e7 (fun Q q => i_150 (by decide +kernel) (by decide +kernel) q) (by decide +kernel) ?_
  show TT sc 59 0 Q 45 [.ref 0] [] H08
  refine s_0s (x := 31) (y := 27) (z := 43) (by decide +kernel) (by decide +kernel) (by decide +kernel) (by decide +kernel) (by decide +kernel) ?_
  rw [e8]
  show TT sc 59 0 Q 56 [.ref 0] [] H09
  refine sgP (c := 11) (f := 12) (G := fun h a => hNs h a L177) rfl rfl rfl rfl rfl rfl (by decide) rfl e9 (fun Q q => i_177 (by decide +kernel) (by decide +kernel) q) (by decide +kernel) ?_
  show TT sc 59 0 Q 61 [.ref 0] [] H10
  exact s_0e (by decide +kernel) hq
theorem i_law (hL : sc.2 ≤ 2560) : TC sc 61 277 [scr] AH0 (fun r h' => r = .inl (some (.int (nI 1))) ∧ ah_n h' ≤ 681799 ∧ ah_u h' ≤ 7050707) := by
  obtain ⟨-, -, -, -, -, -, -, -, -, e1, e2⟩ := n_0s
  refine TC_e (ls := [scr, unk, unk, unk, unk, unk, unk, unk]) (Nat.le_of_ble_eq_true rfl) rfl ?_
  refine TT_step (a := .new 11) rfl ?_
  show TT sc 60 277 _ 1 [scr, unk, unk, unk, unk, unk, unk, unk] [.ref 0] H00
  refine TT_step (a := .dup) rfl ⟨rfl, rfl, ?_⟩
  refine TT_step (a := .invokespecial 0) rfl ?_
  rw [s_invokespecial, show nA 0 = 1 from rfl]
  refine ⟨rfl, ?_⟩
  refine ⟨Nat.le_of_ble_eq_true rfl, ?_⟩
  refine i_0 ?_
  show TT sc 60 277 _ 3 [scr, unk, unk, unk, unk, unk, unk, unk] [.ref 0] H11
  refine TT_step (a := .astore 1) rfl ⟨Nat.le_of_ble_eq_true rfl, ?_⟩
  show TT sc 60 277 _ 4 [scr, .ref 0, unk, unk, unk, unk, unk, unk] [] H11
  refine TT_step (a := .new 12) rfl ?_
  show TT sc 60 277 _ 5 [scr, .ref 0, unk, unk, unk, unk, unk, unk] [.ref (ah_n H11)] (hW H11 12)
  rw [e1]
  refine TT_step (a := .dup) rfl ⟨rfl, rfl, ?_⟩
  refine TT_step (a := .invokespecial 59) rfl ?_
  rw [s_invokespecial, show nA 59 = 1 from rfl]
  refine ⟨rfl, ?_⟩
  refine ⟨Nat.le_of_ble_eq_true rfl, ?_⟩
  refine i_59 (b := 51) (by decide +kernel) (by decide +kernel) (by decide +kernel) (by decide +kernel) (by decide +kernel) ?_
  show TT sc 60 277 _ 7 [scr, .ref 0, unk, unk, unk, unk, unk, unk] [.ref 49] H12
  refine TT_step (a := .astore 2) rfl ⟨Nat.le_of_ble_eq_true rfl, ?_⟩
  show TT sc 60 277 _ 8 [scr, .ref 0, .ref 49, unk, unk, unk, unk, unk] [] H12
  refine TT_step (a := .iconst 1) rfl ?_
  refine TT_step (a := .newarray .long) rfl ⟨by decide, by decide, by decide, ?_⟩
  show TT sc 60 277 _ 10 [scr, .ref 0, .ref 49, unk, unk, unk, unk, unk] [.ref (ah_n H12)] H13
  rw [e2]
  refine TT_step (a := .astore 3) rfl ⟨Nat.le_of_ble_eq_true rfl, ?_⟩
  show TT sc 60 277 _ 11 [scr, .ref 0, .ref 49, .ref 69, unk, unk, unk, unk] [] H13
  refine TT_step (a := .iconst 0) rfl ?_
  refine TT_step (a := .istore 4) rfl ⟨Nat.le_of_ble_eq_true rfl, ?_⟩
  show TT sc 60 277 _ 13 [scr, .ref 0, .ref 49, .ref 69, .int (nI 0), unk, unk, unk] [] H13
  obtain ⟨n1, n2⟩ := n_13
  refine lp hL sc.2 0 H13 unk unk unk (by omega) (Nat.zero_le _) inva0 fun h2 a b => ⟨rfl, ?_, ?_⟩
  · omega
  · omega
end STRT
