/-! EMBEDDINGS: runs -/
def RES (D : Nat → Prop) (r : Nat → Nat) (h H : AH) (q : Rs) (h' : AH) (P : Rs → AH → Prop) : Prop := ∃ D' r' H', EXT D r h H D' r' h' H' ∧ EMB D' r' h' H' ∧ rD D' q ∧ P (rm r' q) H'
section RUNE
variable {nA mC : Nat → Nat} {fty : Nat → Nat → Nat} {nfl : Nat → Nat} {sc : (Nat → Int32) × Nat} {mT : Nat → Bool}
section SRS
variable {cd : Nat → Option Instr} {hd : Nat → Nat → Option (Nat × Nat)} {C C' : Nat → List Value → AH → Rs → AH → Prop}
theorem SR_sim (hC : ∀ mi as h q h1 D r H, EMB D r h H → lD D as → C mi as h q h1 → RES D r h H q h1 (C' mi (as.map (vm r)) H)) : ∀ (n ip : Nat) (ls st : List Value) (h : AH) (q : Rs) (h' : AH) (D : Nat → Prop) (r : Nat → Nat) (H : AH), EMB D r h H → lD D ls → lD D st → SR nA mC fty nfl sc mT cd hd C n ip ls st h q h' → RES D r h H q h' (SR nA mC fty nfl sc mT cd hd C' n ip (ls.map (vm r)) (st.map (vm r)) H)
  | 0, _, _, _, _, _, _, _, _, _, _, _, _, K => K.elim
  | n + 1, ip, ls, st, h, q, h', D, r, H, e, hl, hs, K => by
    obtain ⟨i, hi, K⟩ := K
    have S := stp_sim i ip ls st e hl hs _ _ _ K
    rcases stp_lin (nA := nA) (mC := mC) (fty := fty) (nfl := nfl) (sc := sc) i ip (ls.map (vm r)) (st.map (vm r)) H with ⟨a, b, c, d, g⟩ | ⟨a, b, c, g⟩ | ⟨a, b, g⟩ | g
    · obtain ⟨D1, r1, ls1, st1', h1, x1, e1, l1, s1, el, es, k⟩ := (g _ _ _).mp S
      obtain ⟨D2, r2, H2, x2, e2, d2, k2⟩ := SR_sim hC n _ _ _ _ _ _ _ _ _ e1 l1 s1 k
      refine ⟨D2, r2, H2, EXT_trans x1 x2, e2, d2, i, hi, (g _ _ _).mpr ?_⟩
      rw [el, es]
      exact k2
    · obtain ⟨as, rest, l1, l2, ea, er, q1, h1, c1, k⟩ := (g _ _ _).mp S
      obtain ⟨D1, r1, H1, x1, e1, d1, c2⟩ := hC _ _ _ _ _ _ _ _ e l1 c1
      have m1 := lDm x1.1 hl
      have m2 := lDm x1.1 l2
      cases q1 with
      | inl v =>
        have k : SR nA mC fty nfl sc mT cd hd C n (ip + 1) ls (v.toList ++ rest) h1 q h' := k
        have dv : lD D1 v.toList := fun w z => by
          cases v with
          | none => cases z
          | some v =>
            rw [List.mem_singleton.mp z]
            exact d1 v rfl
        obtain ⟨D2, r2, H2, x2, e2, d2, k2⟩ := SR_sim hC n _ _ _ _ _ _ _ _ _ e1 m1.1 (lDa dv m2.1) k
        refine ⟨D2, r2, H2, EXT_trans x1 x2, e2, d2, i, hi, (g _ _ _).mpr ⟨rm r1 (.inl v), H1, by rw [ea]; exact c2, ?_⟩⟩
        show SR nA mC fty nfl sc mT cd hd C' n (ip + 1) (ls.map (vm r)) ((v.map (vm r1)).toList ++ c) H1 (rm r2 q) H2
        rw [m1.2, List.map_append, m2.2] at k2
        rw [er, show (v.map (vm r1)).toList = v.toList.map (vm r1) by cases v <;> rfl]
        exact k2
      | inr E =>
        have k : (mT a = true ∧ E < 3) ∧ (match hd ip E with
          | some (t, k) => k < ls.length ∧ SR nA mC fty nfl sc mT cd hd C n t (st1 ls k unk) [] h1 q h'
          | none => q = .inr E ∧ h' = h1) := k
        obtain ⟨q5, q6⟩ := k
        cases hX : hd ip E with
        | none =>
          rw [hX] at q6
          obtain ⟨rfl, rfl⟩ := q6
          refine ⟨D1, r1, H1, x1, e1, d1, i, hi, (g _ _ _).mpr ⟨.inr E, H1, by rw [ea]; exact c2, q5, ?_⟩⟩
          rw [hX]
          exact ⟨rfl, rfl⟩
        | some tk =>
          obtain ⟨t, kk⟩ := tk
          rw [hX] at q6
          obtain ⟨q7, q8⟩ := q6
          obtain ⟨D2, r2, H2, x2, e2, d2, k2⟩ := SR_sim hC n _ _ _ _ _ _ _ _ _ e1 (lD1 m1.1 vDu kk) lDn q8
          refine ⟨D2, r2, H2, EXT_trans x1 x2, e2, d2, i, hi, (g _ _ _).mpr ⟨.inr E, H1, by rw [ea]; exact c2, q5, ?_⟩⟩
          rw [hX]
          refine ⟨by rw [List.length_map]; exact q7, ?_⟩
          rw [st1_vm, m1.2] at k2
          exact k2
    · obtain ⟨D1, r1, q1, h1, x1, e1, d1, eq, rfl, rfl⟩ := (g _ _ _).mp S
      exact ⟨D1, r1, b, x1, e1, d1, i, hi, (g _ _ _).mpr ⟨eq.symm, rfl⟩⟩
    · exact (g _ _ _ S).elim
end SRS
variable {mL : Nat → Nat} {cdo : Nat → Nat → Option Instr} {hdo : Nat → Nat → Nat → Option (Nat × Nat)}
theorem Rn_sim : ∀ (d mi : Nat) (as : List Value) (h : AH) (q : Rs) (h' : AH) (D : Nat → Prop) (r : Nat → Nat) (H : AH), EMB D r h H → lD D as → Rn nA mC fty nfl sc mT mL cdo hdo d mi as h q h' → RES D r h H q h' (Rn nA mC fty nfl sc mT mL cdo hdo d mi (as.map (vm r)) H)
  | 0, _, _, _, _, _, _, _, _, _, _, K => K.elim
  | d + 1, mi, as, h, q, h', D, r, H, e, ha, K => by
    obtain ⟨z, n, K⟩ := K
    obtain ⟨D2, r2, H2, x2, e2, d2, k2⟩ := SR_sim (C' := Rn nA mC fty nfl sc mT mL cdo hdo d) (fun mi as h q h1 D r H a b c => Rn_sim d mi as h q h1 D r H a b c) n _ _ _ _ _ _ _ _ _ e (lDp (lDe ha) _) lDn K
    refine ⟨D2, r2, H2, x2, e2, d2, ?_, n, ?_⟩
    · rw [← entL_vm, List.length_map]; exact z
    · rw [padL_vm, entL_vm] at k2
      exact k2
end RUNE
/-- a call of an object, wherever it lies -/
theorem TC_emb {sc : (Nat → Int32) × Nat} {d mi : Nat} {as : List Value} {h H : AH} {D : Nat → Prop} {r : Nat → Nat} {Q : Rs → AH → Prop} (T : TC sc d mi as h Q) (e : EMB D r h H) (ha : lD D as) : TC sc d mi (as.map (vm r)) H (fun q' H' => ∃ D' r' q h', EXT D r h H D' r' h' H' ∧ EMB D' r' h' H' ∧ rD D' q ∧ q' = rm r' q ∧ Q q h') := by
  obtain ⟨q, h', R, k⟩ := T
  obtain ⟨D2, r2, H2, x2, e2, d2, k2⟩ := Rn_sim _ _ _ _ _ _ _ _ _ e ha R
  exact ⟨rm r2 q, H2, k2, D2, r2, q, h', x2, e2, d2, rfl, k⟩
