/-- a piece of the code, and where the next begins -/
def chkF (o : Nat) (zr ini : Bool) (b : ByteArray) (P : List Nat) (fin : Option Nat) : List Nat → List Instr → Bool
  | [pc], [a] => chk1 o zr ini b P pc a fin
  | pc :: pc2 :: ps, a :: as => chk1 o zr ini b P pc a (some pc2) && chkF o zr ini b P fin (pc2 :: ps) as
  | _, _ => false
theorem chkA_app {o : Nat} {zr ini : Bool} {b : ByteArray} {P : List Nat} {fin : Option Nat} {ps2 : List Nat} {as2 : List Instr} (hf : ps2.head? = fin) (h2 : chkA o zr ini b P ps2 as2 = true) : ∀ (ps : List Nat) (as : List Instr), chkF o zr ini b P fin ps as = true → chkA o zr ini b P (ps ++ ps2) (as ++ as2) = true
  | [], _, h => by unfold chkF at h; cases h
  | [pc], [], h => by unfold chkF at h; cases h
  | [pc], [a], h => by
    show (chk1 o zr ini b P pc a ([] ++ ps2).head? && chkA o zr ini b P ([] ++ ps2) ([] ++ as2)) = true
    rw [List.nil_append, List.nil_append, hf, h2, Bool.and_true]
    exact h
  | [pc], a :: a2 :: as, h => by unfold chkF at h; cases h
  | pc :: pc2 :: ps, [], h => by unfold chkF at h; cases h
  | pc :: pc2 :: ps, a :: as, h => by
    have h' : (chk1 o zr ini b P pc a (some pc2) && chkF o zr ini b P fin (pc2 :: ps) as) = true := h
    rw [Bool.and_eq_true] at h'
    show (chk1 o zr ini b P pc a (some pc2) && chkA o zr ini b P ((pc2 :: ps) ++ ps2) (as ++ as2)) = true
    rw [h'.1, Bool.true_and]
    exact chkA_app hf h2 (pc2 :: ps) as h'.2
set_option maxRecDepth 100000 in
theorem lf_0 : chkF 13 true false code pp_277 (some 299) pp_277_0 cc_277_0 = true := by decide +kernel
set_option maxRecDepth 100000 in
theorem lf_1 : chkF 13 true false code pp_277 (some 448) pp_277_1 cc_277_1 = true := by decide +kernel
set_option maxRecDepth 100000 in
theorem lf_2 : chkF 13 true false code pp_277 (some 595) pp_277_2 cc_277_2 = true := by decide +kernel
set_option maxRecDepth 100000 in
theorem lf_3 : chkF 13 true false code pp_277 (some 739) pp_277_3 cc_277_3 = true := by decide +kernel
set_option maxRecDepth 100000 in
theorem lf_4 : chkF 13 true false code pp_277 (some 892) pp_277_4 cc_277_4 = true := by decide +kernel
set_option maxRecDepth 100000 in
theorem lf_5 : chkF 13 true false code pp_277 (some 1040) pp_277_5 cc_277_5 = true := by decide +kernel
set_option maxRecDepth 100000 in
theorem lf_6 : chkF 13 true false code pp_277 (some 1188) pp_277_6 cc_277_6 = true := by decide +kernel
set_option maxRecDepth 100000 in
theorem lf_7 : chkF 13 true false code pp_277 (some 1356) pp_277_7 cc_277_7 = true := by decide +kernel
set_option maxRecDepth 100000 in
theorem lf_8 : chkF 13 true false code pp_277 (some 1509) pp_277_8 cc_277_8 = true := by decide +kernel
set_option maxRecDepth 100000 in
theorem lf_9 : chkF 13 true false code pp_277 (some 1662) pp_277_9 cc_277_9 = true := by decide +kernel
set_option maxRecDepth 100000 in
theorem lf_10 : chkF 13 true false code pp_277 (some 1819) pp_277_10 cc_277_10 = true := by decide +kernel
set_option maxRecDepth 100000 in
theorem lf_11 : chkF 13 true false code pp_277 (some 1979) pp_277_11 cc_277_11 = true := by decide +kernel
set_option maxRecDepth 100000 in
theorem lf_12 : chkA 13 true false code pp_277 pp_277_12 cc_277_12 = true := by decide +kernel
theorem law_all : chkA 13 true false code pp_277 pp_277 cc_277 = true := (chkA_app rfl (chkA_app rfl (chkA_app rfl (chkA_app rfl (chkA_app rfl (chkA_app rfl (chkA_app rfl (chkA_app rfl (chkA_app rfl (chkA_app rfl (chkA_app rfl (chkA_app rfl lf_12 _ _ lf_11) _ _ lf_10) _ _ lf_9) _ _ lf_8) _ _ lf_7) _ _ lf_6) _ _ lf_5) _ _ lf_4) _ _ lf_3) _ _ lf_2) _ _ lf_1) _ _ lf_0)
