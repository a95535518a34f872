/-- a piece of the code, and where the next begins -/
def chkF (o : Nat) (zr ini : Bool) (b : ByteArray) (P : List Nat) (fin : Option Nat) : List Nat → List Instr → Bool
  | [pc], [a] => chk1 o zr ini b P pc a fin
  | pc :: pc2 :: ps, a :: as => chk1 o zr ini b P pc a (some pc2) && chkF o zr ini b P fin (pc2 :: ps) as
  | _, _ => false
theorem chkA_app {o : Nat} {zr ini : Bool} {b : ByteArray} {P : List Nat} {fin : Option Nat} {ps2 : List Nat} {as2 : List Instr} (hf : ps2.head? = fin) (h2 : chkA o zr ini b P ps2 as2 = true) : ∀ (ps : List Nat) (as : List Instr), chkF o zr ini b P fin ps as = true → chkA o zr ini b P (ps ++ ps2) (as ++ as2) = true
  | [], _, h => by unfold chkF at h; cases h
  | [pc], [], h => by unfold chkF at h; cases h
  | [pc], [a], h => by
    show (chk1 o zr ini b P pc a ([] ++ ps2).head? && chkA o zr ini b P ([] ++ ps2) ([] ++ as2)) = true
    rw [List.nil_append, List.nil_append, hf, h2, Bool.and_true]
    exact h
  | [pc], a :: a2 :: as, h => by unfold chkF at h; cases h
  | pc :: pc2 :: ps, [], h => by unfold chkF at h; cases h
  | pc :: pc2 :: ps, a :: as, h => by
    have h' : (chk1 o zr ini b P pc a (some pc2) && chkF o zr ini b P fin (pc2 :: ps) as) = true := h
    rw [Bool.and_eq_true] at h'
    show (chk1 o zr ini b P pc a (some pc2) && chkA o zr ini b P ((pc2 :: ps) ++ ps2) (as ++ as2)) = true
    rw [h'.1, Bool.true_and]
    exact chkA_app hf h2 (pc2 :: ps) as h'.2
set_option maxRecDepth 100000 in
theorem law_all : chkA 13 true false code pp_277 pp_277 cc_277 = true := by decide +kernel
