/-! the law's own methods -/
/-- a piece of the code, and where the next begins -/
def chkF (o : Nat) (zr ini : Bool) (b : ByteArray) (P : List Nat) (fin : Option Nat) : List Nat → List Instr → Bool
  | [pc], [a] => chk1 o zr ini b P pc a fin
  | pc :: pc2 :: ps, a :: as => chk1 o zr ini b P pc a (some pc2) && chkF o zr ini b P fin (pc2 :: ps) as
  | _, _ => false
theorem chkA_app {o : Nat} {zr ini : Bool} {b : ByteArray} {P : List Nat} {fin : Option Nat} {ps2 : List Nat} {as2 : List Instr} (hf : ps2.head? = fin) (h2 : chkA o zr ini b P ps2 as2 = true) : ∀ (ps : List Nat) (as : List Instr), chkF o zr ini b P fin ps as = true → chkA o zr ini b P (ps ++ ps2) (as ++ as2) = true
  | [], _, h => by unfold chkF at h; cases h
  | [pc], [], h => by unfold chkF at h; cases h
  | [pc], [a], h => by
    show (chk1 o zr ini b P pc a ([] ++ ps2).head? && chkA o zr ini b P ([] ++ ps2) ([] ++ as2)) = true
    rw [List.nil_append, List.nil_append, hf, h2, Bool.and_true]
    exact h
  | [pc], a :: a2 :: as, h => by unfold chkF at h; cases h
  | pc :: pc2 :: ps, [], h => by unfold chkF at h; cases h
  | pc :: pc2 :: ps, a :: as, h => by
    have h' : (chk1 o zr ini b P pc a (some pc2) && chkF o zr ini b P fin (pc2 :: ps) as) = true := h
    rw [Bool.and_eq_true] at h'
    show (chk1 o zr ini b P pc a (some pc2) && chkA o zr ini b P ((pc2 :: ps) ++ ps2) (as ++ as2)) = true
    rw [h'.1, Bool.true_and]
    exact chkA_app hf h2 (pc2 :: ps) as h'.2
set_option maxRecDepth 100000 in
theorem l266_0 : chkF 13 false false cL_act pp_266 (some 257) pp_266_0 cc_266_0 = true := by decide +kernel
set_option maxRecDepth 100000 in
theorem l266_1 : chkF 13 false false cL_act pp_266 (some 420) pp_266_1 cc_266_1 = true := by decide +kernel
set_option maxRecDepth 100000 in
theorem l266_2 : chkA 13 false false cL_act pp_266 pp_266_2 cc_266_2 = true := by decide +kernel
theorem c266_c : chkA 13 false false cL_act pp_266 pp_266 cc_266 = true := (chkA_app rfl (chkA_app rfl l266_2 _ _ l266_1) _ _ l266_0)
set_option maxRecDepth 100000 in
theorem mcd_266 : mcd 266 = true := by
  have e : mcd 266 = (chkA 13 false false cL_act pp_266 pp_266 cc_266 && decide (nA 266 = (mrow 266).2.2.2.2.2.2) && decide (mC 266 = (mrow 266).2.2.2.2.2.1) && decide (mL 266 = (mrow 266).2.2.1) && decide ((ppo 266).head? = some 0)) := rfl
  rw [e, c266_c]
  decide +kernel
set_option maxRecDepth 100000 in
theorem mwk_266 : mwK (mrow 266) (mSt.getD 266 false) (MWP.getD 266 (0, 0, 0, 0)) = true := by decide +kernel
theorem mok_266 : (List.range' 266 1).all mok = true := by
  have h : mok 266 = true := by
    unfold mok
    rw [mwk_266, mcd_266]
    rfl
  show (mok 266 && true) = true
  rw [h]
  rfl
set_option maxRecDepth 100000 in
theorem l268_0 : chkF 13 true false cL_areAnswersSo pp_268 (some 189) pp_268_0 cc_268_0 = true := by decide +kernel
set_option maxRecDepth 100000 in
theorem l268_1 : chkF 13 true false cL_areAnswersSo pp_268 (some 381) pp_268_1 cc_268_1 = true := by decide +kernel
set_option maxRecDepth 100000 in
theorem l268_2 : chkA 13 true false cL_areAnswersSo pp_268 pp_268_2 cc_268_2 = true := by decide +kernel
theorem c268_c : chkA 13 true false cL_areAnswersSo pp_268 pp_268 cc_268 = true := (chkA_app rfl (chkA_app rfl l268_2 _ _ l268_1) _ _ l268_0)
set_option maxRecDepth 100000 in
theorem mcd_268 : mcd 268 = true := by
  have e : mcd 268 = (chkA 13 true false cL_areAnswersSo pp_268 pp_268 cc_268 && decide (nA 268 = (mrow 268).2.2.2.2.2.2) && decide (mC 268 = (mrow 268).2.2.2.2.2.1) && decide (mL 268 = (mrow 268).2.2.1) && decide ((ppo 268).head? = some 0)) := rfl
  rw [e, c268_c]
  decide +kernel
set_option maxRecDepth 100000 in
theorem mwk_268 : mwK (mrow 268) (mSt.getD 268 false) (MWP.getD 268 (0, 0, 0, 0)) = true := by decide +kernel
theorem mok_268 : (List.range' 268 1).all mok = true := by
  have h : mok 268 = true := by
    unfold mok
    rw [mwk_268, mcd_268]
    rfl
  show (mok 268 && true) = true
  rw [h]
  rfl
set_option maxRecDepth 100000 in
theorem mok_260 : (List.range' 260 6).all mok = true := by decide +kernel
set_option maxRecDepth 100000 in
theorem mok_267 : (List.range' 267 1).all mok = true := by decide +kernel
set_option maxRecDepth 100000 in
theorem mok_269 : (List.range' 269 8).all mok = true := by decide +kernel
set_option maxRecDepth 100000 in
theorem mok_278 : (List.range' 278 3).all mok = true := by decide +kernel
theorem mok_in {a l mi : Nat} (h : (List.range' a l).all mok = true) (h1 : a ≤ mi) (h2 : mi < a + l) : mok mi = true := List.all_eq_true.mp h mi (List.mem_range'_1.mpr ⟨h1, h2⟩)
theorem mok_at {mi : Nat} (h : mi < 281) (hn : mi ≠ LAWN) : mok mi = true := by
  have hn : mi ≠ 277 := hn
  by_cases g0 : mi < 20
  · exact mok_in mok_0 (by omega) (by omega)
  by_cases g20 : mi < 40
  · exact mok_in mok_20 (by omega) (by omega)
  by_cases g40 : mi < 60
  · exact mok_in mok_40 (by omega) (by omega)
  by_cases g60 : mi < 80
  · exact mok_in mok_60 (by omega) (by omega)
  by_cases g80 : mi < 100
  · exact mok_in mok_80 (by omega) (by omega)
  by_cases g100 : mi < 120
  · exact mok_in mok_100 (by omega) (by omega)
  by_cases g120 : mi < 140
  · exact mok_in mok_120 (by omega) (by omega)
  by_cases g140 : mi < 160
  · exact mok_in mok_140 (by omega) (by omega)
  by_cases g160 : mi < 180
  · exact mok_in mok_160 (by omega) (by omega)
  by_cases g180 : mi < 200
  · exact mok_in mok_180 (by omega) (by omega)
  by_cases g200 : mi < 220
  · exact mok_in mok_200 (by omega) (by omega)
  by_cases g220 : mi < 240
  · exact mok_in mok_220 (by omega) (by omega)
  by_cases g240 : mi < 260
  · exact mok_in mok_240 (by omega) (by omega)
  by_cases g260 : mi < 266
  · exact mok_in mok_260 (by omega) (by omega)
  by_cases g266 : mi < 267
  · exact mok_in mok_266 (by omega) (by omega)
  by_cases g267 : mi < 268
  · exact mok_in mok_267 (by omega) (by omega)
  by_cases g268 : mi < 269
  · exact mok_in mok_268 (by omega) (by omega)
  by_cases g269 : mi < 277
  · exact mok_in mok_269 (by omega) (by omega)
  by_cases g278 : mi < 281
  · exact mok_in mok_278 (by omega) (by omega)
  omega
