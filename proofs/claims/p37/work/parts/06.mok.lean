def mcd (mi : Nat) : Bool := chkA (mrow mi).2.2.2.2.2.1 (isZr (mrow mi).2.2.2.1) (decide ((mrow mi).1.name = "<init>")) (mrow mi).2.1 (ppo mi) (ppo mi) (cdL mi)
  && decide (nA mi = (mrow mi).2.2.2.2.2.2) && decide (mC mi = (mrow mi).2.2.2.2.2.1) && decide (mL mi = (mrow mi).2.2.1) && decide ((ppo mi).head? = some 0)
def mok (mi : Nat) : Bool := mwK (mrow mi) (mSt.getD mi false) (MWP.getD mi (0, 0, 0, 0)) && mcd mi
set_option maxRecDepth 100000 in
theorem mok_0 : (List.range' 0 20).all mok = true := by decide +kernel
set_option maxRecDepth 100000 in
theorem mok_20 : (List.range' 20 20).all mok = true := by decide +kernel
set_option maxRecDepth 100000 in
theorem mok_40 : (List.range' 40 20).all mok = true := by decide +kernel
set_option maxRecDepth 100000 in
theorem mok_60 : (List.range' 60 20).all mok = true := by decide +kernel
set_option maxRecDepth 100000 in
theorem mok_80 : (List.range' 80 20).all mok = true := by decide +kernel
set_option maxRecDepth 100000 in
theorem mok_100 : (List.range' 100 20).all mok = true := by decide +kernel
set_option maxRecDepth 100000 in
theorem mok_120 : (List.range' 120 20).all mok = true := by decide +kernel
set_option maxRecDepth 100000 in
theorem mok_140 : (List.range' 140 20).all mok = true := by decide +kernel
set_option maxRecDepth 100000 in
theorem mok_160 : (List.range' 160 20).all mok = true := by decide +kernel
set_option maxRecDepth 100000 in
theorem mok_180 : (List.range' 180 20).all mok = true := by decide +kernel
set_option maxRecDepth 100000 in
theorem mok_200 : (List.range' 200 20).all mok = true := by decide +kernel
set_option maxRecDepth 100000 in
theorem mok_220 : (List.range' 220 20).all mok = true := by decide +kernel
set_option maxRecDepth 100000 in
theorem mok_240 : (List.range' 240 20).all mok = true := by decide +kernel
set_option maxRecDepth 100000 in
theorem mok_260 : (List.range' 260 17).all mok = true := by decide +kernel
set_option maxRecDepth 100000 in
theorem mok_278 : (List.range' 278 3).all mok = true := by decide +kernel
theorem mok_in {a l mi : Nat} (h : (List.range' a l).all mok = true) (h1 : a ≤ mi) (h2 : mi < a + l) : mok mi = true := List.all_eq_true.mp h mi (List.mem_range'_1.mpr ⟨h1, h2⟩)
theorem mok_at {mi : Nat} (h : mi < 281) (hn : mi ≠ LAWN) : mok mi = true := by
  have hn : mi ≠ 277 := hn
  by_cases g0 : mi < 20
  · exact mok_in mok_0 (by omega) (by omega)
  by_cases g20 : mi < 40
  · exact mok_in mok_20 (by omega) (by omega)
  by_cases g40 : mi < 60
  · exact mok_in mok_40 (by omega) (by omega)
  by_cases g60 : mi < 80
  · exact mok_in mok_60 (by omega) (by omega)
  by_cases g80 : mi < 100
  · exact mok_in mok_80 (by omega) (by omega)
  by_cases g100 : mi < 120
  · exact mok_in mok_100 (by omega) (by omega)
  by_cases g120 : mi < 140
  · exact mok_in mok_120 (by omega) (by omega)
  by_cases g140 : mi < 160
  · exact mok_in mok_140 (by omega) (by omega)
  by_cases g160 : mi < 180
  · exact mok_in mok_160 (by omega) (by omega)
  by_cases g180 : mi < 200
  · exact mok_in mok_180 (by omega) (by omega)
  by_cases g200 : mi < 220
  · exact mok_in mok_200 (by omega) (by omega)
  by_cases g220 : mi < 240
  · exact mok_in mok_220 (by omega) (by omega)
  by_cases g240 : mi < 260
  · exact mok_in mok_240 (by omega) (by omega)
  by_cases g260 : mi < 277
  · exact mok_in mok_260 (by omega) (by omega)
  by_cases g278 : mi < 281
  · exact mok_in mok_278 (by omega) (by omega)
  omega
