def mcd (mi : Nat) : Bool := chkA (mrow mi).2.2.2.2.2.1 (isZr (mrow mi).2.2.2.1) (decide ((mrow mi).1.name = "<init>")) (mrow mi).2.1 (ppo mi) (ppo mi) (cdL mi)
  && decide (nA mi = (mrow mi).2.2.2.2.2.2) && decide (mC mi = (mrow mi).2.2.2.2.2.1) && decide (mL mi = (mrow mi).2.2.1) && decide ((ppo mi).head? = some 0)
def mok (mi : Nat) : Bool := mwK (mrow mi) (mSt.getD mi false) (MWP.getD mi (0, 0, 0, 0)) && mcd mi
set_option maxRecDepth 100000 in
theorem mok_0 : (List.range' 0 20).all mok = true := by decide +kernel
set_option maxRecDepth 100000 in
theorem mok_20 : (List.range' 20 20).all mok = true := by decide +kernel
set_option maxRecDepth 100000 in
theorem mok_40 : (List.range' 40 20).all mok = true := by decide +kernel
set_option maxRecDepth 100000 in
theorem mok_60 : (List.range' 60 20).all mok = true := by decide +kernel
set_option maxRecDepth 100000 in
theorem mok_80 : (List.range' 80 20).all mok = true := by decide +kernel
