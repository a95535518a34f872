def lck (ip : Nat) : Bool := match (ppo LAWN)[ip]?, (cdL LAWN)[ip]? with
  | some pc, some a => chk1 13 true false code (ppo LAWN) pc a (ppo LAWN)[ip + 1]?
  | _, _ => false
set_option maxRecDepth 100000 in
theorem lck_0 : (List.range' 0 25).all lck = true := by decide +kernel
set_option maxRecDepth 100000 in
theorem lck_25 : (List.range' 25 25).all lck = true := by decide +kernel
set_option maxRecDepth 100000 in
theorem lck_50 : (List.range' 50 25).all lck = true := by decide +kernel
set_option maxRecDepth 100000 in
theorem lck_75 : (List.range' 75 25).all lck = true := by decide +kernel
set_option maxRecDepth 100000 in
theorem lck_100 : (List.range' 100 25).all lck = true := by decide +kernel
set_option maxRecDepth 100000 in
theorem lck_125 : (List.range' 125 25).all lck = true := by decide +kernel
set_option maxRecDepth 100000 in
theorem lck_150 : (List.range' 150 25).all lck = true := by decide +kernel
set_option maxRecDepth 100000 in
theorem lck_175 : (List.range' 175 25).all lck = true := by decide +kernel
set_option maxRecDepth 100000 in
theorem lck_200 : (List.range' 200 25).all lck = true := by decide +kernel
set_option maxRecDepth 100000 in
theorem lck_225 : (List.range' 225 25).all lck = true := by decide +kernel
set_option maxRecDepth 100000 in
theorem lck_250 : (List.range' 250 25).all lck = true := by decide +kernel
set_option maxRecDepth 100000 in
theorem lck_275 : (List.range' 275 25).all lck = true := by decide +kernel
set_option maxRecDepth 100000 in
theorem lck_300 : (List.range' 300 25).all lck = true := by decide +kernel
set_option maxRecDepth 100000 in
theorem lck_325 : (List.range' 325 25).all lck = true := by decide +kernel
set_option maxRecDepth 100000 in
theorem lck_350 : (List.range' 350 25).all lck = true := by decide +kernel
set_option maxRecDepth 100000 in
theorem lck_375 : (List.range' 375 25).all lck = true := by decide +kernel
set_option maxRecDepth 100000 in
theorem lck_400 : (List.range' 400 25).all lck = true := by decide +kernel
set_option maxRecDepth 100000 in
theorem lck_425 : (List.range' 425 25).all lck = true := by decide +kernel
set_option maxRecDepth 100000 in
theorem lck_450 : (List.range' 450 25).all lck = true := by decide +kernel
set_option maxRecDepth 100000 in
theorem lck_475 : (List.range' 475 25).all lck = true := by decide +kernel
set_option maxRecDepth 100000 in
theorem lck_500 : (List.range' 500 25).all lck = true := by decide +kernel
set_option maxRecDepth 100000 in
theorem lck_525 : (List.range' 525 25).all lck = true := by decide +kernel
set_option maxRecDepth 100000 in
theorem lck_550 : (List.range' 550 25).all lck = true := by decide +kernel
set_option maxRecDepth 100000 in
theorem lck_575 : (List.range' 575 25).all lck = true := by decide +kernel
set_option maxRecDepth 100000 in
theorem lck_600 : (List.range' 600 25).all lck = true := by decide +kernel
set_option maxRecDepth 100000 in
theorem lck_625 : (List.range' 625 25).all lck = true := by decide +kernel
set_option maxRecDepth 100000 in
theorem lck_650 : (List.range' 650 25).all lck = true := by decide +kernel
set_option maxRecDepth 100000 in
theorem lck_675 : (List.range' 675 25).all lck = true := by decide +kernel
set_option maxRecDepth 100000 in
theorem lck_700 : (List.range' 700 25).all lck = true := by decide +kernel
set_option maxRecDepth 100000 in
theorem lck_725 : (List.range' 725 25).all lck = true := by decide +kernel
set_option maxRecDepth 100000 in
theorem lck_750 : (List.range' 750 25).all lck = true := by decide +kernel
set_option maxRecDepth 100000 in
theorem lck_775 : (List.range' 775 25).all lck = true := by decide +kernel
set_option maxRecDepth 100000 in
theorem lck_800 : (List.range' 800 25).all lck = true := by decide +kernel
set_option maxRecDepth 100000 in
theorem lck_825 : (List.range' 825 25).all lck = true := by decide +kernel
set_option maxRecDepth 100000 in
theorem lck_850 : (List.range' 850 25).all lck = true := by decide +kernel
set_option maxRecDepth 100000 in
theorem lck_875 : (List.range' 875 25).all lck = true := by decide +kernel
set_option maxRecDepth 100000 in
theorem lck_900 : (List.range' 900 25).all lck = true := by decide +kernel
set_option maxRecDepth 100000 in
theorem lck_925 : (List.range' 925 25).all lck = true := by decide +kernel
set_option maxRecDepth 100000 in
theorem lck_950 : (List.range' 950 25).all lck = true := by decide +kernel
set_option maxRecDepth 100000 in
theorem lck_975 : (List.range' 975 25).all lck = true := by decide +kernel
set_option maxRecDepth 100000 in
theorem lck_1000 : (List.range' 1000 25).all lck = true := by decide +kernel
set_option maxRecDepth 100000 in
theorem lck_1025 : (List.range' 1025 25).all lck = true := by decide +kernel
set_option maxRecDepth 100000 in
theorem lck_1050 : (List.range' 1050 25).all lck = true := by decide +kernel
set_option maxRecDepth 100000 in
theorem lck_1075 : (List.range' 1075 25).all lck = true := by decide +kernel
set_option maxRecDepth 100000 in
theorem lck_1100 : (List.range' 1100 25).all lck = true := by decide +kernel
set_option maxRecDepth 100000 in
theorem lck_1125 : (List.range' 1125 25).all lck = true := by decide +kernel
set_option maxRecDepth 100000 in
theorem lck_1150 : (List.range' 1150 25).all lck = true := by decide +kernel
set_option maxRecDepth 100000 in
theorem lck_1175 : (List.range' 1175 25).all lck = true := by decide +kernel
set_option maxRecDepth 100000 in
theorem lck_1200 : (List.range' 1200 25).all lck = true := by decide +kernel
set_option maxRecDepth 100000 in
theorem lck_1225 : (List.range' 1225 8).all lck = true := by decide +kernel
theorem lck_in {a l mi : Nat} (h : (List.range' a l).all lck = true) (h1 : a ≤ mi) (h2 : mi < a + l) : lck mi = true := List.all_eq_true.mp h mi (List.mem_range'_1.mpr ⟨h1, h2⟩)
theorem lck_at {mi : Nat} (h : mi < 1233) : lck mi = true := by
  by_cases g0 : mi < 25
  · exact lck_in lck_0 (by omega) (by omega)
  by_cases g25 : mi < 50
  · exact lck_in lck_25 (by omega) (by omega)
  by_cases g50 : mi < 75
  · exact lck_in lck_50 (by omega) (by omega)
  by_cases g75 : mi < 100
  · exact lck_in lck_75 (by omega) (by omega)
  by_cases g100 : mi < 125
  · exact lck_in lck_100 (by omega) (by omega)
  by_cases g125 : mi < 150
  · exact lck_in lck_125 (by omega) (by omega)
  by_cases g150 : mi < 175
  · exact lck_in lck_150 (by omega) (by omega)
  by_cases g175 : mi < 200
  · exact lck_in lck_175 (by omega) (by omega)
  by_cases g200 : mi < 225
  · exact lck_in lck_200 (by omega) (by omega)
  by_cases g225 : mi < 250
  · exact lck_in lck_225 (by omega) (by omega)
  by_cases g250 : mi < 275
  · exact lck_in lck_250 (by omega) (by omega)
  by_cases g275 : mi < 300
  · exact lck_in lck_275 (by omega) (by omega)
  by_cases g300 : mi < 325
  · exact lck_in lck_300 (by omega) (by omega)
  by_cases g325 : mi < 350
  · exact lck_in lck_325 (by omega) (by omega)
  by_cases g350 : mi < 375
  · exact lck_in lck_350 (by omega) (by omega)
  by_cases g375 : mi < 400
  · exact lck_in lck_375 (by omega) (by omega)
  by_cases g400 : mi < 425
  · exact lck_in lck_400 (by omega) (by omega)
  by_cases g425 : mi < 450
  · exact lck_in lck_425 (by omega) (by omega)
  by_cases g450 : mi < 475
  · exact lck_in lck_450 (by omega) (by omega)
  by_cases g475 : mi < 500
  · exact lck_in lck_475 (by omega) (by omega)
  by_cases g500 : mi < 525
  · exact lck_in lck_500 (by omega) (by omega)
  by_cases g525 : mi < 550
  · exact lck_in lck_525 (by omega) (by omega)
  by_cases g550 : mi < 575
  · exact lck_in lck_550 (by omega) (by omega)
  by_cases g575 : mi < 600
  · exact lck_in lck_575 (by omega) (by omega)
  by_cases g600 : mi < 625
  · exact lck_in lck_600 (by omega) (by omega)
  by_cases g625 : mi < 650
  · exact lck_in lck_625 (by omega) (by omega)
  by_cases g650 : mi < 675
  · exact lck_in lck_650 (by omega) (by omega)
  by_cases g675 : mi < 700
  · exact lck_in lck_675 (by omega) (by omega)
  by_cases g700 : mi < 725
  · exact lck_in lck_700 (by omega) (by omega)
  by_cases g725 : mi < 750
  · exact lck_in lck_725 (by omega) (by omega)
  by_cases g750 : mi < 775
  · exact lck_in lck_750 (by omega) (by omega)
  by_cases g775 : mi < 800
  · exact lck_in lck_775 (by omega) (by omega)
  by_cases g800 : mi < 825
  · exact lck_in lck_800 (by omega) (by omega)
  by_cases g825 : mi < 850
  · exact lck_in lck_825 (by omega) (by omega)
  by_cases g850 : mi < 875
  · exact lck_in lck_850 (by omega) (by omega)
  by_cases g875 : mi < 900
  · exact lck_in lck_875 (by omega) (by omega)
  by_cases g900 : mi < 925
  · exact lck_in lck_900 (by omega) (by omega)
  by_cases g925 : mi < 950
  · exact lck_in lck_925 (by omega) (by omega)
  by_cases g950 : mi < 975
  · exact lck_in lck_950 (by omega) (by omega)
  by_cases g975 : mi < 1000
  · exact lck_in lck_975 (by omega) (by omega)
  by_cases g1000 : mi < 1025
  · exact lck_in lck_1000 (by omega) (by omega)
  by_cases g1025 : mi < 1050
  · exact lck_in lck_1025 (by omega) (by omega)
  by_cases g1050 : mi < 1075
  · exact lck_in lck_1050 (by omega) (by omega)
  by_cases g1075 : mi < 1100
  · exact lck_in lck_1075 (by omega) (by omega)
  by_cases g1100 : mi < 1125
  · exact lck_in lck_1100 (by omega) (by omega)
  by_cases g1125 : mi < 1150
  · exact lck_in lck_1125 (by omega) (by omega)
  by_cases g1150 : mi < 1175
  · exact lck_in lck_1150 (by omega) (by omega)
  by_cases g1175 : mi < 1200
  · exact lck_in lck_1175 (by omega) (by omega)
  by_cases g1200 : mi < 1225
  · exact lck_in lck_1200 (by omega) (by omega)
  by_cases g1225 : mi < 1233
  · exact lck_in lck_1225 (by omega) (by omega)
  omega
theorem lck_len : (cdL LAWN).length = 1233 := by decide +kernel
