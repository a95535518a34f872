/-! the law's own methods -/
set_option maxRecDepth 100000 in
theorem mok_260 : (List.range' 260 6).all mok = true := by decide +kernel
set_option maxRecDepth 100000 in
theorem mok_266 : (List.range' 266 1).all mok = true := by decide +kernel
set_option maxRecDepth 100000 in
theorem mok_267 : (List.range' 267 1).all mok = true := by decide +kernel
set_option maxRecDepth 100000 in
theorem mok_268 : (List.range' 268 1).all mok = true := by decide +kernel
set_option maxRecDepth 100000 in
theorem mok_269 : (List.range' 269 8).all mok = true := by decide +kernel
set_option maxRecDepth 100000 in
theorem mok_278 : (List.range' 278 3).all mok = true := by decide +kernel
theorem mok_in {a l mi : Nat} (h : (List.range' a l).all mok = true) (h1 : a ≤ mi) (h2 : mi < a + l) : mok mi = true := List.all_eq_true.mp h mi (List.mem_range'_1.mpr ⟨h1, h2⟩)
theorem mok_at {mi : Nat} (h : mi < 281) (hn : mi ≠ LAWN) : mok mi = true := by
  have hn : mi ≠ 277 := hn
  by_cases g0 : mi < 20
  · exact mok_in mok_0 (by omega) (by omega)
  by_cases g20 : mi < 40
  · exact mok_in mok_20 (by omega) (by omega)
  by_cases g40 : mi < 60
  · exact mok_in mok_40 (by omega) (by omega)
  by_cases g60 : mi < 80
  · exact mok_in mok_60 (by omega) (by omega)
  by_cases g80 : mi < 100
  · exact mok_in mok_80 (by omega) (by omega)
  by_cases g100 : mi < 120
  · exact mok_in mok_100 (by omega) (by omega)
  by_cases g120 : mi < 140
  · exact mok_in mok_120 (by omega) (by omega)
  by_cases g140 : mi < 160
  · exact mok_in mok_140 (by omega) (by omega)
  by_cases g160 : mi < 180
  · exact mok_in mok_160 (by omega) (by omega)
  by_cases g180 : mi < 200
  · exact mok_in mok_180 (by omega) (by omega)
  by_cases g200 : mi < 220
  · exact mok_in mok_200 (by omega) (by omega)
  by_cases g220 : mi < 240
  · exact mok_in mok_220 (by omega) (by omega)
  by_cases g240 : mi < 260
  · exact mok_in mok_240 (by omega) (by omega)
  by_cases g260 : mi < 266
  · exact mok_in mok_260 (by omega) (by omega)
  by_cases g266 : mi < 267
  · exact mok_in mok_266 (by omega) (by omega)
  by_cases g267 : mi < 268
  · exact mok_in mok_267 (by omega) (by omega)
  by_cases g268 : mi < 269
  · exact mok_in mok_268 (by omega) (by omega)
  by_cases g269 : mi < 277
  · exact mok_in mok_269 (by omega) (by omega)
  by_cases g278 : mi < 281
  · exact mok_in mok_278 (by omega) (by omega)
  omega
