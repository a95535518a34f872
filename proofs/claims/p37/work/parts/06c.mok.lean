/-! the rest -/
set_option maxRecDepth 100000 in
theorem mok_200 : (List.range' 200 20).all mok = true := by decide +kernel
set_option maxRecDepth 100000 in
theorem mok_220 : (List.range' 220 20).all mok = true := by decide +kernel
set_option maxRecDepth 100000 in
theorem mok_240 : (List.range' 240 20).all mok = true := by decide +kernel
