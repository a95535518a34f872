/-! more of it -/
set_option maxRecDepth 100000 in
theorem mok_100 : (List.range' 100 20).all mok = true := by decide +kernel
set_option maxRecDepth 100000 in
theorem mok_120 : (List.range' 120 20).all mok = true := by decide +kernel
set_option maxRecDepth 100000 in
theorem mok_140 : (List.range' 140 20).all mok = true := by decide +kernel
set_option maxRecDepth 100000 in
theorem mok_160 : (List.range' 160 20).all mok = true := by decide +kernel
set_option maxRecDepth 100000 in
theorem mok_180 : (List.range' 180 20).all mok = true := by decide +kernel
