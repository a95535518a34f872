/-! the law's own code agrees with its bytes -/
set_option maxRecDepth 100000 in
theorem law_all : chkA 13 true false code pp_277 pp_277 cc_277 = true := by decide +kernel
