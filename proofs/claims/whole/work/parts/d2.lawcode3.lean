/-! ===== THE LAW'S BLOCKS STAND IN THE BYTES, III ===== -/
set_option maxRecDepth 100000 in
theorem lC13 : ((bkL_law_.drop 108).take 4).all lCk = true := by decide +kernel
set_option maxRecDepth 100000 in
theorem lC14 : ((bkL_law_.drop 112).take 4).all lCk = true := by decide +kernel
set_option maxRecDepth 100000 in
theorem lC15 : ((bkL_law_.drop 116).take 4).all lCk = true := by decide +kernel
set_option maxRecDepth 100000 in
theorem lC16 : ((bkL_law_.drop 120).take 4).all lCk = true := by decide +kernel
set_option maxRecDepth 100000 in
theorem lC17 : ((bkL_law_.drop 124).take 4).all lCk = true := by decide +kernel
set_option maxRecDepth 100000 in
theorem lC18 : ((bkL_law_.drop 128).take 4).all lCk = true := by decide +kernel
