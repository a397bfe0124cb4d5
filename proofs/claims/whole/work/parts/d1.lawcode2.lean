/-! ===== THE LAW'S BLOCKS STAND IN THE BYTES, II ===== -/
set_option maxRecDepth 100000 in
theorem lC7 : ((bkL_law_.drop 84).take 4).all lCk = true := by decide +kernel
set_option maxRecDepth 100000 in
theorem lC8 : ((bkL_law_.drop 88).take 4).all lCk = true := by decide +kernel
set_option maxRecDepth 100000 in
theorem lC9 : ((bkL_law_.drop 92).take 4).all lCk = true := by decide +kernel
set_option maxRecDepth 100000 in
theorem lC10 : ((bkL_law_.drop 96).take 4).all lCk = true := by decide +kernel
set_option maxRecDepth 100000 in
theorem lC11 : ((bkL_law_.drop 100).take 4).all lCk = true := by decide +kernel
set_option maxRecDepth 100000 in
theorem lC12 : ((bkL_law_.drop 104).take 4).all lCk = true := by decide +kernel
