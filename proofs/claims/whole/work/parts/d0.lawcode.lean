/-! ===== THE LAW'S BLOCKS STAND IN THE BYTES ===== -/
def lCk (b : Nat × List Instr) : Bool := bChk mt 393 cpo13 fkT 9999 false [] hsL code 7 ret [] b.1 b.2
set_option maxRecDepth 100000 in
theorem lC0 : ((bkL_law_.drop 0).take 12).all lCk = true := by decide +kernel
set_option maxRecDepth 100000 in
theorem lC1 : ((bkL_law_.drop 12).take 12).all lCk = true := by decide +kernel
set_option maxRecDepth 100000 in
theorem lC2 : ((bkL_law_.drop 24).take 12).all lCk = true := by decide +kernel
set_option maxRecDepth 100000 in
theorem lC3 : ((bkL_law_.drop 36).take 12).all lCk = true := by decide +kernel
set_option maxRecDepth 100000 in
theorem lC4 : ((bkL_law_.drop 48).take 12).all lCk = true := by decide +kernel
set_option maxRecDepth 100000 in
theorem lC5 : ((bkL_law_.drop 60).take 12).all lCk = true := by decide +kernel
set_option maxRecDepth 100000 in
theorem lC6 : ((bkL_law_.drop 72).take 12).all lCk = true := by decide +kernel
