/-! ===== cases, checked ===== -/
set_option maxRecDepth 100000 in
theorem k158_ : rCkn 3000 uMx uW uT uJL uAn uBds 158 = true := by decide +kernel
