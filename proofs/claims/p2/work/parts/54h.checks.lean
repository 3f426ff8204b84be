/-! ===== cases, checked ===== -/
set_option maxRecDepth 100000 in
theorem k37_ : rCkn 3000 uMx uW uT uJL uAn uBds 37 = true := by decide +kernel
