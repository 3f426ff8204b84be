/-! ===== cases, checked ===== -/
set_option maxRecDepth 100000 in
theorem k42_ : rCkn 3000 uMx uW uT uJL uAn uBds 42 = true := by decide +kernel
