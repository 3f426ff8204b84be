/-! ===== cases, checked ===== -/
set_option maxRecDepth 100000 in
theorem k159_ : rCkn 3000 uMx uW uT uJL uAn uBds 159 = true := by decide +kernel
