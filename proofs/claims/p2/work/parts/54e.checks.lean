/-! ===== cases, checked ===== -/
set_option maxRecDepth 100000 in
theorem k75_ : rCkn 3000 uMx uW uT uJL uAn uBds 75 = true := by decide +kernel
