/-! ===== cases, checked ===== -/
set_option maxRecDepth 100000 in
theorem k49_ : rCkn 3000 uMx uW uT uJL uAn uBds 49 = true := by decide +kernel
