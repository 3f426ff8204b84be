/-! ===== cases, checked ===== -/
set_option maxRecDepth 100000 in
theorem k78_ : rCkn 3000 uMx uW uT uJL uAn uBds 78 = true := by decide +kernel
