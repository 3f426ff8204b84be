/-! ===== cases, checked ===== -/
set_option maxRecDepth 100000 in
theorem k53_ : rCkn 3000 uMx uW uT uJL uAn uBds 53 = true := by decide +kernel
