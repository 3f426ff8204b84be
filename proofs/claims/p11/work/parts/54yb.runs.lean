/-! ===== the run of case 53, its later pieces ===== -/
set_option maxRecDepth 100000 in
theorem zs53_9 : zBS uMx uW uT uJL uAn uBds 53 100 t53_9 t53_10 = true := by decide +kernel
set_option maxRecDepth 100000 in
theorem zs53_10 : zBS uMx uW uT uJL uAn uBds 53 100 t53_10 t53_11 = true := by decide +kernel
set_option maxRecDepth 100000 in
theorem zs53_11 : zBS uMx uW uT uJL uAn uBds 53 100 t53_11 t53_12 = true := by decide +kernel
set_option maxRecDepth 100000 in
theorem zs53_12 : zBS uMx uW uT uJL uAn uBds 53 100 t53_12 t53_13 = true := by decide +kernel
set_option maxRecDepth 100000 in
theorem zs53_13 : zBS uMx uW uT uJL uAn uBds 53 100 t53_13 t53_14 = true := by decide +kernel
set_option maxRecDepth 100000 in
theorem zs53_14 : zBS uMx uW uT uJL uAn uBds 53 100 t53_14 t53_15 = true := by decide +kernel
set_option maxRecDepth 100000 in
theorem zs53_15 : zBS uMx uW uT uJL uAn uBds 53 100 t53_15 t53_16 = true := by decide +kernel
set_option maxRecDepth 100000 in
theorem zs53_16 : zBS uMx uW uT uJL uAn uBds 53 100 t53_16 t53_17 = true := by decide +kernel
set_option maxRecDepth 100000 in
theorem zs53_17 : zBS uMx uW uT uJL uAn uBds 53 100 t53_17 t53_18 = true := by decide +kernel
