/-! ===== the run of case 53, its end ===== -/
set_option maxRecDepth 100000 in
theorem zs53_e : zBE 1200 uMx uW uT uJL uAn uBds 53 t53_18 q53 = true := by decide +kernel
theorem zo53 : zOk 3000 uMx uW uT uJL uAn uBds 53 q53 q53a := by
  intro I a Bd e1 e2 e3
  have h18 := zBE_ok zs53_e e1 e2 e3
  have h17 := zBS_ok zs53_17 e1 e2 e3 h18
  have h16 := zBS_ok zs53_16 e1 e2 e3 h17
  have h15 := zBS_ok zs53_15 e1 e2 e3 h16
  have h14 := zBS_ok zs53_14 e1 e2 e3 h15
  have h13 := zBS_ok zs53_13 e1 e2 e3 h14
  have h12 := zBS_ok zs53_12 e1 e2 e3 h13
  have h11 := zBS_ok zs53_11 e1 e2 e3 h12
  have h10 := zBS_ok zs53_10 e1 e2 e3 h11
  have h9 := zBS_ok zs53_9 e1 e2 e3 h10
  have h8 := zBS_ok zs53_8 e1 e2 e3 h9
  have h7 := zBS_ok zs53_7 e1 e2 e3 h8
  have h6 := zBS_ok zs53_6 e1 e2 e3 h7
  have h5 := zBS_ok zs53_5 e1 e2 e3 h6
  have h4 := zBS_ok zs53_4 e1 e2 e3 h5
  have h3 := zBS_ok zs53_3 e1 e2 e3 h4
  have h2 := zBS_ok zs53_2 e1 e2 e3 h3
  have h1 := zBS_ok zs53_1 e1 e2 e3 h2
  have h0 := zBS_ok zs53_0 e1 e2 e3 h1
  exact zB1_ok zs53_b e1 e2 e3 h0
