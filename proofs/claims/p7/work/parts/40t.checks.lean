/-! ===== the case 159, in pieces ===== -/
set_option maxRecDepth 100000 in
theorem k159_n : rCx 159 (kN 1) = true := by decide +kernel
set_option maxRecDepth 100000 in
theorem k159_e : rCx 159 (kE) = true := by decide +kernel
set_option maxRecDepth 100000 in
theorem k159_w0 : rCx 159 (kW0 0) = true := by decide +kernel
set_option maxRecDepth 100000 in
theorem k159_a0 : rCx 159 (kA 0) = true := by decide +kernel
theorem k159_ : rCkn 3000 uMx uW uT uJL uAn uBds 159 = true :=
  kOf k159_n k159_e (fun i hi => by
    have e : i = 0 := by have := List.mem_range.mp hi; omega
    subst e
    exact k159_w0) (fun i hi => by
    have e : i = 0 := by have := List.mem_range.mp hi; omega
    subst e
    exact k159_a0)
