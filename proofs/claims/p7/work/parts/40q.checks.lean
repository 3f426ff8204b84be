/-! ===== the case 158, in pieces ===== -/
set_option maxRecDepth 100000 in
theorem k158_n : rCx 158 (kN 1) = true := by decide +kernel
set_option maxRecDepth 100000 in
theorem k158_e : rCx 158 (kE) = true := by decide +kernel
set_option maxRecDepth 100000 in
theorem k158_w0 : rCx 158 (kW0 0) = true := by decide +kernel
set_option maxRecDepth 100000 in
theorem k158_a0_x : rCx 158 (kAx 0 [[1, 2], [1, 1], [1, 3, 1, 1]]) = true := by decide +kernel
set_option maxRecDepth 100000 in
theorem k158_a0_0 : rCx 158 (kAh 0 [1, 2]) = true := by decide +kernel
set_option maxRecDepth 100000 in
theorem k158_a0_1 : rCx 158 (kAh 0 [1, 1]) = true := by decide +kernel
set_option maxRecDepth 100000 in
theorem k158_a0_2 : rCx 158 (kAh 0 [1, 3, 1, 1]) = true := by decide +kernel
theorem k158_a0 : rCx 158 (kA 0) = true := kA_cut k158_a0_x (List.forall_mem_cons.mpr ⟨k158_a0_0, List.forall_mem_cons.mpr ⟨k158_a0_1, List.forall_mem_cons.mpr ⟨k158_a0_2, fun _ h => by cases h⟩⟩⟩)
theorem k158_ : rCkn 3000 uMx uW uT uJL uAn uBds 158 = true :=
  kOf k158_n k158_e (fun i hi => by
    have e : i = 0 := by have := List.mem_range.mp hi; omega
    subst e
    exact k158_w0) (fun i hi => by
    have e : i = 0 := by have := List.mem_range.mp hi; omega
    subst e
    exact k158_a0)
