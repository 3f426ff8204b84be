/-! ===== the case 75, in pieces ===== -/
set_option maxRecDepth 100000 in
theorem k75_n : rCx 75 (kN 1) = true := by decide +kernel
set_option maxRecDepth 100000 in
theorem k75_e : rCx 75 (kE) = true := by decide +kernel
set_option maxRecDepth 100000 in
theorem k75_w0 : rCx 75 (kW0 0) = true := by decide +kernel
set_option maxRecDepth 100000 in
theorem k75_a0_x : rCx 75 (kAx 0 [[1, 1, 0, 0, 1, 1], [1, 1, 0, 1, 1, 0], [1, 1, 0, 0, 1, 0], [1, 1, 1]]) = true := by decide +kernel
set_option maxRecDepth 100000 in
theorem k75_a0_0 : rCx 75 (kAh 0 [1, 1, 0, 0, 1, 1]) = true := by decide +kernel
set_option maxRecDepth 100000 in
theorem k75_a0_1 : rCx 75 (kAh 0 [1, 1, 0, 1, 1, 0]) = true := by decide +kernel
set_option maxRecDepth 100000 in
theorem k75_a0_2 : rCx 75 (kAh 0 [1, 1, 0, 0, 1, 0]) = true := by decide +kernel
set_option maxRecDepth 100000 in
theorem k75_a0_3 : rCx 75 (kAh 0 [1, 1, 1]) = true := by decide +kernel
theorem k75_a0 : rCx 75 (kA 0) = true := kA_cut k75_a0_x (List.forall_mem_cons.mpr ⟨k75_a0_0, List.forall_mem_cons.mpr ⟨k75_a0_1, List.forall_mem_cons.mpr ⟨k75_a0_2, List.forall_mem_cons.mpr ⟨k75_a0_3, fun _ h => by cases h⟩⟩⟩⟩)
theorem k75_ : rCkn 3000 uMx uW uT uJL uAn uBds 75 = true :=
  kOf k75_n k75_e (fun i hi => by
    have e : i = 0 := by have := List.mem_range.mp hi; omega
    subst e
    exact k75_w0) (fun i hi => by
    have e : i = 0 := by have := List.mem_range.mp hi; omega
    subst e
    exact k75_a0)
