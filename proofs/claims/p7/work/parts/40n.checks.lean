/-! ===== the case 49, in pieces ===== -/
set_option maxRecDepth 100000 in
theorem k49_n : rCx 49 (kN 2) = true := by decide +kernel
set_option maxRecDepth 100000 in
theorem k49_e : rCx 49 (kE) = true := by decide +kernel
set_option maxRecDepth 100000 in
theorem k49_w0 : rCx 49 (kW0 0) = true := by decide +kernel
set_option maxRecDepth 100000 in
theorem k49_a0_x : rCx 49 (kAx 0 [[0, 0, 0, 1], [0, 1, 0]]) = true := by decide +kernel
set_option maxRecDepth 100000 in
theorem k49_a0_0 : rCx 49 (kAh 0 [0, 0, 0, 1]) = true := by decide +kernel
set_option maxRecDepth 100000 in
theorem k49_a0_1 : rCx 49 (kAh 0 [0, 1, 0]) = true := by decide +kernel
theorem k49_a0 : rCx 49 (kA 0) = true := kA_cut k49_a0_x (List.forall_mem_cons.mpr ⟨k49_a0_0, List.forall_mem_cons.mpr ⟨k49_a0_1, fun _ h => by cases h⟩⟩)
set_option maxRecDepth 100000 in
theorem k49_w1 : rCx 49 (kW0 1) = true := by decide +kernel
set_option maxRecDepth 100000 in
theorem k49_a1 : rCx 49 (kA 1) = true := by decide +kernel
theorem k49_ : rCkn 3000 uMx uW uT uJL uAn uBds 49 = true :=
  kOf k49_n k49_e (fun i hi => by
    rcases (show i = 0 ∨ i = 1 by have := List.mem_range.mp hi; omega) with rfl | rfl
    · exact k49_w0
    · exact k49_w1) (fun i hi => by
    rcases (show i = 0 ∨ i = 1 by have := List.mem_range.mp hi; omega) with rfl | rfl
    · exact k49_a0
    · exact k49_a1)
