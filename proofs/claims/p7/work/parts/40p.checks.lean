/-! ===== the case 37, in pieces ===== -/
set_option maxRecDepth 100000 in
theorem k37_n : rCx 37 (kN 0) = true := by decide +kernel
set_option maxRecDepth 100000 in
theorem k37_e_x : rCx 37 (kEx [[0, 0, 0, 1, 0], [0, 0, 0, 1, 1, 0, 0], [0, 0, 0, 1, 1, 0, 1, 1, 1, 0, 1, 0, 0], [0, 0, 1], [0, 0, 0, 1, 1, 0, 1, 1, 1, 0, 1, 0, 1]]) = true := by decide +kernel
set_option maxRecDepth 100000 in
theorem k37_e_0 : rCx 37 (kEh [0, 0, 0, 1, 0]) = true := by decide +kernel
set_option maxRecDepth 100000 in
theorem k37_e_1 : rCx 37 (kEh [0, 0, 0, 1, 1, 0, 0]) = true := by decide +kernel
set_option maxRecDepth 100000 in
theorem k37_e_2 : rCx 37 (kEh [0, 0, 0, 1, 1, 0, 1, 1, 1, 0, 1, 0, 0]) = true := by decide +kernel
set_option maxRecDepth 100000 in
theorem k37_e_3 : rCx 37 (kEh [0, 0, 1]) = true := by decide +kernel
set_option maxRecDepth 100000 in
theorem k37_e_4 : rCx 37 (kEh [0, 0, 0, 1, 1, 0, 1, 1, 1, 0, 1, 0, 1]) = true := by decide +kernel
theorem k37_e : rCx 37 (kE) = true := kE_cut k37_e_x (List.forall_mem_cons.mpr ⟨k37_e_0, List.forall_mem_cons.mpr ⟨k37_e_1, List.forall_mem_cons.mpr ⟨k37_e_2, List.forall_mem_cons.mpr ⟨k37_e_3, List.forall_mem_cons.mpr ⟨k37_e_4, fun _ h => by cases h⟩⟩⟩⟩⟩)
theorem k37_ : rCkn 3000 uMx uW uT uJL uAn uBds 37 = true :=
  kOf k37_n k37_e (fun i hi => by simp at hi) (fun i hi => by simp at hi)
