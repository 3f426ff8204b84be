/-! ===== the case 42, in pieces ===== -/
set_option maxRecDepth 100000 in
theorem k42_n : rCx 42 (kN 0) = true := by decide +kernel
set_option maxRecDepth 100000 in
theorem k42_e_x : rCx 42 (kEx [[0, 1], [0, 0, 0, 1, 1, 0, 1, 1, 1, 0, 1, 0, 0], [0, 0, 1], [0, 0, 0, 1, 1, 0, 1, 1, 1, 0, 1, 0, 1]]) = true := by decide +kernel
set_option maxRecDepth 100000 in
theorem k42_e_0 : rCx 42 (kEh [0, 1]) = true := by decide +kernel
set_option maxRecDepth 100000 in
theorem k42_e_1 : rCx 42 (kEh [0, 0, 0, 1, 1, 0, 1, 1, 1, 0, 1, 0, 0]) = true := by decide +kernel
set_option maxRecDepth 100000 in
theorem k42_e_2 : rCx 42 (kEh [0, 0, 1]) = true := by decide +kernel
set_option maxRecDepth 100000 in
theorem k42_e_3 : rCx 42 (kEh [0, 0, 0, 1, 1, 0, 1, 1, 1, 0, 1, 0, 1]) = true := by decide +kernel
theorem k42_e : rCx 42 (kE) = true := kE_cut k42_e_x (List.forall_mem_cons.mpr ⟨k42_e_0, List.forall_mem_cons.mpr ⟨k42_e_1, List.forall_mem_cons.mpr ⟨k42_e_2, List.forall_mem_cons.mpr ⟨k42_e_3, fun _ h => by cases h⟩⟩⟩⟩)
theorem k42_ : rCkn 3000 uMx uW uT uJL uAn uBds 42 = true :=
  kOf k42_n k42_e (fun i hi => by simp at hi) (fun i hi => by simp at hi)
