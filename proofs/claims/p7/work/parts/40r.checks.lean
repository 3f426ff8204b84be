/-! ===== the case 53, in pieces ===== -/
set_option maxRecDepth 100000 in
theorem k53_n : rCx 53 (kN 0) = true := by decide +kernel
set_option maxRecDepth 100000 in
theorem k53_e_i : rCx 53 (kIs [2, 4, 7, 8, 9, 17, 28, 29, 30, 31]) = true := by decide +kernel
set_option maxRecDepth 100000 in
theorem k53_e0 : rCx 53 (kEi [2]) = true := by decide +kernel
set_option maxRecDepth 100000 in
theorem k53_e1 : rCx 53 (kEi [4, 7]) = true := by decide +kernel
set_option maxRecDepth 100000 in
theorem k53_e2 : rCx 53 (kEi [8, 9, 17, 28, 29, 30, 31]) = true := by decide +kernel
theorem k53_e : rCx 53 kE = true := by
  have h := (kEi_j k53_e_i (kEi_j k53_e_i k53_e0 k53_e1) k53_e2)
  have e : (([2] ++ [4, 7]) ++ [8, 9, 17, 28, 29, 30, 31] : List Nat) = [2, 4, 7, 8, 9, 17, 28, 29, 30, 31] := rfl
  rw [e] at h
  exact kEi_ok k53_e_i h
theorem k53_ : rCkn 3000 uMx uW uT uJL uAn uBds 53 = true :=
  kOf k53_n k53_e (fun i hi => by simp at hi) (fun i hi => by simp at hi)
