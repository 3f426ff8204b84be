/-! ===== the law's loop ===== -/
noncomputable def lBd : rBd := (vL_, [], [], [])
noncomputable def lAn : List (Nat × rS × rX) := [(23, pL1_, rL_)]
noncomputable def lRun (l : List zNx) : Bool := match zGo true uMx uW uT wZ_ uJL lBd lAn (some rL_) 600 23 pL0_ [] with
  | some l1 => zCov l1 l
  | none => false
set_option maxRecDepth 100000 in
theorem lRun_ok : lRun qLs = true := by decide +kernel
