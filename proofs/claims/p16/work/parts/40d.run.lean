/-! ===== the run of what makes the cells, checked ===== -/
set_option maxRecDepth 100000 in
theorem uGo_0 : (ckS0 uGo && ckSp 0 3072 uGo) = true := by decide +kernel
theorem uGo_ok : ckS uGo = true := by
  have h := uGo_0
  rw [Bool.and_eq_true] at h
  obtain ⟨h0, h1⟩ := h
  cases hq : uGo with
  | none => rw [hq] at h0; cases h0
  | some q =>
    rw [hq] at h0 h1
    have hA : ckAll q.2.2.2.1 3071 = true := by
      refine ckAp_all (fun i hi => ?_)
      exact ⟨0, 3072, by omega, by omega, h1⟩
    simp only [ckS0, Bool.and_eq_true] at h0
    simp only [ckS, Bool.and_eq_true]
    exact ⟨h0, hA⟩
