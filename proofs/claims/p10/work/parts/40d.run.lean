/-! ===== the run of what makes the cells, checked ===== -/
set_option maxRecDepth 100000 in
theorem uGo_0 : ckS0 uGo = true := by decide +kernel
set_option maxRecDepth 100000 in
theorem uGo_1 : ckSp 0 800 uGo = true := by decide +kernel
set_option maxRecDepth 100000 in
theorem uGo_2 : ckSp 801 1600 uGo = true := by decide +kernel
set_option maxRecDepth 100000 in
theorem uGo_3 : ckSp 1601 2400 uGo = true := by decide +kernel
set_option maxRecDepth 100000 in
theorem uGo_4 : ckSp 2401 3072 uGo = true := by decide +kernel
theorem uGo_ok : ckS uGo = true := by
  have h0 := uGo_0
  have h1 := uGo_1
  have h2 := uGo_2
  have h3 := uGo_3
  have h4 := uGo_4
  cases hq : uGo with
  | none => rw [hq] at h0; cases h0
  | some q =>
    rw [hq] at h0 h1 h2 h3 h4
    have hA : ckAll q.2.2.2.1 3071 = true := by
      refine ckAp_all (fun i hi => ?_)
      by_cases c1 : i ≤ 800
      · exact ⟨0, 800, by omega, c1, h1⟩
      by_cases c2 : i ≤ 1600
      · exact ⟨801, 1600, by omega, c2, h2⟩
      by_cases c3 : i ≤ 2400
      · exact ⟨1601, 2400, by omega, c3, h3⟩
      by_cases c4 : i ≤ 3072
      · exact ⟨2401, 3072, by omega, c4, h4⟩
      · omega
    simp only [ckS0, Bool.and_eq_true] at h0
    simp only [ckS, Bool.and_eq_true]
    exact ⟨h0, hA⟩
