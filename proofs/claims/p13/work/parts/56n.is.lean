/-! ===== the runs are the functions ===== -/
theorem vn145_0 {S : Nat → zSpc} (hS103 : zIm S 103 sn103) (hS109 : zIm S 109 sn109) (hS114 : zIm S 114 sn114) (hS134 : zIm S 134 sn134) (hS142 : zIm S 142 sn142) (hS143 : zIm S 143 sn143) {a : List Int} {g : rHp} : ∀ (ρ : Nat → Int) (γ : Nat → rHp), zO 22 S a g q145_0 ρ γ → zGl (fun i vs g1 => jn145 a g i vs g1) (sn145 a g) q145_0 ρ γ := by
  intro ρ γ h
  obtain ⟨ha, hg, hr, hf, hm, hc, hl⟩ := h
  have ha : a = [ρ 0, ρ 1, ρ 2, ρ 3, ρ 4, ρ 5, ρ 6, ρ 7, ρ 8, ρ 9, ρ 10, ρ 11, ρ 12, ρ 13, ρ 14, ρ 15, ρ 16, ρ 17, ρ 18, ρ 19, ρ 20, ρ 21] := ha
  subst ha
  subst hg
  have m14 : γ 0 2 0 9 = ρ 15 := zAllA hm 14
  have m21 : γ 0 2 0 8 = ρ 22 := zAllA hm 21
  have m30 : γ 2 2 0 6 = ρ 23 := zAllA hm 30
  have l0 : sn103 [ρ 0, ρ 22, ρ 15, ρ 1, ρ 2, ρ 3, ρ 10, ρ 11, ρ 7, ρ 6, ρ 19, ρ 9, ρ 20, ρ 21] (γ 0) 0 0 (γ 1) := hS103 _ _ _ _ _ (zAllA hl 0)
  have l1 : sn114 [ρ 4, ρ 5] (γ 1) 0 (-1) (γ 2) := hS114 _ _ _ _ _ (zAllA hl 1)
  have l2 : sn109 [ρ 23, ρ 13] (γ 2) 0 0 (γ 3) := hS109 _ _ _ _ _ (zAllA hl 2)
  show sn145 [ρ 0, ρ 1, ρ 2, ρ 3, ρ 4, ρ 5, ρ 6, ρ 7, ρ 8, ρ 9, ρ 10, ρ 11, ρ 12, ρ 13, ρ 14, ρ 15, ρ 16, ρ 17, ρ 18, ρ 19, ρ 20, ρ 21] (γ 0) 0 0 (γ 3)
  have hD : dn145 [ρ 0] (γ 0) = .inr (0, 0, γ 3) := by
    unfold dn145
    refine zLV (ρ 0) rfl (zLE m14 (zLE m21 (zLE (show fn103 [ρ 0, ρ 22, ρ 15] (γ 0) = (0, 0, γ 1) from l0.symm) (zLV (γ 1) rfl (zLE (show fn114 [] (γ 1) = (0, (-1), γ 2) from l1.symm) (zLV (γ 2) rfl (zIN zQ2_ ?_)))))))
    refine zLE m30 (zLE (show fn109 [ρ 23] (γ 2) = (0, 0, γ 3) from l2.symm) (zLV (γ 3) rfl ?_))
    rfl
  exact zGoo_end hD
theorem vn145_1 {S : Nat → zSpc} (hS103 : zIm S 103 sn103) (hS109 : zIm S 109 sn109) (hS114 : zIm S 114 sn114) (hS134 : zIm S 134 sn134) (hS142 : zIm S 142 sn142) (hS143 : zIm S 143 sn143) {a : List Int} {g : rHp} : ∀ (ρ : Nat → Int) (γ : Nat → rHp), zO 22 S a g q145_1 ρ γ → zGl (fun i vs g1 => jn145 a g i vs g1) (sn145 a g) q145_1 ρ γ := by
  intro ρ γ h
  obtain ⟨ha, hg, hr, hf, hm, hc, hl⟩ := h
  have ha : a = [ρ 0, ρ 1, ρ 2, ρ 3, ρ 4, ρ 5, ρ 6, ρ 7, ρ 8, ρ 9, ρ 10, ρ 11, ρ 12, ρ 13, ρ 14, ρ 15, ρ 16, ρ 17, ρ 18, ρ 19, ρ 20, ρ 21] := ha
  subst ha
  subst hg
  have r23 : (40 : Int) ≤ ρ 23 ∧ ρ 23 ≤ 40 := zRnA hr 23
  obtain ⟨w_0, w_1⟩ : ((0 : Int) ≤ ρ 23) ∧ (ρ 23 = 40) := ⟨by omega, by omega⟩
  have m14 : γ 0 2 0 9 = ρ 15 := zAllA hm 14
  have m21 : γ 0 2 0 8 = ρ 22 := zAllA hm 21
  have m30 : γ 2 2 0 6 = ρ 24 := zAllA hm 30
  have c3 : γ 3 = rUp (γ 2) 2 0 6 (ρ 24 + 1) := And.right (zChA hc 0)
  have l0 : sn103 [ρ 0, ρ 22, ρ 15, ρ 1, ρ 2, ρ 3, ρ 10, ρ 11, ρ 7, ρ 6, ρ 19, ρ 9, ρ 20, ρ 21] (γ 0) 0 0 (γ 1) := hS103 _ _ _ _ _ (zAllA hl 0)
  have l1 : sn114 [ρ 4, ρ 5] (γ 1) 0 (ρ 23) (γ 2) := hS114 _ _ _ _ _ (zAllA hl 1)
  show jn145 [ρ 0, ρ 1, ρ 2, ρ 3, ρ 4, ρ 5, ρ 6, ρ 7, ρ 8, ρ 9, ρ 10, ρ 11, ρ 12, ρ 13, ρ 14, ρ 15, ρ 16, ρ 17, ρ 18, ρ 19, ρ 20, ρ 21] (γ 0) 0 [ρ 0, ρ 1, ρ 2, ρ 3, ρ 4, ρ 5, ρ 6, ρ 7, ρ 8, ρ 9, ρ 10, ρ 11, ρ 12, ρ 13, ρ 14, ρ 15, ρ 16, ρ 17, ρ 18, ρ 19, ρ 20, ρ 21, 0, ρ 24 + 1, 0, (-1), ρ 14, ρ 15, ρ 16, ρ 17, ρ 18, (-1), 0] (γ 3)
  have hD : dn145 [ρ 0] (γ 0) = .inl (0, [0], γ 3) := by
    unfold dn145
    refine zLV (ρ 0) rfl (zLE m14 (zLE m21 (zLE (show fn103 [ρ 0, ρ 22, ρ 15] (γ 0) = (0, 0, γ 1) from l0.symm) (zLV (γ 1) rfl (zLE (show fn114 [] (γ 1) = (0, ρ 23, γ 2) from l1.symm) (zLV (γ 2) rfl (zIP w_0 ?_)))))))
    refine zLV (ρ 23) rfl (zLE m30 (zIP w_1 (zLE c3.symm ?_)))
    rfl
  exact zGoo_to hD
theorem vn145_2 {S : Nat → zSpc} (hS103 : zIm S 103 sn103) (hS109 : zIm S 109 sn109) (hS114 : zIm S 114 sn114) (hS134 : zIm S 134 sn134) (hS142 : zIm S 142 sn142) (hS143 : zIm S 143 sn143) {a : List Int} {g : rHp} : ∀ (ρ : Nat → Int) (γ : Nat → rHp), zO 22 S a g q145_2 ρ γ → zGl (fun i vs g1 => jn145 a g i vs g1) (sn145 a g) q145_2 ρ γ := by
  intro ρ γ h
  obtain ⟨ha, hg, hr, hf, hm, hc, hl⟩ := h
  have ha : a = [ρ 0, ρ 1, ρ 2, ρ 3, ρ 4, ρ 5, ρ 6, ρ 7, ρ 8, ρ 9, ρ 10, ρ 11, ρ 12, ρ 13, ρ 14, ρ 15, ρ 16, ρ 17, ρ 18, ρ 19, ρ 20, ρ 21] := ha
  subst ha
  subst hg
  have r23 : (0 : Int) ≤ ρ 23 ∧ ρ 23 ≤ 255 := zRnA hr 23
  have w_0 : (0 : Int) ≤ ρ 23 := by omega
  have m14 : γ 0 2 0 9 = ρ 15 := zAllA hm 14
  have m21 : γ 0 2 0 8 = ρ 22 := zAllA hm 21
  have m30 : γ 2 2 0 6 = ρ 24 := zAllA hm 30
  have l0 : sn103 [ρ 0, ρ 22, ρ 15, ρ 1, ρ 2, ρ 3, ρ 10, ρ 11, ρ 7, ρ 6, ρ 19, ρ 9, ρ 20, ρ 21] (γ 0) 0 0 (γ 1) := hS103 _ _ _ _ _ (zAllA hl 0)
  have l1 : sn114 [ρ 4, ρ 5] (γ 1) 0 (ρ 23) (γ 2) := hS114 _ _ _ _ _ (zAllA hl 1)
  have l2 : ρ 23 ≠ 40 := zAllA hl 2
  have l3 : sn109 [ρ 24, ρ 13] (γ 2) 0 0 (γ 3) := hS109 _ _ _ _ _ (zAllA hl 3)
  have wl_0 : ¬ (ρ 23 = 40) := by omega
  show sn145 [ρ 0, ρ 1, ρ 2, ρ 3, ρ 4, ρ 5, ρ 6, ρ 7, ρ 8, ρ 9, ρ 10, ρ 11, ρ 12, ρ 13, ρ 14, ρ 15, ρ 16, ρ 17, ρ 18, ρ 19, ρ 20, ρ 21] (γ 0) 0 0 (γ 3)
  have hD : dn145 [ρ 0] (γ 0) = .inr (0, 0, γ 3) := by
    unfold dn145
    refine zLV (ρ 0) rfl (zLE m14 (zLE m21 (zLE (show fn103 [ρ 0, ρ 22, ρ 15] (γ 0) = (0, 0, γ 1) from l0.symm) (zLV (γ 1) rfl (zLE (show fn114 [] (γ 1) = (0, ρ 23, γ 2) from l1.symm) (zLV (γ 2) rfl (zIP w_0 ?_)))))))
    refine zLV (ρ 23) rfl (zLE m30 (zIN wl_0 (zLE (show fn109 [ρ 24] (γ 2) = (0, 0, γ 3) from l3.symm) (zLV (γ 3) rfl ?_))))
    rfl
  exact zGoo_end hD
theorem vn145a0_0 {S : Nat → zSpc} (hS103 : zIm S 103 sn103) (hS109 : zIm S 109 sn109) (hS114 : zIm S 114 sn114) (hS134 : zIm S 134 sn134) (hS142 : zIm S 142 sn142) (hS143 : zIm S 143 sn143) {a : List Int} {g : rHp} : ∀ (ρ : Nat → Int) (γ : Nat → rHp), jn145 a g 0 (zAg (zNA a145_ 0) ρ) (γ 1) → zO 22 S a g q145a0_0 ρ γ → zGl (fun i vs g1 => jn145 a g i vs g1) (sn145 a g) q145a0_0 ρ γ := by
  intro ρ γ hJ h
  obtain ⟨ha, hg, hr, hf, hm, hc, hl⟩ := h
  have ha : a = [ρ 0, ρ 1, ρ 2, ρ 3, ρ 4, ρ 5, ρ 6, ρ 7, ρ 8, ρ 9, ρ 10, ρ 11, ρ 12, ρ 13, ρ 14, ρ 15, ρ 16, ρ 17, ρ 18, ρ 19, ρ 20, ρ 21] := ha
  subst ha
  subst hg
  have hJ : jn145 [ρ 0, ρ 1, ρ 2, ρ 3, ρ 4, ρ 5, ρ 6, ρ 7, ρ 8, ρ 9, ρ 10, ρ 11, ρ 12, ρ 13, ρ 14, ρ 15, ρ 16, ρ 17, ρ 18, ρ 19, ρ 20, ρ 21] (γ 0) 0 [ρ 0, ρ 1, ρ 2, ρ 3, ρ 4, ρ 5, ρ 6, ρ 7, ρ 8, ρ 9, ρ 10, ρ 11, ρ 12, ρ 13, ρ 14, ρ 15, ρ 16, ρ 17, ρ 18, ρ 19, ρ 20, ρ 21, ρ 22, ρ 23, ρ 24, ρ 25, ρ 26, ρ 27, ρ 28, ρ 29, ρ 30, ρ 31, ρ 32] (γ 1) := hJ
  have r22 : (4 : Int) ≤ ρ 22 ∧ ρ 22 ≤ 4 := zRnA hr 22
  have w_0 : ρ 22 ≥ 4 := by omega
  have m0 : γ 0 1 0 10 = ρ 1 := zAllA hm 0
  have m1 : γ 0 40 0 (ρ 1) = ρ 2 := zAllA hm 1
  have m2 : γ 0 9 (ρ 2) 2 = ρ 3 := zAllA hm 2
  have m13 : γ 0 2 0 5 = ρ 14 := zAllA hm 13
  have m34 : γ 1 10 (ρ 3 + 9 * ρ 2 + 1) 9 = ρ 31 := zAllA hm 34
  have m36 : γ 2 2 0 6 = ρ 33 := zAllA hm 36
  have l0 : sn114 [ρ 23, ρ 5] (γ 1) 0 (-1) (γ 2) := hS114 _ _ _ _ _ (zAllA hl 0)
  have l1 : sn109 [ρ 33, ρ 13] (γ 2) 0 0 (γ 3) := hS109 _ _ _ _ _ (zAllA hl 1)
  show sn145 [ρ 0, ρ 1, ρ 2, ρ 3, ρ 4, ρ 5, ρ 6, ρ 7, ρ 8, ρ 9, ρ 10, ρ 11, ρ 12, ρ 13, ρ 14, ρ 15, ρ 16, ρ 17, ρ 18, ρ 19, ρ 20, ρ 21] (γ 0) 0 0 (γ 3)
  have hD : en145 (γ 0) (0, [ρ 22], γ 1) = .inr (0, 0, γ 3) := by
    unfold en145
    refine zIP (show (0 : Nat) = 0 by decide) (zLV (γ 1) rfl (zLV (ρ 22) rfl (zLE m0 (zLE m1 (zLE m2 (zLE m13 (zLE m34 ?_)))))))
    refine zIP w_0 (zLE (show fn114 [] (γ 1) = (0, (-1), γ 2) from l0.symm) (zLV (γ 2) rfl (zIN zQ2_ (zLE m36 (zLE (show fn109 [ρ 33] (γ 2) = (0, 0, γ 3) from l1.symm) (zLV (γ 3) rfl ?_))))))
    rfl
  exact zGoo_aend hJ hD
theorem vn145a0_1 {S : Nat → zSpc} (hS103 : zIm S 103 sn103) (hS109 : zIm S 109 sn109) (hS114 : zIm S 114 sn114) (hS134 : zIm S 134 sn134) (hS142 : zIm S 142 sn142) (hS143 : zIm S 143 sn143) {a : List Int} {g : rHp} : ∀ (ρ : Nat → Int) (γ : Nat → rHp), jn145 a g 0 (zAg (zNA a145_ 0) ρ) (γ 1) → zO 22 S a g q145a0_1 ρ γ → zGl (fun i vs g1 => jn145 a g i vs g1) (sn145 a g) q145a0_1 ρ γ := by
  intro ρ γ hJ h
  obtain ⟨ha, hg, hr, hf, hm, hc, hl⟩ := h
  have ha : a = [ρ 0, ρ 1, ρ 2, ρ 3, ρ 4, ρ 5, ρ 6, ρ 7, ρ 8, ρ 9, ρ 10, ρ 11, ρ 12, ρ 13, ρ 14, ρ 15, ρ 16, ρ 17, ρ 18, ρ 19, ρ 20, ρ 21] := ha
  subst ha
  subst hg
  have hJ : jn145 [ρ 0, ρ 1, ρ 2, ρ 3, ρ 4, ρ 5, ρ 6, ρ 7, ρ 8, ρ 9, ρ 10, ρ 11, ρ 12, ρ 13, ρ 14, ρ 15, ρ 16, ρ 17, ρ 18, ρ 19, ρ 20, ρ 21] (γ 0) 0 [ρ 0, ρ 1, ρ 2, ρ 3, ρ 4, ρ 5, ρ 6, ρ 7, ρ 8, ρ 9, ρ 10, ρ 11, ρ 12, ρ 13, ρ 14, ρ 15, ρ 16, ρ 17, ρ 18, ρ 19, ρ 20, ρ 21, ρ 22, ρ 23, ρ 24, ρ 25, ρ 26, ρ 27, ρ 28, ρ 29, ρ 30, ρ 31, ρ 32] (γ 1) := hJ
  have r22 : (4 : Int) ≤ ρ 22 ∧ ρ 22 ≤ 4 := zRnA hr 22
  have r33 : (0 : Int) ≤ ρ 33 ∧ ρ 33 ≤ 255 := zRnA hr 33
  obtain ⟨w_0, w_1⟩ : (ρ 22 ≥ 4) ∧ ((0 : Int) ≤ ρ 33) := ⟨by omega, by omega⟩
  have m0 : γ 0 1 0 10 = ρ 1 := zAllA hm 0
  have m1 : γ 0 40 0 (ρ 1) = ρ 2 := zAllA hm 1
  have m2 : γ 0 9 (ρ 2) 2 = ρ 3 := zAllA hm 2
  have m13 : γ 0 2 0 5 = ρ 14 := zAllA hm 13
  have m34 : γ 1 10 (ρ 3 + 9 * ρ 2 + 1) 9 = ρ 31 := zAllA hm 34
  have m36 : γ 2 2 0 6 = ρ 34 := zAllA hm 36
  have l0 : sn114 [ρ 23, ρ 5] (γ 1) 0 (ρ 33) (γ 2) := hS114 _ _ _ _ _ (zAllA hl 0)
  have l1 : sn109 [ρ 34, ρ 13] (γ 2) 0 0 (γ 3) := hS109 _ _ _ _ _ (zAllA hl 1)
  show sn145 [ρ 0, ρ 1, ρ 2, ρ 3, ρ 4, ρ 5, ρ 6, ρ 7, ρ 8, ρ 9, ρ 10, ρ 11, ρ 12, ρ 13, ρ 14, ρ 15, ρ 16, ρ 17, ρ 18, ρ 19, ρ 20, ρ 21] (γ 0) 0 0 (γ 3)
  have hD : en145 (γ 0) (0, [ρ 22], γ 1) = .inr (0, 0, γ 3) := by
    unfold en145
    refine zIP (show (0 : Nat) = 0 by decide) (zLV (γ 1) rfl (zLV (ρ 22) rfl (zLE m0 (zLE m1 (zLE m2 (zLE m13 (zLE m34 ?_)))))))
    refine zIP w_0 (zLE (show fn114 [] (γ 1) = (0, ρ 33, γ 2) from l0.symm) (zLV (γ 2) rfl (zIP w_1 (zLE m36 (zLE (show fn109 [ρ 34] (γ 2) = (0, 0, γ 3) from l1.symm) (zLV (γ 3) rfl ?_))))))
    rfl
  exact zGoo_aend hJ hD
theorem vn145a0_2 {S : Nat → zSpc} (hS103 : zIm S 103 sn103) (hS109 : zIm S 109 sn109) (hS114 : zIm S 114 sn114) (hS134 : zIm S 134 sn134) (hS142 : zIm S 142 sn142) (hS143 : zIm S 143 sn143) {a : List Int} {g : rHp} : ∀ (ρ : Nat → Int) (γ : Nat → rHp), jn145 a g 0 (zAg (zNA a145_ 0) ρ) (γ 1) → zO 22 S a g q145a0_2 ρ γ → zGl (fun i vs g1 => jn145 a g i vs g1) (sn145 a g) q145a0_2 ρ γ := by
  intro ρ γ hJ h
  obtain ⟨ha, hg, hr, hf, hm, hc, hl⟩ := h
  have ha : a = [ρ 0, ρ 1, ρ 2, ρ 3, ρ 4, ρ 5, ρ 6, ρ 7, ρ 8, ρ 9, ρ 10, ρ 11, ρ 12, ρ 13, ρ 14, ρ 15, ρ 16, ρ 17, ρ 18, ρ 19, ρ 20, ρ 21] := ha
  subst ha
  subst hg
  have hJ : jn145 [ρ 0, ρ 1, ρ 2, ρ 3, ρ 4, ρ 5, ρ 6, ρ 7, ρ 8, ρ 9, ρ 10, ρ 11, ρ 12, ρ 13, ρ 14, ρ 15, ρ 16, ρ 17, ρ 18, ρ 19, ρ 20, ρ 21] (γ 0) 0 [ρ 0, ρ 1, ρ 2, ρ 3, ρ 4, ρ 5, ρ 6, ρ 7, ρ 8, ρ 9, ρ 10, ρ 11, ρ 12, ρ 13, ρ 14, ρ 15, ρ 16, ρ 17, ρ 18, ρ 19, ρ 20, ρ 21, ρ 22, ρ 23, ρ 24, ρ 25, ρ 26, ρ 27, ρ 28, ρ 29, ρ 30, ρ 31, ρ 32] (γ 1) := hJ
  have r22 : (0 : Int) ≤ ρ 22 ∧ ρ 22 ≤ 3 := zRnA hr 22
  have w_0 : ¬ (ρ 22 ≥ 4) := by omega
  have m0 : γ 0 1 0 10 = ρ 1 := zAllA hm 0
  have m1 : γ 0 40 0 (ρ 1) = ρ 2 := zAllA hm 1
  have m2 : γ 0 9 (ρ 2) 2 = ρ 3 := zAllA hm 2
  have m13 : γ 0 2 0 5 = ρ 14 := zAllA hm 13
  have m34 : γ 1 10 (ρ 3 + 9 * ρ 2 + 1) 9 = ρ 31 := zAllA hm 34
  have l0 : sn142 [ρ 1, ρ 2, ρ 3, ρ 23, ρ 5, ρ 24, ρ 0, ρ 10, ρ 11, ρ 13, ρ 26, ρ 27, ρ 28, ρ 29, ρ 30] (γ 1) 0 0 (γ 2) := hS142 _ _ _ _ _ (zAllA hl 0)
  show sn145 [ρ 0, ρ 1, ρ 2, ρ 3, ρ 4, ρ 5, ρ 6, ρ 7, ρ 8, ρ 9, ρ 10, ρ 11, ρ 12, ρ 13, ρ 14, ρ 15, ρ 16, ρ 17, ρ 18, ρ 19, ρ 20, ρ 21] (γ 0) 0 0 (γ 2)
  have hD : en145 (γ 0) (0, [ρ 22], γ 1) = .inr (0, 0, γ 2) := by
    unfold en145
    refine zIP (show (0 : Nat) = 0 by decide) (zLV (γ 1) rfl (zLV (ρ 22) rfl (zLE m0 (zLE m1 (zLE m2 (zLE m13 (zLE m34 ?_)))))))
    refine zIN w_0 (zLE (show fn142 [] (γ 1) = (0, 0, γ 2) from l0.symm) (zLV (γ 2) rfl (zIN zQ0_ ?_)))
    rfl
  exact zGoo_aend hJ hD
theorem vn145a0_3 {S : Nat → zSpc} (hS103 : zIm S 103 sn103) (hS109 : zIm S 109 sn109) (hS114 : zIm S 114 sn114) (hS134 : zIm S 134 sn134) (hS142 : zIm S 142 sn142) (hS143 : zIm S 143 sn143) {a : List Int} {g : rHp} : ∀ (ρ : Nat → Int) (γ : Nat → rHp), jn145 a g 0 (zAg (zNA a145_ 0) ρ) (γ 1) → zO 22 S a g q145a0_3 ρ γ → zGl (fun i vs g1 => jn145 a g i vs g1) (sn145 a g) q145a0_3 ρ γ := by
  intro ρ γ hJ h
  obtain ⟨ha, hg, hr, hf, hm, hc, hl⟩ := h
  have ha : a = [ρ 0, ρ 1, ρ 2, ρ 3, ρ 4, ρ 5, ρ 6, ρ 7, ρ 8, ρ 9, ρ 10, ρ 11, ρ 12, ρ 13, ρ 14, ρ 15, ρ 16, ρ 17, ρ 18, ρ 19, ρ 20, ρ 21] := ha
  subst ha
  subst hg
  have hJ : jn145 [ρ 0, ρ 1, ρ 2, ρ 3, ρ 4, ρ 5, ρ 6, ρ 7, ρ 8, ρ 9, ρ 10, ρ 11, ρ 12, ρ 13, ρ 14, ρ 15, ρ 16, ρ 17, ρ 18, ρ 19, ρ 20, ρ 21] (γ 0) 0 [ρ 0, ρ 1, ρ 2, ρ 3, ρ 4, ρ 5, ρ 6, ρ 7, ρ 8, ρ 9, ρ 10, ρ 11, ρ 12, ρ 13, ρ 14, ρ 15, ρ 16, ρ 17, ρ 18, ρ 19, ρ 20, ρ 21, ρ 22, ρ 23, ρ 24, ρ 25, ρ 26, ρ 27, ρ 28, ρ 29, ρ 30, ρ 31, ρ 32] (γ 1) := hJ
  have r22 : (0 : Int) ≤ ρ 22 ∧ ρ 22 ≤ 3 := zRnA hr 22
  have r31 : (0 : Int) ≤ ρ 31 ∧ ρ 31 ≤ 3 := zRnA hr 31
  obtain ⟨w_0, w_1⟩ : (¬ (ρ 22 ≥ 4)) ∧ (ρ 31 ≥ 0) := ⟨by omega, by omega⟩
  have m0 : γ 0 1 0 10 = ρ 1 := zAllA hm 0
  have m1 : γ 0 40 0 (ρ 1) = ρ 2 := zAllA hm 1
  have m2 : γ 0 9 (ρ 2) 2 = ρ 3 := zAllA hm 2
  have m13 : γ 0 2 0 5 = ρ 14 := zAllA hm 13
  have m34 : γ 1 10 (ρ 3 + 9 * ρ 2 + 1) 9 = ρ 31 := zAllA hm 34
  have m44 : γ 3 2 0 6 = ρ 40 := zAllA hm 44
  have l0 : sn142 [ρ 1, ρ 2, ρ 3, ρ 23, ρ 5, ρ 24, ρ 0, ρ 10, ρ 11, ρ 13, ρ 26, ρ 27, ρ 28, ρ 29, ρ 30] (γ 1) 0 1 (γ 2) := hS142 _ _ _ _ _ (zAllA hl 0)
  have l1 : sn114 [ρ 33, ρ 5] (γ 2) 0 (-1) (γ 3) := hS114 _ _ _ _ _ (zAllA hl 1)
  have l2 : sn109 [ρ 40, ρ 13] (γ 3) 0 0 (γ 4) := hS109 _ _ _ _ _ (zAllA hl 2)
  show sn145 [ρ 0, ρ 1, ρ 2, ρ 3, ρ 4, ρ 5, ρ 6, ρ 7, ρ 8, ρ 9, ρ 10, ρ 11, ρ 12, ρ 13, ρ 14, ρ 15, ρ 16, ρ 17, ρ 18, ρ 19, ρ 20, ρ 21] (γ 0) 0 0 (γ 4)
  have hD : en145 (γ 0) (0, [ρ 22], γ 1) = .inr (0, 0, γ 4) := by
    unfold en145
    refine zIP (show (0 : Nat) = 0 by decide) (zLV (γ 1) rfl (zLV (ρ 22) rfl (zLE m0 (zLE m1 (zLE m2 (zLE m13 (zLE m34 ?_)))))))
    refine zIN w_0 (zLE (show fn142 [] (γ 1) = (0, 1, γ 2) from l0.symm) (zLV (γ 2) rfl (zIP zQ1_ (zIP w_1 (zLE (show fn114 [] (γ 2) = (0, (-1), γ 3) from l1.symm) (zLV (γ 3) rfl (zIN zQ2_ ?_)))))))
    refine zLE m44 (zLE (show fn109 [ρ 40] (γ 3) = (0, 0, γ 4) from l2.symm) (zLV (γ 4) rfl ?_))
    rfl
  exact zGoo_aend hJ hD
theorem vn145a0_4 {S : Nat → zSpc} (hS103 : zIm S 103 sn103) (hS109 : zIm S 109 sn109) (hS114 : zIm S 114 sn114) (hS134 : zIm S 134 sn134) (hS142 : zIm S 142 sn142) (hS143 : zIm S 143 sn143) {a : List Int} {g : rHp} : ∀ (ρ : Nat → Int) (γ : Nat → rHp), jn145 a g 0 (zAg (zNA a145_ 0) ρ) (γ 1) → zO 22 S a g q145a0_4 ρ γ → zGl (fun i vs g1 => jn145 a g i vs g1) (sn145 a g) q145a0_4 ρ γ := by
  intro ρ γ hJ h
  obtain ⟨ha, hg, hr, hf, hm, hc, hl⟩ := h
  have ha : a = [ρ 0, ρ 1, ρ 2, ρ 3, ρ 4, ρ 5, ρ 6, ρ 7, ρ 8, ρ 9, ρ 10, ρ 11, ρ 12, ρ 13, ρ 14, ρ 15, ρ 16, ρ 17, ρ 18, ρ 19, ρ 20, ρ 21] := ha
  subst ha
  subst hg
  have hJ : jn145 [ρ 0, ρ 1, ρ 2, ρ 3, ρ 4, ρ 5, ρ 6, ρ 7, ρ 8, ρ 9, ρ 10, ρ 11, ρ 12, ρ 13, ρ 14, ρ 15, ρ 16, ρ 17, ρ 18, ρ 19, ρ 20, ρ 21] (γ 0) 0 [ρ 0, ρ 1, ρ 2, ρ 3, ρ 4, ρ 5, ρ 6, ρ 7, ρ 8, ρ 9, ρ 10, ρ 11, ρ 12, ρ 13, ρ 14, ρ 15, ρ 16, ρ 17, ρ 18, ρ 19, ρ 20, ρ 21, ρ 22, ρ 23, ρ 24, ρ 25, ρ 26, ρ 27, ρ 28, ρ 29, ρ 30, ρ 31, ρ 32] (γ 1) := hJ
  have r22 : (0 : Int) ≤ ρ 22 ∧ ρ 22 ≤ 3 := zRnA hr 22
  have r31 : (0 : Int) ≤ ρ 31 ∧ ρ 31 ≤ 3 := zRnA hr 31
  have r40 : (41 : Int) ≤ ρ 40 ∧ ρ 40 ≤ 41 := zRnA hr 40
  obtain ⟨w_0, w_1, w_2, w_3⟩ : (¬ (ρ 22 ≥ 4)) ∧ (ρ 31 ≥ 0) ∧ ((0 : Int) ≤ ρ 40) ∧ (ρ 40 = 41) := ⟨by omega, by omega, by omega, by omega⟩
  have m0 : γ 0 1 0 10 = ρ 1 := zAllA hm 0
  have m1 : γ 0 40 0 (ρ 1) = ρ 2 := zAllA hm 1
  have m2 : γ 0 9 (ρ 2) 2 = ρ 3 := zAllA hm 2
  have m13 : γ 0 2 0 5 = ρ 14 := zAllA hm 13
  have m34 : γ 1 10 (ρ 3 + 9 * ρ 2 + 1) 9 = ρ 31 := zAllA hm 34
  have m44 : γ 3 2 0 6 = ρ 41 := zAllA hm 44
  have c4 : γ 4 = rUp (γ 3) 2 0 6 (ρ 41 + 1) := And.right (zChA hc 1)
  have l0 : sn142 [ρ 1, ρ 2, ρ 3, ρ 23, ρ 5, ρ 24, ρ 0, ρ 10, ρ 11, ρ 13, ρ 26, ρ 27, ρ 28, ρ 29, ρ 30] (γ 1) 0 1 (γ 2) := hS142 _ _ _ _ _ (zAllA hl 0)
  have l1 : sn114 [ρ 33, ρ 5] (γ 2) 0 (ρ 40) (γ 3) := hS114 _ _ _ _ _ (zAllA hl 1)
  have l2 : sn134 [ρ 1, ρ 2, ρ 3, ρ 8, ρ 25, ρ 10, ρ 11, ρ 12, ρ 13, ρ 34, ρ 15] (γ 4) 0 0 (γ 5) := hS134 _ _ _ _ _ (zAllA hl 2)
  show sn145 [ρ 0, ρ 1, ρ 2, ρ 3, ρ 4, ρ 5, ρ 6, ρ 7, ρ 8, ρ 9, ρ 10, ρ 11, ρ 12, ρ 13, ρ 14, ρ 15, ρ 16, ρ 17, ρ 18, ρ 19, ρ 20, ρ 21] (γ 0) 0 0 (γ 5)
  have hD : en145 (γ 0) (0, [ρ 22], γ 1) = .inr (0, 0, γ 5) := by
    unfold en145
    refine zIP (show (0 : Nat) = 0 by decide) (zLV (γ 1) rfl (zLV (ρ 22) rfl (zLE m0 (zLE m1 (zLE m2 (zLE m13 (zLE m34 ?_)))))))
    refine zIN w_0 (zLE (show fn142 [] (γ 1) = (0, 1, γ 2) from l0.symm) (zLV (γ 2) rfl (zIP zQ1_ (zIP w_1 (zLE (show fn114 [] (γ 2) = (0, ρ 40, γ 3) from l1.symm) (zLV (γ 3) rfl (zIP w_2 ?_)))))))
    refine zLV (ρ 40) rfl (zLE m44 (zIP w_3 (zLE c4.symm (zLE (show fn134 [] (γ 4) = (0, 0, γ 5) from l2.symm) (zLV (γ 5) rfl (zIN zQ0_ ?_))))))
    rfl
  exact zGoo_aend hJ hD
theorem vn145a0_5 {S : Nat → zSpc} (hS103 : zIm S 103 sn103) (hS109 : zIm S 109 sn109) (hS114 : zIm S 114 sn114) (hS134 : zIm S 134 sn134) (hS142 : zIm S 142 sn142) (hS143 : zIm S 143 sn143) {a : List Int} {g : rHp} : ∀ (ρ : Nat → Int) (γ : Nat → rHp), jn145 a g 0 (zAg (zNA a145_ 0) ρ) (γ 1) → zO 22 S a g q145a0_5 ρ γ → zGl (fun i vs g1 => jn145 a g i vs g1) (sn145 a g) q145a0_5 ρ γ := by
  intro ρ γ hJ h
  obtain ⟨ha, hg, hr, hf, hm, hc, hl⟩ := h
  have ha : a = [ρ 0, ρ 1, ρ 2, ρ 3, ρ 4, ρ 5, ρ 6, ρ 7, ρ 8, ρ 9, ρ 10, ρ 11, ρ 12, ρ 13, ρ 14, ρ 15, ρ 16, ρ 17, ρ 18, ρ 19, ρ 20, ρ 21] := ha
  subst ha
  subst hg
  have hJ : jn145 [ρ 0, ρ 1, ρ 2, ρ 3, ρ 4, ρ 5, ρ 6, ρ 7, ρ 8, ρ 9, ρ 10, ρ 11, ρ 12, ρ 13, ρ 14, ρ 15, ρ 16, ρ 17, ρ 18, ρ 19, ρ 20, ρ 21] (γ 0) 0 [ρ 0, ρ 1, ρ 2, ρ 3, ρ 4, ρ 5, ρ 6, ρ 7, ρ 8, ρ 9, ρ 10, ρ 11, ρ 12, ρ 13, ρ 14, ρ 15, ρ 16, ρ 17, ρ 18, ρ 19, ρ 20, ρ 21, ρ 22, ρ 23, ρ 24, ρ 25, ρ 26, ρ 27, ρ 28, ρ 29, ρ 30, ρ 31, ρ 32] (γ 1) := hJ
  have r22 : (0 : Int) ≤ ρ 22 ∧ ρ 22 ≤ 3 := zRnA hr 22
  have r31 : (0 : Int) ≤ ρ 31 ∧ ρ 31 ≤ 3 := zRnA hr 31
  have r40 : (41 : Int) ≤ ρ 40 ∧ ρ 40 ≤ 41 := zRnA hr 40
  obtain ⟨w_0, w_1, w_2, w_3⟩ : (¬ (ρ 22 ≥ 4)) ∧ (ρ 31 ≥ 0) ∧ ((0 : Int) ≤ ρ 40) ∧ (ρ 40 = 41) := ⟨by omega, by omega, by omega, by omega⟩
  have m0 : γ 0 1 0 10 = ρ 1 := zAllA hm 0
  have m1 : γ 0 40 0 (ρ 1) = ρ 2 := zAllA hm 1
  have m2 : γ 0 9 (ρ 2) 2 = ρ 3 := zAllA hm 2
  have m13 : γ 0 2 0 5 = ρ 14 := zAllA hm 13
  have m34 : γ 1 10 (ρ 3 + 9 * ρ 2 + 1) 9 = ρ 31 := zAllA hm 34
  have m44 : γ 3 2 0 6 = ρ 41 := zAllA hm 44
  have c4 : γ 4 = rUp (γ 3) 2 0 6 (ρ 41 + 1) := And.right (zChA hc 1)
  have l0 : sn142 [ρ 1, ρ 2, ρ 3, ρ 23, ρ 5, ρ 24, ρ 0, ρ 10, ρ 11, ρ 13, ρ 26, ρ 27, ρ 28, ρ 29, ρ 30] (γ 1) 0 1 (γ 2) := hS142 _ _ _ _ _ (zAllA hl 0)
  have l1 : sn114 [ρ 33, ρ 5] (γ 2) 0 (ρ 40) (γ 3) := hS114 _ _ _ _ _ (zAllA hl 1)
  have l2 : sn134 [ρ 1, ρ 2, ρ 3, ρ 8, ρ 25, ρ 10, ρ 11, ρ 12, ρ 13, ρ 34, ρ 15] (γ 4) 0 1 (γ 5) := hS134 _ _ _ _ _ (zAllA hl 2)
  show sn145 [ρ 0, ρ 1, ρ 2, ρ 3, ρ 4, ρ 5, ρ 6, ρ 7, ρ 8, ρ 9, ρ 10, ρ 11, ρ 12, ρ 13, ρ 14, ρ 15, ρ 16, ρ 17, ρ 18, ρ 19, ρ 20, ρ 21] (γ 0) 0 1 (γ 5)
  have hD : en145 (γ 0) (0, [ρ 22], γ 1) = .inr (0, 1, γ 5) := by
    unfold en145
    refine zIP (show (0 : Nat) = 0 by decide) (zLV (γ 1) rfl (zLV (ρ 22) rfl (zLE m0 (zLE m1 (zLE m2 (zLE m13 (zLE m34 ?_)))))))
    refine zIN w_0 (zLE (show fn142 [] (γ 1) = (0, 1, γ 2) from l0.symm) (zLV (γ 2) rfl (zIP zQ1_ (zIP w_1 (zLE (show fn114 [] (γ 2) = (0, ρ 40, γ 3) from l1.symm) (zLV (γ 3) rfl (zIP w_2 ?_)))))))
    refine zLV (ρ 40) rfl (zLE m44 (zIP w_3 (zLE c4.symm (zLE (show fn134 [] (γ 4) = (0, 1, γ 5) from l2.symm) (zLV (γ 5) rfl (zIP zQ1_ ?_))))))
    rfl
  exact zGoo_aend hJ hD
theorem vn145a0_6 {S : Nat → zSpc} (hS103 : zIm S 103 sn103) (hS109 : zIm S 109 sn109) (hS114 : zIm S 114 sn114) (hS134 : zIm S 134 sn134) (hS142 : zIm S 142 sn142) (hS143 : zIm S 143 sn143) {a : List Int} {g : rHp} : ∀ (ρ : Nat → Int) (γ : Nat → rHp), jn145 a g 0 (zAg (zNA a145_ 0) ρ) (γ 1) → zO 22 S a g q145a0_6 ρ γ → zGl (fun i vs g1 => jn145 a g i vs g1) (sn145 a g) q145a0_6 ρ γ := by
  intro ρ γ hJ h
  obtain ⟨ha, hg, hr, hf, hm, hc, hl⟩ := h
  have ha : a = [ρ 0, ρ 1, ρ 2, ρ 3, ρ 4, ρ 5, ρ 6, ρ 7, ρ 8, ρ 9, ρ 10, ρ 11, ρ 12, ρ 13, ρ 14, ρ 15, ρ 16, ρ 17, ρ 18, ρ 19, ρ 20, ρ 21] := ha
  subst ha
  subst hg
  have hJ : jn145 [ρ 0, ρ 1, ρ 2, ρ 3, ρ 4, ρ 5, ρ 6, ρ 7, ρ 8, ρ 9, ρ 10, ρ 11, ρ 12, ρ 13, ρ 14, ρ 15, ρ 16, ρ 17, ρ 18, ρ 19, ρ 20, ρ 21] (γ 0) 0 [ρ 0, ρ 1, ρ 2, ρ 3, ρ 4, ρ 5, ρ 6, ρ 7, ρ 8, ρ 9, ρ 10, ρ 11, ρ 12, ρ 13, ρ 14, ρ 15, ρ 16, ρ 17, ρ 18, ρ 19, ρ 20, ρ 21, ρ 22, ρ 23, ρ 24, ρ 25, ρ 26, ρ 27, ρ 28, ρ 29, ρ 30, ρ 31, ρ 32] (γ 1) := hJ
  have r22 : (0 : Int) ≤ ρ 22 ∧ ρ 22 ≤ 3 := zRnA hr 22
  have r31 : (0 : Int) ≤ ρ 31 ∧ ρ 31 ≤ 3 := zRnA hr 31
  have r40 : (41 : Int) ≤ ρ 40 ∧ ρ 40 ≤ 41 := zRnA hr 40
  obtain ⟨w_0, w_1, w_2, w_3⟩ : (¬ (ρ 22 ≥ 4)) ∧ (ρ 31 ≥ 0) ∧ ((0 : Int) ≤ ρ 40) ∧ (ρ 40 = 41) := ⟨by omega, by omega, by omega, by omega⟩
  have m0 : γ 0 1 0 10 = ρ 1 := zAllA hm 0
  have m1 : γ 0 40 0 (ρ 1) = ρ 2 := zAllA hm 1
  have m2 : γ 0 9 (ρ 2) 2 = ρ 3 := zAllA hm 2
  have m13 : γ 0 2 0 5 = ρ 14 := zAllA hm 13
  have m34 : γ 1 10 (ρ 3 + 9 * ρ 2 + 1) 9 = ρ 31 := zAllA hm 34
  have m44 : γ 3 2 0 6 = ρ 41 := zAllA hm 44
  have c4 : γ 4 = rUp (γ 3) 2 0 6 (ρ 41 + 1) := And.right (zChA hc 1)
  have l0 : sn142 [ρ 1, ρ 2, ρ 3, ρ 23, ρ 5, ρ 24, ρ 0, ρ 10, ρ 11, ρ 13, ρ 26, ρ 27, ρ 28, ρ 29, ρ 30] (γ 1) 0 1 (γ 2) := hS142 _ _ _ _ _ (zAllA hl 0)
  have l1 : sn114 [ρ 33, ρ 5] (γ 2) 0 (ρ 40) (γ 3) := hS114 _ _ _ _ _ (zAllA hl 1)
  have l2 : sn134 [ρ 1, ρ 2, ρ 3, ρ 8, ρ 25, ρ 10, ρ 11, ρ 12, ρ 13, ρ 34, ρ 15] (γ 4) 0 1 (γ 5) := hS134 _ _ _ _ _ (zAllA hl 2)
  show sn145 [ρ 0, ρ 1, ρ 2, ρ 3, ρ 4, ρ 5, ρ 6, ρ 7, ρ 8, ρ 9, ρ 10, ρ 11, ρ 12, ρ 13, ρ 14, ρ 15, ρ 16, ρ 17, ρ 18, ρ 19, ρ 20, ρ 21] (γ 0) 0 1 (γ 5)
  have hD : en145 (γ 0) (0, [ρ 22], γ 1) = .inr (0, 1, γ 5) := by
    unfold en145
    refine zIP (show (0 : Nat) = 0 by decide) (zLV (γ 1) rfl (zLV (ρ 22) rfl (zLE m0 (zLE m1 (zLE m2 (zLE m13 (zLE m34 ?_)))))))
    refine zIN w_0 (zLE (show fn142 [] (γ 1) = (0, 1, γ 2) from l0.symm) (zLV (γ 2) rfl (zIP zQ1_ (zIP w_1 (zLE (show fn114 [] (γ 2) = (0, ρ 40, γ 3) from l1.symm) (zLV (γ 3) rfl (zIP w_2 ?_)))))))
    refine zLV (ρ 40) rfl (zLE m44 (zIP w_3 (zLE c4.symm (zLE (show fn134 [] (γ 4) = (0, 1, γ 5) from l2.symm) (zLV (γ 5) rfl (zIP zQ1_ ?_))))))
    rfl
  exact zGoo_aend hJ hD
theorem vn145a0_7 {S : Nat → zSpc} (hS103 : zIm S 103 sn103) (hS109 : zIm S 109 sn109) (hS114 : zIm S 114 sn114) (hS134 : zIm S 134 sn134) (hS142 : zIm S 142 sn142) (hS143 : zIm S 143 sn143) {a : List Int} {g : rHp} : ∀ (ρ : Nat → Int) (γ : Nat → rHp), jn145 a g 0 (zAg (zNA a145_ 0) ρ) (γ 1) → zO 22 S a g q145a0_7 ρ γ → zGl (fun i vs g1 => jn145 a g i vs g1) (sn145 a g) q145a0_7 ρ γ := by
  intro ρ γ hJ h
  obtain ⟨ha, hg, hr, hf, hm, hc, hl⟩ := h
  have ha : a = [ρ 0, ρ 1, ρ 2, ρ 3, ρ 4, ρ 5, ρ 6, ρ 7, ρ 8, ρ 9, ρ 10, ρ 11, ρ 12, ρ 13, ρ 14, ρ 15, ρ 16, ρ 17, ρ 18, ρ 19, ρ 20, ρ 21] := ha
  subst ha
  subst hg
  have hJ : jn145 [ρ 0, ρ 1, ρ 2, ρ 3, ρ 4, ρ 5, ρ 6, ρ 7, ρ 8, ρ 9, ρ 10, ρ 11, ρ 12, ρ 13, ρ 14, ρ 15, ρ 16, ρ 17, ρ 18, ρ 19, ρ 20, ρ 21] (γ 0) 0 [ρ 0, ρ 1, ρ 2, ρ 3, ρ 4, ρ 5, ρ 6, ρ 7, ρ 8, ρ 9, ρ 10, ρ 11, ρ 12, ρ 13, ρ 14, ρ 15, ρ 16, ρ 17, ρ 18, ρ 19, ρ 20, ρ 21, ρ 22, ρ 23, ρ 24, ρ 25, ρ 26, ρ 27, ρ 28, ρ 29, ρ 30, ρ 31, ρ 32] (γ 1) := hJ
  have r22 : (0 : Int) ≤ ρ 22 ∧ ρ 22 ≤ 3 := zRnA hr 22
  have r31 : (0 : Int) ≤ ρ 31 ∧ ρ 31 ≤ 3 := zRnA hr 31
  have r40 : (44 : Int) ≤ ρ 40 ∧ ρ 40 ≤ 44 := zRnA hr 40
  obtain ⟨w_0, w_1, w_2, w_3, w_4⟩ : (¬ (ρ 22 ≥ 4)) ∧ (ρ 31 ≥ 0) ∧ ((0 : Int) ≤ ρ 40) ∧ (¬ (ρ 40 = 41)) ∧ (ρ 40 = 44) := ⟨by omega, by omega, by omega, by omega, by omega⟩
  have m0 : γ 0 1 0 10 = ρ 1 := zAllA hm 0
  have m1 : γ 0 40 0 (ρ 1) = ρ 2 := zAllA hm 1
  have m2 : γ 0 9 (ρ 2) 2 = ρ 3 := zAllA hm 2
  have m13 : γ 0 2 0 5 = ρ 14 := zAllA hm 13
  have m34 : γ 1 10 (ρ 3 + 9 * ρ 2 + 1) 9 = ρ 31 := zAllA hm 34
  have m44 : γ 3 2 0 6 = ρ 41 := zAllA hm 44
  have c4 : γ 4 = rUp (γ 3) 2 0 6 (ρ 41 + 1) := And.right (zChA hc 0)
  have l0 : sn142 [ρ 1, ρ 2, ρ 3, ρ 23, ρ 5, ρ 24, ρ 0, ρ 10, ρ 11, ρ 13, ρ 26, ρ 27, ρ 28, ρ 29, ρ 30] (γ 1) 0 1 (γ 2) := hS142 _ _ _ _ _ (zAllA hl 0)
  have l1 : sn114 [ρ 33, ρ 5] (γ 2) 0 (ρ 40) (γ 3) := hS114 _ _ _ _ _ (zAllA hl 1)
  have l2 : ρ 40 ≠ 41 := zAllA hl 2
  show jn145 [ρ 0, ρ 1, ρ 2, ρ 3, ρ 4, ρ 5, ρ 6, ρ 7, ρ 8, ρ 9, ρ 10, ρ 11, ρ 12, ρ 13, ρ 14, ρ 15, ρ 16, ρ 17, ρ 18, ρ 19, ρ 20, ρ 21] (γ 0) 0 [ρ 0, ρ 1, ρ 2, ρ 3, ρ 4, ρ 5, ρ 6, ρ 7, ρ 8, ρ 9, ρ 10, ρ 11, ρ 12, ρ 13, ρ 14, ρ 15, ρ 16, ρ 17, ρ 18, ρ 19, ρ 20, ρ 21, ρ 22 + 1, ρ 41 + 1, ρ 34, ρ 25, ρ 35, ρ 36, ρ 37, ρ 38, ρ 39, ρ 31, ρ 32] (γ 4)
  have hD : en145 (γ 0) (0, [ρ 22], γ 1) = .inl (0, [ρ 22 + 1], γ 4) := by
    unfold en145
    refine zIP (show (0 : Nat) = 0 by decide) (zLV (γ 1) rfl (zLV (ρ 22) rfl (zLE m0 (zLE m1 (zLE m2 (zLE m13 (zLE m34 ?_)))))))
    refine zIN w_0 (zLE (show fn142 [] (γ 1) = (0, 1, γ 2) from l0.symm) (zLV (γ 2) rfl (zIP zQ1_ (zIP w_1 (zLE (show fn114 [] (γ 2) = (0, ρ 40, γ 3) from l1.symm) (zLV (γ 3) rfl (zIP w_2 ?_)))))))
    refine zLV (ρ 40) rfl (zLE m44 (zIN w_3 (zIP w_4 (zLE c4.symm ?_))))
    rfl
  exact zGoo_ato hJ hD
theorem vn145a0_8 {S : Nat → zSpc} (hS103 : zIm S 103 sn103) (hS109 : zIm S 109 sn109) (hS114 : zIm S 114 sn114) (hS134 : zIm S 134 sn134) (hS142 : zIm S 142 sn142) (hS143 : zIm S 143 sn143) {a : List Int} {g : rHp} : ∀ (ρ : Nat → Int) (γ : Nat → rHp), jn145 a g 0 (zAg (zNA a145_ 0) ρ) (γ 1) → zO 22 S a g q145a0_8 ρ γ → zGl (fun i vs g1 => jn145 a g i vs g1) (sn145 a g) q145a0_8 ρ γ := by
  intro ρ γ hJ h
  obtain ⟨ha, hg, hr, hf, hm, hc, hl⟩ := h
  have ha : a = [ρ 0, ρ 1, ρ 2, ρ 3, ρ 4, ρ 5, ρ 6, ρ 7, ρ 8, ρ 9, ρ 10, ρ 11, ρ 12, ρ 13, ρ 14, ρ 15, ρ 16, ρ 17, ρ 18, ρ 19, ρ 20, ρ 21] := ha
  subst ha
  subst hg
  have hJ : jn145 [ρ 0, ρ 1, ρ 2, ρ 3, ρ 4, ρ 5, ρ 6, ρ 7, ρ 8, ρ 9, ρ 10, ρ 11, ρ 12, ρ 13, ρ 14, ρ 15, ρ 16, ρ 17, ρ 18, ρ 19, ρ 20, ρ 21] (γ 0) 0 [ρ 0, ρ 1, ρ 2, ρ 3, ρ 4, ρ 5, ρ 6, ρ 7, ρ 8, ρ 9, ρ 10, ρ 11, ρ 12, ρ 13, ρ 14, ρ 15, ρ 16, ρ 17, ρ 18, ρ 19, ρ 20, ρ 21, ρ 22, ρ 23, ρ 24, ρ 25, ρ 26, ρ 27, ρ 28, ρ 29, ρ 30, ρ 31, ρ 32] (γ 1) := hJ
  have r22 : (0 : Int) ≤ ρ 22 ∧ ρ 22 ≤ 3 := zRnA hr 22
  have r31 : (0 : Int) ≤ ρ 31 ∧ ρ 31 ≤ 3 := zRnA hr 31
  have r40 : (0 : Int) ≤ ρ 40 ∧ ρ 40 ≤ 255 := zRnA hr 40
  obtain ⟨w_0, w_1, w_2⟩ : (¬ (ρ 22 ≥ 4)) ∧ (ρ 31 ≥ 0) ∧ ((0 : Int) ≤ ρ 40) := ⟨by omega, by omega, by omega⟩
  have m0 : γ 0 1 0 10 = ρ 1 := zAllA hm 0
  have m1 : γ 0 40 0 (ρ 1) = ρ 2 := zAllA hm 1
  have m2 : γ 0 9 (ρ 2) 2 = ρ 3 := zAllA hm 2
  have m13 : γ 0 2 0 5 = ρ 14 := zAllA hm 13
  have m34 : γ 1 10 (ρ 3 + 9 * ρ 2 + 1) 9 = ρ 31 := zAllA hm 34
  have m44 : γ 3 2 0 6 = ρ 41 := zAllA hm 44
  have l0 : sn142 [ρ 1, ρ 2, ρ 3, ρ 23, ρ 5, ρ 24, ρ 0, ρ 10, ρ 11, ρ 13, ρ 26, ρ 27, ρ 28, ρ 29, ρ 30] (γ 1) 0 1 (γ 2) := hS142 _ _ _ _ _ (zAllA hl 0)
  have l1 : sn114 [ρ 33, ρ 5] (γ 2) 0 (ρ 40) (γ 3) := hS114 _ _ _ _ _ (zAllA hl 1)
  have l2 : ρ 40 ≠ 41 := zAllA hl 2
  have l3 : ρ 40 ≠ 44 := zAllA hl 3
  have l4 : sn109 [ρ 41, ρ 13] (γ 3) 0 0 (γ 4) := hS109 _ _ _ _ _ (zAllA hl 4)
  obtain ⟨wl_0, wl_1⟩ : (¬ (ρ 40 = 41)) ∧ (¬ (ρ 40 = 44)) := ⟨by omega, by omega⟩
  show sn145 [ρ 0, ρ 1, ρ 2, ρ 3, ρ 4, ρ 5, ρ 6, ρ 7, ρ 8, ρ 9, ρ 10, ρ 11, ρ 12, ρ 13, ρ 14, ρ 15, ρ 16, ρ 17, ρ 18, ρ 19, ρ 20, ρ 21] (γ 0) 0 0 (γ 4)
  have hD : en145 (γ 0) (0, [ρ 22], γ 1) = .inr (0, 0, γ 4) := by
    unfold en145
    refine zIP (show (0 : Nat) = 0 by decide) (zLV (γ 1) rfl (zLV (ρ 22) rfl (zLE m0 (zLE m1 (zLE m2 (zLE m13 (zLE m34 ?_)))))))
    refine zIN w_0 (zLE (show fn142 [] (γ 1) = (0, 1, γ 2) from l0.symm) (zLV (γ 2) rfl (zIP zQ1_ (zIP w_1 (zLE (show fn114 [] (γ 2) = (0, ρ 40, γ 3) from l1.symm) (zLV (γ 3) rfl (zIP w_2 ?_)))))))
    refine zLV (ρ 40) rfl (zLE m44 (zIN wl_0 (zIN wl_1 (zLE (show fn109 [ρ 41] (γ 3) = (0, 0, γ 4) from l4.symm) (zLV (γ 4) rfl ?_)))))
    rfl
  exact zGoo_aend hJ hD
theorem vn145a0_9 {S : Nat → zSpc} (hS103 : zIm S 103 sn103) (hS109 : zIm S 109 sn109) (hS114 : zIm S 114 sn114) (hS134 : zIm S 134 sn134) (hS142 : zIm S 142 sn142) (hS143 : zIm S 143 sn143) {a : List Int} {g : rHp} : ∀ (ρ : Nat → Int) (γ : Nat → rHp), jn145 a g 0 (zAg (zNA a145_ 0) ρ) (γ 1) → zO 22 S a g q145a0_9 ρ γ → zGl (fun i vs g1 => jn145 a g i vs g1) (sn145 a g) q145a0_9 ρ γ := by
  intro ρ γ hJ h
  obtain ⟨ha, hg, hr, hf, hm, hc, hl⟩ := h
  have ha : a = [ρ 0, ρ 1, ρ 2, ρ 3, ρ 4, ρ 5, ρ 6, ρ 7, ρ 8, ρ 9, ρ 10, ρ 11, ρ 12, ρ 13, ρ 14, ρ 15, ρ 16, ρ 17, ρ 18, ρ 19, ρ 20, ρ 21] := ha
  subst ha
  subst hg
  have hJ : jn145 [ρ 0, ρ 1, ρ 2, ρ 3, ρ 4, ρ 5, ρ 6, ρ 7, ρ 8, ρ 9, ρ 10, ρ 11, ρ 12, ρ 13, ρ 14, ρ 15, ρ 16, ρ 17, ρ 18, ρ 19, ρ 20, ρ 21] (γ 0) 0 [ρ 0, ρ 1, ρ 2, ρ 3, ρ 4, ρ 5, ρ 6, ρ 7, ρ 8, ρ 9, ρ 10, ρ 11, ρ 12, ρ 13, ρ 14, ρ 15, ρ 16, ρ 17, ρ 18, ρ 19, ρ 20, ρ 21, ρ 22, ρ 23, ρ 24, ρ 25, ρ 26, ρ 27, ρ 28, ρ 29, ρ 30, ρ 31, ρ 32] (γ 1) := hJ
  have r22 : (0 : Int) ≤ ρ 22 ∧ ρ 22 ≤ 3 := zRnA hr 22
  have r31 : ((-1) : Int) ≤ ρ 31 ∧ ρ 31 ≤ (-1) := zRnA hr 31
  obtain ⟨w_0, w_1⟩ : (¬ (ρ 22 ≥ 4)) ∧ (¬ (ρ 31 ≥ 0)) := ⟨by omega, by omega⟩
  have m0 : γ 0 1 0 10 = ρ 1 := zAllA hm 0
  have m1 : γ 0 40 0 (ρ 1) = ρ 2 := zAllA hm 1
  have m2 : γ 0 9 (ρ 2) 2 = ρ 3 := zAllA hm 2
  have m13 : γ 0 2 0 5 = ρ 14 := zAllA hm 13
  have m34 : γ 1 10 (ρ 3 + 9 * ρ 2 + 1) 9 = ρ 31 := zAllA hm 34
  have m44 : γ 4 2 0 6 = ρ 40 := zAllA hm 44
  have l0 : sn142 [ρ 1, ρ 2, ρ 3, ρ 23, ρ 5, ρ 24, ρ 0, ρ 10, ρ 11, ρ 13, ρ 26, ρ 27, ρ 28, ρ 29, ρ 30] (γ 1) 0 1 (γ 2) := hS142 _ _ _ _ _ (zAllA hl 0)
  have l1 : sn143 [ρ 3 + 9 * ρ 2 + 1, ρ 22, ρ 14] (γ 2) 0 0 (γ 3) := hS143 _ _ _ _ _ (zAllA hl 1)
  have l2 : sn114 [ρ 33, ρ 5] (γ 3) 0 (-1) (γ 4) := hS114 _ _ _ _ _ (zAllA hl 2)
  have l3 : sn109 [ρ 40, ρ 13] (γ 4) 0 0 (γ 5) := hS109 _ _ _ _ _ (zAllA hl 3)
  show sn145 [ρ 0, ρ 1, ρ 2, ρ 3, ρ 4, ρ 5, ρ 6, ρ 7, ρ 8, ρ 9, ρ 10, ρ 11, ρ 12, ρ 13, ρ 14, ρ 15, ρ 16, ρ 17, ρ 18, ρ 19, ρ 20, ρ 21] (γ 0) 0 0 (γ 5)
  have hD : en145 (γ 0) (0, [ρ 22], γ 1) = .inr (0, 0, γ 5) := by
    unfold en145
    refine zIP (show (0 : Nat) = 0 by decide) (zLV (γ 1) rfl (zLV (ρ 22) rfl (zLE m0 (zLE m1 (zLE m2 (zLE m13 (zLE m34 ?_)))))))
    refine zIN w_0 (zLE (show fn142 [] (γ 1) = (0, 1, γ 2) from l0.symm) (zLV (γ 2) rfl (zIP zQ1_ (zIN w_1 (zLE (show fn143 [ρ 3 + 9 * ρ 2 + 1, ρ 22, ρ 14] (γ 2) = (0, 0, γ 3) from l1.symm) (zLV (γ 3) rfl (zIN zQ0_ ?_)))))))
    refine zLE (show fn114 [] (γ 3) = (0, (-1), γ 4) from l2.symm) (zLV (γ 4) rfl (zIN zQ2_ (zLE m44 (zLE (show fn109 [ρ 40] (γ 4) = (0, 0, γ 5) from l3.symm) (zLV (γ 5) rfl ?_)))))
    rfl
  exact zGoo_aend hJ hD
theorem vn145a0_10 {S : Nat → zSpc} (hS103 : zIm S 103 sn103) (hS109 : zIm S 109 sn109) (hS114 : zIm S 114 sn114) (hS134 : zIm S 134 sn134) (hS142 : zIm S 142 sn142) (hS143 : zIm S 143 sn143) {a : List Int} {g : rHp} : ∀ (ρ : Nat → Int) (γ : Nat → rHp), jn145 a g 0 (zAg (zNA a145_ 0) ρ) (γ 1) → zO 22 S a g q145a0_10 ρ γ → zGl (fun i vs g1 => jn145 a g i vs g1) (sn145 a g) q145a0_10 ρ γ := by
  intro ρ γ hJ h
  obtain ⟨ha, hg, hr, hf, hm, hc, hl⟩ := h
  have ha : a = [ρ 0, ρ 1, ρ 2, ρ 3, ρ 4, ρ 5, ρ 6, ρ 7, ρ 8, ρ 9, ρ 10, ρ 11, ρ 12, ρ 13, ρ 14, ρ 15, ρ 16, ρ 17, ρ 18, ρ 19, ρ 20, ρ 21] := ha
  subst ha
  subst hg
  have hJ : jn145 [ρ 0, ρ 1, ρ 2, ρ 3, ρ 4, ρ 5, ρ 6, ρ 7, ρ 8, ρ 9, ρ 10, ρ 11, ρ 12, ρ 13, ρ 14, ρ 15, ρ 16, ρ 17, ρ 18, ρ 19, ρ 20, ρ 21] (γ 0) 0 [ρ 0, ρ 1, ρ 2, ρ 3, ρ 4, ρ 5, ρ 6, ρ 7, ρ 8, ρ 9, ρ 10, ρ 11, ρ 12, ρ 13, ρ 14, ρ 15, ρ 16, ρ 17, ρ 18, ρ 19, ρ 20, ρ 21, ρ 22, ρ 23, ρ 24, ρ 25, ρ 26, ρ 27, ρ 28, ρ 29, ρ 30, ρ 31, ρ 32] (γ 1) := hJ
  have r22 : (0 : Int) ≤ ρ 22 ∧ ρ 22 ≤ 3 := zRnA hr 22
  have r31 : ((-1) : Int) ≤ ρ 31 ∧ ρ 31 ≤ (-1) := zRnA hr 31
  have r40 : (41 : Int) ≤ ρ 40 ∧ ρ 40 ≤ 41 := zRnA hr 40
  obtain ⟨w_0, w_1, w_2, w_3⟩ : (¬ (ρ 22 ≥ 4)) ∧ (¬ (ρ 31 ≥ 0)) ∧ ((0 : Int) ≤ ρ 40) ∧ (ρ 40 = 41) := ⟨by omega, by omega, by omega, by omega⟩
  have m0 : γ 0 1 0 10 = ρ 1 := zAllA hm 0
  have m1 : γ 0 40 0 (ρ 1) = ρ 2 := zAllA hm 1
  have m2 : γ 0 9 (ρ 2) 2 = ρ 3 := zAllA hm 2
  have m13 : γ 0 2 0 5 = ρ 14 := zAllA hm 13
  have m34 : γ 1 10 (ρ 3 + 9 * ρ 2 + 1) 9 = ρ 31 := zAllA hm 34
  have m44 : γ 4 2 0 6 = ρ 41 := zAllA hm 44
  have c5 : γ 5 = rUp (γ 4) 2 0 6 (ρ 41 + 1) := And.right (zChA hc 1)
  have l0 : sn142 [ρ 1, ρ 2, ρ 3, ρ 23, ρ 5, ρ 24, ρ 0, ρ 10, ρ 11, ρ 13, ρ 26, ρ 27, ρ 28, ρ 29, ρ 30] (γ 1) 0 1 (γ 2) := hS142 _ _ _ _ _ (zAllA hl 0)
  have l1 : sn143 [ρ 3 + 9 * ρ 2 + 1, ρ 22, ρ 14] (γ 2) 0 0 (γ 3) := hS143 _ _ _ _ _ (zAllA hl 1)
  have l2 : sn114 [ρ 33, ρ 5] (γ 3) 0 (ρ 40) (γ 4) := hS114 _ _ _ _ _ (zAllA hl 2)
  have l3 : sn134 [ρ 1, ρ 2, ρ 3, ρ 8, ρ 25, ρ 10, ρ 11, ρ 12, ρ 13, ρ 34, ρ 15] (γ 5) 0 0 (γ 6) := hS134 _ _ _ _ _ (zAllA hl 3)
  show sn145 [ρ 0, ρ 1, ρ 2, ρ 3, ρ 4, ρ 5, ρ 6, ρ 7, ρ 8, ρ 9, ρ 10, ρ 11, ρ 12, ρ 13, ρ 14, ρ 15, ρ 16, ρ 17, ρ 18, ρ 19, ρ 20, ρ 21] (γ 0) 0 0 (γ 6)
  have hD : en145 (γ 0) (0, [ρ 22], γ 1) = .inr (0, 0, γ 6) := by
    unfold en145
    refine zIP (show (0 : Nat) = 0 by decide) (zLV (γ 1) rfl (zLV (ρ 22) rfl (zLE m0 (zLE m1 (zLE m2 (zLE m13 (zLE m34 ?_)))))))
    refine zIN w_0 (zLE (show fn142 [] (γ 1) = (0, 1, γ 2) from l0.symm) (zLV (γ 2) rfl (zIP zQ1_ (zIN w_1 (zLE (show fn143 [ρ 3 + 9 * ρ 2 + 1, ρ 22, ρ 14] (γ 2) = (0, 0, γ 3) from l1.symm) (zLV (γ 3) rfl (zIN zQ0_ ?_)))))))
    refine zLE (show fn114 [] (γ 3) = (0, ρ 40, γ 4) from l2.symm) (zLV (γ 4) rfl (zIP w_2 (zLV (ρ 40) rfl (zLE m44 (zIP w_3 (zLE c5.symm (zLE (show fn134 [] (γ 5) = (0, 0, γ 6) from l3.symm) ?_)))))))
    refine zLV (γ 6) rfl (zIN zQ0_ ?_)
    rfl
  exact zGoo_aend hJ hD
theorem vn145a0_11 {S : Nat → zSpc} (hS103 : zIm S 103 sn103) (hS109 : zIm S 109 sn109) (hS114 : zIm S 114 sn114) (hS134 : zIm S 134 sn134) (hS142 : zIm S 142 sn142) (hS143 : zIm S 143 sn143) {a : List Int} {g : rHp} : ∀ (ρ : Nat → Int) (γ : Nat → rHp), jn145 a g 0 (zAg (zNA a145_ 0) ρ) (γ 1) → zO 22 S a g q145a0_11 ρ γ → zGl (fun i vs g1 => jn145 a g i vs g1) (sn145 a g) q145a0_11 ρ γ := by
  intro ρ γ hJ h
  obtain ⟨ha, hg, hr, hf, hm, hc, hl⟩ := h
  have ha : a = [ρ 0, ρ 1, ρ 2, ρ 3, ρ 4, ρ 5, ρ 6, ρ 7, ρ 8, ρ 9, ρ 10, ρ 11, ρ 12, ρ 13, ρ 14, ρ 15, ρ 16, ρ 17, ρ 18, ρ 19, ρ 20, ρ 21] := ha
  subst ha
  subst hg
  have hJ : jn145 [ρ 0, ρ 1, ρ 2, ρ 3, ρ 4, ρ 5, ρ 6, ρ 7, ρ 8, ρ 9, ρ 10, ρ 11, ρ 12, ρ 13, ρ 14, ρ 15, ρ 16, ρ 17, ρ 18, ρ 19, ρ 20, ρ 21] (γ 0) 0 [ρ 0, ρ 1, ρ 2, ρ 3, ρ 4, ρ 5, ρ 6, ρ 7, ρ 8, ρ 9, ρ 10, ρ 11, ρ 12, ρ 13, ρ 14, ρ 15, ρ 16, ρ 17, ρ 18, ρ 19, ρ 20, ρ 21, ρ 22, ρ 23, ρ 24, ρ 25, ρ 26, ρ 27, ρ 28, ρ 29, ρ 30, ρ 31, ρ 32] (γ 1) := hJ
  have r22 : (0 : Int) ≤ ρ 22 ∧ ρ 22 ≤ 3 := zRnA hr 22
  have r31 : ((-1) : Int) ≤ ρ 31 ∧ ρ 31 ≤ (-1) := zRnA hr 31
  have r40 : (41 : Int) ≤ ρ 40 ∧ ρ 40 ≤ 41 := zRnA hr 40
  obtain ⟨w_0, w_1, w_2, w_3⟩ : (¬ (ρ 22 ≥ 4)) ∧ (¬ (ρ 31 ≥ 0)) ∧ ((0 : Int) ≤ ρ 40) ∧ (ρ 40 = 41) := ⟨by omega, by omega, by omega, by omega⟩
  have m0 : γ 0 1 0 10 = ρ 1 := zAllA hm 0
  have m1 : γ 0 40 0 (ρ 1) = ρ 2 := zAllA hm 1
  have m2 : γ 0 9 (ρ 2) 2 = ρ 3 := zAllA hm 2
  have m13 : γ 0 2 0 5 = ρ 14 := zAllA hm 13
  have m34 : γ 1 10 (ρ 3 + 9 * ρ 2 + 1) 9 = ρ 31 := zAllA hm 34
  have m44 : γ 4 2 0 6 = ρ 41 := zAllA hm 44
  have c5 : γ 5 = rUp (γ 4) 2 0 6 (ρ 41 + 1) := And.right (zChA hc 1)
  have l0 : sn142 [ρ 1, ρ 2, ρ 3, ρ 23, ρ 5, ρ 24, ρ 0, ρ 10, ρ 11, ρ 13, ρ 26, ρ 27, ρ 28, ρ 29, ρ 30] (γ 1) 0 1 (γ 2) := hS142 _ _ _ _ _ (zAllA hl 0)
  have l1 : sn143 [ρ 3 + 9 * ρ 2 + 1, ρ 22, ρ 14] (γ 2) 0 0 (γ 3) := hS143 _ _ _ _ _ (zAllA hl 1)
  have l2 : sn114 [ρ 33, ρ 5] (γ 3) 0 (ρ 40) (γ 4) := hS114 _ _ _ _ _ (zAllA hl 2)
  have l3 : sn134 [ρ 1, ρ 2, ρ 3, ρ 8, ρ 25, ρ 10, ρ 11, ρ 12, ρ 13, ρ 34, ρ 15] (γ 5) 0 1 (γ 6) := hS134 _ _ _ _ _ (zAllA hl 3)
  show sn145 [ρ 0, ρ 1, ρ 2, ρ 3, ρ 4, ρ 5, ρ 6, ρ 7, ρ 8, ρ 9, ρ 10, ρ 11, ρ 12, ρ 13, ρ 14, ρ 15, ρ 16, ρ 17, ρ 18, ρ 19, ρ 20, ρ 21] (γ 0) 0 1 (γ 6)
  have hD : en145 (γ 0) (0, [ρ 22], γ 1) = .inr (0, 1, γ 6) := by
    unfold en145
    refine zIP (show (0 : Nat) = 0 by decide) (zLV (γ 1) rfl (zLV (ρ 22) rfl (zLE m0 (zLE m1 (zLE m2 (zLE m13 (zLE m34 ?_)))))))
    refine zIN w_0 (zLE (show fn142 [] (γ 1) = (0, 1, γ 2) from l0.symm) (zLV (γ 2) rfl (zIP zQ1_ (zIN w_1 (zLE (show fn143 [ρ 3 + 9 * ρ 2 + 1, ρ 22, ρ 14] (γ 2) = (0, 0, γ 3) from l1.symm) (zLV (γ 3) rfl (zIN zQ0_ ?_)))))))
    refine zLE (show fn114 [] (γ 3) = (0, ρ 40, γ 4) from l2.symm) (zLV (γ 4) rfl (zIP w_2 (zLV (ρ 40) rfl (zLE m44 (zIP w_3 (zLE c5.symm (zLE (show fn134 [] (γ 5) = (0, 1, γ 6) from l3.symm) ?_)))))))
    refine zLV (γ 6) rfl (zIP zQ1_ ?_)
    rfl
  exact zGoo_aend hJ hD
theorem vn145a0_12 {S : Nat → zSpc} (hS103 : zIm S 103 sn103) (hS109 : zIm S 109 sn109) (hS114 : zIm S 114 sn114) (hS134 : zIm S 134 sn134) (hS142 : zIm S 142 sn142) (hS143 : zIm S 143 sn143) {a : List Int} {g : rHp} : ∀ (ρ : Nat → Int) (γ : Nat → rHp), jn145 a g 0 (zAg (zNA a145_ 0) ρ) (γ 1) → zO 22 S a g q145a0_12 ρ γ → zGl (fun i vs g1 => jn145 a g i vs g1) (sn145 a g) q145a0_12 ρ γ := by
  intro ρ γ hJ h
  obtain ⟨ha, hg, hr, hf, hm, hc, hl⟩ := h
  have ha : a = [ρ 0, ρ 1, ρ 2, ρ 3, ρ 4, ρ 5, ρ 6, ρ 7, ρ 8, ρ 9, ρ 10, ρ 11, ρ 12, ρ 13, ρ 14, ρ 15, ρ 16, ρ 17, ρ 18, ρ 19, ρ 20, ρ 21] := ha
  subst ha
  subst hg
  have hJ : jn145 [ρ 0, ρ 1, ρ 2, ρ 3, ρ 4, ρ 5, ρ 6, ρ 7, ρ 8, ρ 9, ρ 10, ρ 11, ρ 12, ρ 13, ρ 14, ρ 15, ρ 16, ρ 17, ρ 18, ρ 19, ρ 20, ρ 21] (γ 0) 0 [ρ 0, ρ 1, ρ 2, ρ 3, ρ 4, ρ 5, ρ 6, ρ 7, ρ 8, ρ 9, ρ 10, ρ 11, ρ 12, ρ 13, ρ 14, ρ 15, ρ 16, ρ 17, ρ 18, ρ 19, ρ 20, ρ 21, ρ 22, ρ 23, ρ 24, ρ 25, ρ 26, ρ 27, ρ 28, ρ 29, ρ 30, ρ 31, ρ 32] (γ 1) := hJ
  have r22 : (0 : Int) ≤ ρ 22 ∧ ρ 22 ≤ 3 := zRnA hr 22
  have r31 : ((-1) : Int) ≤ ρ 31 ∧ ρ 31 ≤ (-1) := zRnA hr 31
  have r40 : (41 : Int) ≤ ρ 40 ∧ ρ 40 ≤ 41 := zRnA hr 40
  obtain ⟨w_0, w_1, w_2, w_3⟩ : (¬ (ρ 22 ≥ 4)) ∧ (¬ (ρ 31 ≥ 0)) ∧ ((0 : Int) ≤ ρ 40) ∧ (ρ 40 = 41) := ⟨by omega, by omega, by omega, by omega⟩
  have m0 : γ 0 1 0 10 = ρ 1 := zAllA hm 0
  have m1 : γ 0 40 0 (ρ 1) = ρ 2 := zAllA hm 1
  have m2 : γ 0 9 (ρ 2) 2 = ρ 3 := zAllA hm 2
  have m13 : γ 0 2 0 5 = ρ 14 := zAllA hm 13
  have m34 : γ 1 10 (ρ 3 + 9 * ρ 2 + 1) 9 = ρ 31 := zAllA hm 34
  have m44 : γ 4 2 0 6 = ρ 41 := zAllA hm 44
  have c5 : γ 5 = rUp (γ 4) 2 0 6 (ρ 41 + 1) := And.right (zChA hc 1)
  have l0 : sn142 [ρ 1, ρ 2, ρ 3, ρ 23, ρ 5, ρ 24, ρ 0, ρ 10, ρ 11, ρ 13, ρ 26, ρ 27, ρ 28, ρ 29, ρ 30] (γ 1) 0 1 (γ 2) := hS142 _ _ _ _ _ (zAllA hl 0)
  have l1 : sn143 [ρ 3 + 9 * ρ 2 + 1, ρ 22, ρ 14] (γ 2) 0 0 (γ 3) := hS143 _ _ _ _ _ (zAllA hl 1)
  have l2 : sn114 [ρ 33, ρ 5] (γ 3) 0 (ρ 40) (γ 4) := hS114 _ _ _ _ _ (zAllA hl 2)
  have l3 : sn134 [ρ 1, ρ 2, ρ 3, ρ 8, ρ 25, ρ 10, ρ 11, ρ 12, ρ 13, ρ 34, ρ 15] (γ 5) 0 1 (γ 6) := hS134 _ _ _ _ _ (zAllA hl 3)
  show sn145 [ρ 0, ρ 1, ρ 2, ρ 3, ρ 4, ρ 5, ρ 6, ρ 7, ρ 8, ρ 9, ρ 10, ρ 11, ρ 12, ρ 13, ρ 14, ρ 15, ρ 16, ρ 17, ρ 18, ρ 19, ρ 20, ρ 21] (γ 0) 0 1 (γ 6)
  have hD : en145 (γ 0) (0, [ρ 22], γ 1) = .inr (0, 1, γ 6) := by
    unfold en145
    refine zIP (show (0 : Nat) = 0 by decide) (zLV (γ 1) rfl (zLV (ρ 22) rfl (zLE m0 (zLE m1 (zLE m2 (zLE m13 (zLE m34 ?_)))))))
    refine zIN w_0 (zLE (show fn142 [] (γ 1) = (0, 1, γ 2) from l0.symm) (zLV (γ 2) rfl (zIP zQ1_ (zIN w_1 (zLE (show fn143 [ρ 3 + 9 * ρ 2 + 1, ρ 22, ρ 14] (γ 2) = (0, 0, γ 3) from l1.symm) (zLV (γ 3) rfl (zIN zQ0_ ?_)))))))
    refine zLE (show fn114 [] (γ 3) = (0, ρ 40, γ 4) from l2.symm) (zLV (γ 4) rfl (zIP w_2 (zLV (ρ 40) rfl (zLE m44 (zIP w_3 (zLE c5.symm (zLE (show fn134 [] (γ 5) = (0, 1, γ 6) from l3.symm) ?_)))))))
    refine zLV (γ 6) rfl (zIP zQ1_ ?_)
    rfl
  exact zGoo_aend hJ hD
theorem vn145a0_13 {S : Nat → zSpc} (hS103 : zIm S 103 sn103) (hS109 : zIm S 109 sn109) (hS114 : zIm S 114 sn114) (hS134 : zIm S 134 sn134) (hS142 : zIm S 142 sn142) (hS143 : zIm S 143 sn143) {a : List Int} {g : rHp} : ∀ (ρ : Nat → Int) (γ : Nat → rHp), jn145 a g 0 (zAg (zNA a145_ 0) ρ) (γ 1) → zO 22 S a g q145a0_13 ρ γ → zGl (fun i vs g1 => jn145 a g i vs g1) (sn145 a g) q145a0_13 ρ γ := by
  intro ρ γ hJ h
  obtain ⟨ha, hg, hr, hf, hm, hc, hl⟩ := h
  have ha : a = [ρ 0, ρ 1, ρ 2, ρ 3, ρ 4, ρ 5, ρ 6, ρ 7, ρ 8, ρ 9, ρ 10, ρ 11, ρ 12, ρ 13, ρ 14, ρ 15, ρ 16, ρ 17, ρ 18, ρ 19, ρ 20, ρ 21] := ha
  subst ha
  subst hg
  have hJ : jn145 [ρ 0, ρ 1, ρ 2, ρ 3, ρ 4, ρ 5, ρ 6, ρ 7, ρ 8, ρ 9, ρ 10, ρ 11, ρ 12, ρ 13, ρ 14, ρ 15, ρ 16, ρ 17, ρ 18, ρ 19, ρ 20, ρ 21] (γ 0) 0 [ρ 0, ρ 1, ρ 2, ρ 3, ρ 4, ρ 5, ρ 6, ρ 7, ρ 8, ρ 9, ρ 10, ρ 11, ρ 12, ρ 13, ρ 14, ρ 15, ρ 16, ρ 17, ρ 18, ρ 19, ρ 20, ρ 21, ρ 22, ρ 23, ρ 24, ρ 25, ρ 26, ρ 27, ρ 28, ρ 29, ρ 30, ρ 31, ρ 32] (γ 1) := hJ
  have r22 : (0 : Int) ≤ ρ 22 ∧ ρ 22 ≤ 3 := zRnA hr 22
  have r31 : ((-1) : Int) ≤ ρ 31 ∧ ρ 31 ≤ (-1) := zRnA hr 31
  have r40 : (44 : Int) ≤ ρ 40 ∧ ρ 40 ≤ 44 := zRnA hr 40
  obtain ⟨w_0, w_1, w_2, w_3, w_4⟩ : (¬ (ρ 22 ≥ 4)) ∧ (¬ (ρ 31 ≥ 0)) ∧ ((0 : Int) ≤ ρ 40) ∧ (¬ (ρ 40 = 41)) ∧ (ρ 40 = 44) := ⟨by omega, by omega, by omega, by omega, by omega⟩
  have m0 : γ 0 1 0 10 = ρ 1 := zAllA hm 0
  have m1 : γ 0 40 0 (ρ 1) = ρ 2 := zAllA hm 1
  have m2 : γ 0 9 (ρ 2) 2 = ρ 3 := zAllA hm 2
  have m13 : γ 0 2 0 5 = ρ 14 := zAllA hm 13
  have m34 : γ 1 10 (ρ 3 + 9 * ρ 2 + 1) 9 = ρ 31 := zAllA hm 34
  have m44 : γ 4 2 0 6 = ρ 41 := zAllA hm 44
  have c5 : γ 5 = rUp (γ 4) 2 0 6 (ρ 41 + 1) := And.right (zChA hc 0)
  have l0 : sn142 [ρ 1, ρ 2, ρ 3, ρ 23, ρ 5, ρ 24, ρ 0, ρ 10, ρ 11, ρ 13, ρ 26, ρ 27, ρ 28, ρ 29, ρ 30] (γ 1) 0 1 (γ 2) := hS142 _ _ _ _ _ (zAllA hl 0)
  have l1 : sn143 [ρ 3 + 9 * ρ 2 + 1, ρ 22, ρ 14] (γ 2) 0 0 (γ 3) := hS143 _ _ _ _ _ (zAllA hl 1)
  have l2 : sn114 [ρ 33, ρ 5] (γ 3) 0 (ρ 40) (γ 4) := hS114 _ _ _ _ _ (zAllA hl 2)
  have l3 : ρ 40 ≠ 41 := zAllA hl 3
  show jn145 [ρ 0, ρ 1, ρ 2, ρ 3, ρ 4, ρ 5, ρ 6, ρ 7, ρ 8, ρ 9, ρ 10, ρ 11, ρ 12, ρ 13, ρ 14, ρ 15, ρ 16, ρ 17, ρ 18, ρ 19, ρ 20, ρ 21] (γ 0) 0 [ρ 0, ρ 1, ρ 2, ρ 3, ρ 4, ρ 5, ρ 6, ρ 7, ρ 8, ρ 9, ρ 10, ρ 11, ρ 12, ρ 13, ρ 14, ρ 15, ρ 16, ρ 17, ρ 18, ρ 19, ρ 20, ρ 21, ρ 22 + 1, ρ 41 + 1, ρ 34, ρ 25, ρ 35, ρ 36, ρ 37, ρ 38, ρ 39, ρ 31, ρ 32] (γ 5)
  have hD : en145 (γ 0) (0, [ρ 22], γ 1) = .inl (0, [ρ 22 + 1], γ 5) := by
    unfold en145
    refine zIP (show (0 : Nat) = 0 by decide) (zLV (γ 1) rfl (zLV (ρ 22) rfl (zLE m0 (zLE m1 (zLE m2 (zLE m13 (zLE m34 ?_)))))))
    refine zIN w_0 (zLE (show fn142 [] (γ 1) = (0, 1, γ 2) from l0.symm) (zLV (γ 2) rfl (zIP zQ1_ (zIN w_1 (zLE (show fn143 [ρ 3 + 9 * ρ 2 + 1, ρ 22, ρ 14] (γ 2) = (0, 0, γ 3) from l1.symm) (zLV (γ 3) rfl (zIN zQ0_ ?_)))))))
    refine zLE (show fn114 [] (γ 3) = (0, ρ 40, γ 4) from l2.symm) (zLV (γ 4) rfl (zIP w_2 (zLV (ρ 40) rfl (zLE m44 (zIN w_3 (zIP w_4 (zLE c5.symm ?_)))))))
    rfl
  exact zGoo_ato hJ hD
theorem vn145a0_14 {S : Nat → zSpc} (hS103 : zIm S 103 sn103) (hS109 : zIm S 109 sn109) (hS114 : zIm S 114 sn114) (hS134 : zIm S 134 sn134) (hS142 : zIm S 142 sn142) (hS143 : zIm S 143 sn143) {a : List Int} {g : rHp} : ∀ (ρ : Nat → Int) (γ : Nat → rHp), jn145 a g 0 (zAg (zNA a145_ 0) ρ) (γ 1) → zO 22 S a g q145a0_14 ρ γ → zGl (fun i vs g1 => jn145 a g i vs g1) (sn145 a g) q145a0_14 ρ γ := by
  intro ρ γ hJ h
  obtain ⟨ha, hg, hr, hf, hm, hc, hl⟩ := h
  have ha : a = [ρ 0, ρ 1, ρ 2, ρ 3, ρ 4, ρ 5, ρ 6, ρ 7, ρ 8, ρ 9, ρ 10, ρ 11, ρ 12, ρ 13, ρ 14, ρ 15, ρ 16, ρ 17, ρ 18, ρ 19, ρ 20, ρ 21] := ha
  subst ha
  subst hg
  have hJ : jn145 [ρ 0, ρ 1, ρ 2, ρ 3, ρ 4, ρ 5, ρ 6, ρ 7, ρ 8, ρ 9, ρ 10, ρ 11, ρ 12, ρ 13, ρ 14, ρ 15, ρ 16, ρ 17, ρ 18, ρ 19, ρ 20, ρ 21] (γ 0) 0 [ρ 0, ρ 1, ρ 2, ρ 3, ρ 4, ρ 5, ρ 6, ρ 7, ρ 8, ρ 9, ρ 10, ρ 11, ρ 12, ρ 13, ρ 14, ρ 15, ρ 16, ρ 17, ρ 18, ρ 19, ρ 20, ρ 21, ρ 22, ρ 23, ρ 24, ρ 25, ρ 26, ρ 27, ρ 28, ρ 29, ρ 30, ρ 31, ρ 32] (γ 1) := hJ
  have r22 : (0 : Int) ≤ ρ 22 ∧ ρ 22 ≤ 3 := zRnA hr 22
  have r31 : ((-1) : Int) ≤ ρ 31 ∧ ρ 31 ≤ (-1) := zRnA hr 31
  have r40 : (0 : Int) ≤ ρ 40 ∧ ρ 40 ≤ 255 := zRnA hr 40
  obtain ⟨w_0, w_1, w_2⟩ : (¬ (ρ 22 ≥ 4)) ∧ (¬ (ρ 31 ≥ 0)) ∧ ((0 : Int) ≤ ρ 40) := ⟨by omega, by omega, by omega⟩
  have m0 : γ 0 1 0 10 = ρ 1 := zAllA hm 0
  have m1 : γ 0 40 0 (ρ 1) = ρ 2 := zAllA hm 1
  have m2 : γ 0 9 (ρ 2) 2 = ρ 3 := zAllA hm 2
  have m13 : γ 0 2 0 5 = ρ 14 := zAllA hm 13
  have m34 : γ 1 10 (ρ 3 + 9 * ρ 2 + 1) 9 = ρ 31 := zAllA hm 34
  have m44 : γ 4 2 0 6 = ρ 41 := zAllA hm 44
  have l0 : sn142 [ρ 1, ρ 2, ρ 3, ρ 23, ρ 5, ρ 24, ρ 0, ρ 10, ρ 11, ρ 13, ρ 26, ρ 27, ρ 28, ρ 29, ρ 30] (γ 1) 0 1 (γ 2) := hS142 _ _ _ _ _ (zAllA hl 0)
  have l1 : sn143 [ρ 3 + 9 * ρ 2 + 1, ρ 22, ρ 14] (γ 2) 0 0 (γ 3) := hS143 _ _ _ _ _ (zAllA hl 1)
  have l2 : sn114 [ρ 33, ρ 5] (γ 3) 0 (ρ 40) (γ 4) := hS114 _ _ _ _ _ (zAllA hl 2)
  have l3 : ρ 40 ≠ 41 := zAllA hl 3
  have l4 : ρ 40 ≠ 44 := zAllA hl 4
  have l5 : sn109 [ρ 41, ρ 13] (γ 4) 0 0 (γ 5) := hS109 _ _ _ _ _ (zAllA hl 5)
  obtain ⟨wl_0, wl_1⟩ : (¬ (ρ 40 = 41)) ∧ (¬ (ρ 40 = 44)) := ⟨by omega, by omega⟩
  show sn145 [ρ 0, ρ 1, ρ 2, ρ 3, ρ 4, ρ 5, ρ 6, ρ 7, ρ 8, ρ 9, ρ 10, ρ 11, ρ 12, ρ 13, ρ 14, ρ 15, ρ 16, ρ 17, ρ 18, ρ 19, ρ 20, ρ 21] (γ 0) 0 0 (γ 5)
  have hD : en145 (γ 0) (0, [ρ 22], γ 1) = .inr (0, 0, γ 5) := by
    unfold en145
    refine zIP (show (0 : Nat) = 0 by decide) (zLV (γ 1) rfl (zLV (ρ 22) rfl (zLE m0 (zLE m1 (zLE m2 (zLE m13 (zLE m34 ?_)))))))
    refine zIN w_0 (zLE (show fn142 [] (γ 1) = (0, 1, γ 2) from l0.symm) (zLV (γ 2) rfl (zIP zQ1_ (zIN w_1 (zLE (show fn143 [ρ 3 + 9 * ρ 2 + 1, ρ 22, ρ 14] (γ 2) = (0, 0, γ 3) from l1.symm) (zLV (γ 3) rfl (zIN zQ0_ ?_)))))))
    refine zLE (show fn114 [] (γ 3) = (0, ρ 40, γ 4) from l2.symm) (zLV (γ 4) rfl (zIP w_2 (zLV (ρ 40) rfl (zLE m44 (zIN wl_0 (zIN wl_1 (zLE (show fn109 [ρ 41] (γ 4) = (0, 0, γ 5) from l5.symm) ?_)))))))
    refine zLV (γ 5) rfl ?_
    rfl
  exact zGoo_aend hJ hD
theorem vn145a0_15 {S : Nat → zSpc} (hS103 : zIm S 103 sn103) (hS109 : zIm S 109 sn109) (hS114 : zIm S 114 sn114) (hS134 : zIm S 134 sn134) (hS142 : zIm S 142 sn142) (hS143 : zIm S 143 sn143) {a : List Int} {g : rHp} : ∀ (ρ : Nat → Int) (γ : Nat → rHp), jn145 a g 0 (zAg (zNA a145_ 0) ρ) (γ 1) → zO 22 S a g q145a0_15 ρ γ → zGl (fun i vs g1 => jn145 a g i vs g1) (sn145 a g) q145a0_15 ρ γ := by
  intro ρ γ hJ h
  obtain ⟨ha, hg, hr, hf, hm, hc, hl⟩ := h
  have ha : a = [ρ 0, ρ 1, ρ 2, ρ 3, ρ 4, ρ 5, ρ 6, ρ 7, ρ 8, ρ 9, ρ 10, ρ 11, ρ 12, ρ 13, ρ 14, ρ 15, ρ 16, ρ 17, ρ 18, ρ 19, ρ 20, ρ 21] := ha
  subst ha
  subst hg
  have hJ : jn145 [ρ 0, ρ 1, ρ 2, ρ 3, ρ 4, ρ 5, ρ 6, ρ 7, ρ 8, ρ 9, ρ 10, ρ 11, ρ 12, ρ 13, ρ 14, ρ 15, ρ 16, ρ 17, ρ 18, ρ 19, ρ 20, ρ 21] (γ 0) 0 [ρ 0, ρ 1, ρ 2, ρ 3, ρ 4, ρ 5, ρ 6, ρ 7, ρ 8, ρ 9, ρ 10, ρ 11, ρ 12, ρ 13, ρ 14, ρ 15, ρ 16, ρ 17, ρ 18, ρ 19, ρ 20, ρ 21, ρ 22, ρ 23, ρ 24, ρ 25, ρ 26, ρ 27, ρ 28, ρ 29, ρ 30, ρ 31, ρ 32] (γ 1) := hJ
  have r22 : (0 : Int) ≤ ρ 22 ∧ ρ 22 ≤ 3 := zRnA hr 22
  have r31 : ((-1) : Int) ≤ ρ 31 ∧ ρ 31 ≤ (-1) := zRnA hr 31
  obtain ⟨w_0, w_1⟩ : (¬ (ρ 22 ≥ 4)) ∧ (¬ (ρ 31 ≥ 0)) := ⟨by omega, by omega⟩
  have m0 : γ 0 1 0 10 = ρ 1 := zAllA hm 0
  have m1 : γ 0 40 0 (ρ 1) = ρ 2 := zAllA hm 1
  have m2 : γ 0 9 (ρ 2) 2 = ρ 3 := zAllA hm 2
  have m13 : γ 0 2 0 5 = ρ 14 := zAllA hm 13
  have m34 : γ 1 10 (ρ 3 + 9 * ρ 2 + 1) 9 = ρ 31 := zAllA hm 34
  have m44 : γ 5 2 0 6 = ρ 40 := zAllA hm 44
  have c4 : γ 4 = rUp (γ 3) 10 (ρ 3 + 9 * ρ 2 + 1) 9 (ρ 22) := And.right (zChA hc 2)
  have l0 : sn142 [ρ 1, ρ 2, ρ 3, ρ 23, ρ 5, ρ 24, ρ 0, ρ 10, ρ 11, ρ 13, ρ 26, ρ 27, ρ 28, ρ 29, ρ 30] (γ 1) 0 1 (γ 2) := hS142 _ _ _ _ _ (zAllA hl 0)
  have l1 : sn143 [ρ 3 + 9 * ρ 2 + 1, ρ 22, ρ 14] (γ 2) 0 1 (γ 3) := hS143 _ _ _ _ _ (zAllA hl 1)
  have l2 : sn114 [ρ 33, ρ 5] (γ 4) 0 (-1) (γ 5) := hS114 _ _ _ _ _ (zAllA hl 2)
  have l3 : sn109 [ρ 40, ρ 13] (γ 5) 0 0 (γ 6) := hS109 _ _ _ _ _ (zAllA hl 3)
  show sn145 [ρ 0, ρ 1, ρ 2, ρ 3, ρ 4, ρ 5, ρ 6, ρ 7, ρ 8, ρ 9, ρ 10, ρ 11, ρ 12, ρ 13, ρ 14, ρ 15, ρ 16, ρ 17, ρ 18, ρ 19, ρ 20, ρ 21] (γ 0) 0 0 (γ 6)
  have hD : en145 (γ 0) (0, [ρ 22], γ 1) = .inr (0, 0, γ 6) := by
    unfold en145
    refine zIP (show (0 : Nat) = 0 by decide) (zLV (γ 1) rfl (zLV (ρ 22) rfl (zLE m0 (zLE m1 (zLE m2 (zLE m13 (zLE m34 ?_)))))))
    refine zIN w_0 (zLE (show fn142 [] (γ 1) = (0, 1, γ 2) from l0.symm) (zLV (γ 2) rfl (zIP zQ1_ (zIN w_1 (zLE (show fn143 [ρ 3 + 9 * ρ 2 + 1, ρ 22, ρ 14] (γ 2) = (0, 1, γ 3) from l1.symm) (zLV (γ 3) rfl (zIP zQ1_ ?_)))))))
    refine zLE c4.symm (zLE (show fn114 [] (γ 4) = (0, (-1), γ 5) from l2.symm) (zLV (γ 5) rfl (zIN zQ2_ (zLE m44 (zLE (show fn109 [ρ 40] (γ 5) = (0, 0, γ 6) from l3.symm) (zLV (γ 6) rfl ?_))))))
    rfl
  exact zGoo_aend hJ hD
theorem vn145a0_16 {S : Nat → zSpc} (hS103 : zIm S 103 sn103) (hS109 : zIm S 109 sn109) (hS114 : zIm S 114 sn114) (hS134 : zIm S 134 sn134) (hS142 : zIm S 142 sn142) (hS143 : zIm S 143 sn143) {a : List Int} {g : rHp} : ∀ (ρ : Nat → Int) (γ : Nat → rHp), jn145 a g 0 (zAg (zNA a145_ 0) ρ) (γ 1) → zO 22 S a g q145a0_16 ρ γ → zGl (fun i vs g1 => jn145 a g i vs g1) (sn145 a g) q145a0_16 ρ γ := by
  intro ρ γ hJ h
  obtain ⟨ha, hg, hr, hf, hm, hc, hl⟩ := h
  have ha : a = [ρ 0, ρ 1, ρ 2, ρ 3, ρ 4, ρ 5, ρ 6, ρ 7, ρ 8, ρ 9, ρ 10, ρ 11, ρ 12, ρ 13, ρ 14, ρ 15, ρ 16, ρ 17, ρ 18, ρ 19, ρ 20, ρ 21] := ha
  subst ha
  subst hg
  have hJ : jn145 [ρ 0, ρ 1, ρ 2, ρ 3, ρ 4, ρ 5, ρ 6, ρ 7, ρ 8, ρ 9, ρ 10, ρ 11, ρ 12, ρ 13, ρ 14, ρ 15, ρ 16, ρ 17, ρ 18, ρ 19, ρ 20, ρ 21] (γ 0) 0 [ρ 0, ρ 1, ρ 2, ρ 3, ρ 4, ρ 5, ρ 6, ρ 7, ρ 8, ρ 9, ρ 10, ρ 11, ρ 12, ρ 13, ρ 14, ρ 15, ρ 16, ρ 17, ρ 18, ρ 19, ρ 20, ρ 21, ρ 22, ρ 23, ρ 24, ρ 25, ρ 26, ρ 27, ρ 28, ρ 29, ρ 30, ρ 31, ρ 32] (γ 1) := hJ
  have r22 : (0 : Int) ≤ ρ 22 ∧ ρ 22 ≤ 3 := zRnA hr 22
  have r31 : ((-1) : Int) ≤ ρ 31 ∧ ρ 31 ≤ (-1) := zRnA hr 31
  have r40 : (41 : Int) ≤ ρ 40 ∧ ρ 40 ≤ 41 := zRnA hr 40
  obtain ⟨w_0, w_1, w_2, w_3⟩ : (¬ (ρ 22 ≥ 4)) ∧ (¬ (ρ 31 ≥ 0)) ∧ ((0 : Int) ≤ ρ 40) ∧ (ρ 40 = 41) := ⟨by omega, by omega, by omega, by omega⟩
  have m0 : γ 0 1 0 10 = ρ 1 := zAllA hm 0
  have m1 : γ 0 40 0 (ρ 1) = ρ 2 := zAllA hm 1
  have m2 : γ 0 9 (ρ 2) 2 = ρ 3 := zAllA hm 2
  have m13 : γ 0 2 0 5 = ρ 14 := zAllA hm 13
  have m34 : γ 1 10 (ρ 3 + 9 * ρ 2 + 1) 9 = ρ 31 := zAllA hm 34
  have m44 : γ 5 2 0 6 = ρ 41 := zAllA hm 44
  have c4 : γ 4 = rUp (γ 3) 10 (ρ 3 + 9 * ρ 2 + 1) 9 (ρ 22) := And.right (zChA hc 3)
  have c6 : γ 6 = rUp (γ 5) 2 0 6 (ρ 41 + 1) := And.right (zChA hc 1)
  have l0 : sn142 [ρ 1, ρ 2, ρ 3, ρ 23, ρ 5, ρ 24, ρ 0, ρ 10, ρ 11, ρ 13, ρ 26, ρ 27, ρ 28, ρ 29, ρ 30] (γ 1) 0 1 (γ 2) := hS142 _ _ _ _ _ (zAllA hl 0)
  have l1 : sn143 [ρ 3 + 9 * ρ 2 + 1, ρ 22, ρ 14] (γ 2) 0 1 (γ 3) := hS143 _ _ _ _ _ (zAllA hl 1)
  have l2 : sn114 [ρ 33, ρ 5] (γ 4) 0 (ρ 40) (γ 5) := hS114 _ _ _ _ _ (zAllA hl 2)
  have l3 : sn134 [ρ 1, ρ 2, ρ 3, ρ 8, ρ 25, ρ 10, ρ 11, ρ 12, ρ 13, ρ 34, ρ 15] (γ 6) 0 0 (γ 7) := hS134 _ _ _ _ _ (zAllA hl 3)
  show sn145 [ρ 0, ρ 1, ρ 2, ρ 3, ρ 4, ρ 5, ρ 6, ρ 7, ρ 8, ρ 9, ρ 10, ρ 11, ρ 12, ρ 13, ρ 14, ρ 15, ρ 16, ρ 17, ρ 18, ρ 19, ρ 20, ρ 21] (γ 0) 0 0 (γ 7)
  have hD : en145 (γ 0) (0, [ρ 22], γ 1) = .inr (0, 0, γ 7) := by
    unfold en145
    refine zIP (show (0 : Nat) = 0 by decide) (zLV (γ 1) rfl (zLV (ρ 22) rfl (zLE m0 (zLE m1 (zLE m2 (zLE m13 (zLE m34 ?_)))))))
    refine zIN w_0 (zLE (show fn142 [] (γ 1) = (0, 1, γ 2) from l0.symm) (zLV (γ 2) rfl (zIP zQ1_ (zIN w_1 (zLE (show fn143 [ρ 3 + 9 * ρ 2 + 1, ρ 22, ρ 14] (γ 2) = (0, 1, γ 3) from l1.symm) (zLV (γ 3) rfl (zIP zQ1_ ?_)))))))
    refine zLE c4.symm (zLE (show fn114 [] (γ 4) = (0, ρ 40, γ 5) from l2.symm) (zLV (γ 5) rfl (zIP w_2 (zLV (ρ 40) rfl (zLE m44 (zIP w_3 (zLE c6.symm ?_)))))))
    refine zLE (show fn134 [] (γ 6) = (0, 0, γ 7) from l3.symm) (zLV (γ 7) rfl (zIN zQ0_ ?_))
    rfl
  exact zGoo_aend hJ hD
theorem vn145a0_17 {S : Nat → zSpc} (hS103 : zIm S 103 sn103) (hS109 : zIm S 109 sn109) (hS114 : zIm S 114 sn114) (hS134 : zIm S 134 sn134) (hS142 : zIm S 142 sn142) (hS143 : zIm S 143 sn143) {a : List Int} {g : rHp} : ∀ (ρ : Nat → Int) (γ : Nat → rHp), jn145 a g 0 (zAg (zNA a145_ 0) ρ) (γ 1) → zO 22 S a g q145a0_17 ρ γ → zGl (fun i vs g1 => jn145 a g i vs g1) (sn145 a g) q145a0_17 ρ γ := by
  intro ρ γ hJ h
  obtain ⟨ha, hg, hr, hf, hm, hc, hl⟩ := h
  have ha : a = [ρ 0, ρ 1, ρ 2, ρ 3, ρ 4, ρ 5, ρ 6, ρ 7, ρ 8, ρ 9, ρ 10, ρ 11, ρ 12, ρ 13, ρ 14, ρ 15, ρ 16, ρ 17, ρ 18, ρ 19, ρ 20, ρ 21] := ha
  subst ha
  subst hg
  have hJ : jn145 [ρ 0, ρ 1, ρ 2, ρ 3, ρ 4, ρ 5, ρ 6, ρ 7, ρ 8, ρ 9, ρ 10, ρ 11, ρ 12, ρ 13, ρ 14, ρ 15, ρ 16, ρ 17, ρ 18, ρ 19, ρ 20, ρ 21] (γ 0) 0 [ρ 0, ρ 1, ρ 2, ρ 3, ρ 4, ρ 5, ρ 6, ρ 7, ρ 8, ρ 9, ρ 10, ρ 11, ρ 12, ρ 13, ρ 14, ρ 15, ρ 16, ρ 17, ρ 18, ρ 19, ρ 20, ρ 21, ρ 22, ρ 23, ρ 24, ρ 25, ρ 26, ρ 27, ρ 28, ρ 29, ρ 30, ρ 31, ρ 32] (γ 1) := hJ
  have r22 : (0 : Int) ≤ ρ 22 ∧ ρ 22 ≤ 3 := zRnA hr 22
  have r31 : ((-1) : Int) ≤ ρ 31 ∧ ρ 31 ≤ (-1) := zRnA hr 31
  have r40 : (41 : Int) ≤ ρ 40 ∧ ρ 40 ≤ 41 := zRnA hr 40
  obtain ⟨w_0, w_1, w_2, w_3⟩ : (¬ (ρ 22 ≥ 4)) ∧ (¬ (ρ 31 ≥ 0)) ∧ ((0 : Int) ≤ ρ 40) ∧ (ρ 40 = 41) := ⟨by omega, by omega, by omega, by omega⟩
  have m0 : γ 0 1 0 10 = ρ 1 := zAllA hm 0
  have m1 : γ 0 40 0 (ρ 1) = ρ 2 := zAllA hm 1
  have m2 : γ 0 9 (ρ 2) 2 = ρ 3 := zAllA hm 2
  have m13 : γ 0 2 0 5 = ρ 14 := zAllA hm 13
  have m34 : γ 1 10 (ρ 3 + 9 * ρ 2 + 1) 9 = ρ 31 := zAllA hm 34
  have m44 : γ 5 2 0 6 = ρ 41 := zAllA hm 44
  have c4 : γ 4 = rUp (γ 3) 10 (ρ 3 + 9 * ρ 2 + 1) 9 (ρ 22) := And.right (zChA hc 3)
  have c6 : γ 6 = rUp (γ 5) 2 0 6 (ρ 41 + 1) := And.right (zChA hc 1)
  have l0 : sn142 [ρ 1, ρ 2, ρ 3, ρ 23, ρ 5, ρ 24, ρ 0, ρ 10, ρ 11, ρ 13, ρ 26, ρ 27, ρ 28, ρ 29, ρ 30] (γ 1) 0 1 (γ 2) := hS142 _ _ _ _ _ (zAllA hl 0)
  have l1 : sn143 [ρ 3 + 9 * ρ 2 + 1, ρ 22, ρ 14] (γ 2) 0 1 (γ 3) := hS143 _ _ _ _ _ (zAllA hl 1)
  have l2 : sn114 [ρ 33, ρ 5] (γ 4) 0 (ρ 40) (γ 5) := hS114 _ _ _ _ _ (zAllA hl 2)
  have l3 : sn134 [ρ 1, ρ 2, ρ 3, ρ 8, ρ 25, ρ 10, ρ 11, ρ 12, ρ 13, ρ 34, ρ 15] (γ 6) 0 1 (γ 7) := hS134 _ _ _ _ _ (zAllA hl 3)
  show sn145 [ρ 0, ρ 1, ρ 2, ρ 3, ρ 4, ρ 5, ρ 6, ρ 7, ρ 8, ρ 9, ρ 10, ρ 11, ρ 12, ρ 13, ρ 14, ρ 15, ρ 16, ρ 17, ρ 18, ρ 19, ρ 20, ρ 21] (γ 0) 0 1 (γ 7)
  have hD : en145 (γ 0) (0, [ρ 22], γ 1) = .inr (0, 1, γ 7) := by
    unfold en145
    refine zIP (show (0 : Nat) = 0 by decide) (zLV (γ 1) rfl (zLV (ρ 22) rfl (zLE m0 (zLE m1 (zLE m2 (zLE m13 (zLE m34 ?_)))))))
    refine zIN w_0 (zLE (show fn142 [] (γ 1) = (0, 1, γ 2) from l0.symm) (zLV (γ 2) rfl (zIP zQ1_ (zIN w_1 (zLE (show fn143 [ρ 3 + 9 * ρ 2 + 1, ρ 22, ρ 14] (γ 2) = (0, 1, γ 3) from l1.symm) (zLV (γ 3) rfl (zIP zQ1_ ?_)))))))
    refine zLE c4.symm (zLE (show fn114 [] (γ 4) = (0, ρ 40, γ 5) from l2.symm) (zLV (γ 5) rfl (zIP w_2 (zLV (ρ 40) rfl (zLE m44 (zIP w_3 (zLE c6.symm ?_)))))))
    refine zLE (show fn134 [] (γ 6) = (0, 1, γ 7) from l3.symm) (zLV (γ 7) rfl (zIP zQ1_ ?_))
    rfl
  exact zGoo_aend hJ hD
theorem vn145a0_18 {S : Nat → zSpc} (hS103 : zIm S 103 sn103) (hS109 : zIm S 109 sn109) (hS114 : zIm S 114 sn114) (hS134 : zIm S 134 sn134) (hS142 : zIm S 142 sn142) (hS143 : zIm S 143 sn143) {a : List Int} {g : rHp} : ∀ (ρ : Nat → Int) (γ : Nat → rHp), jn145 a g 0 (zAg (zNA a145_ 0) ρ) (γ 1) → zO 22 S a g q145a0_18 ρ γ → zGl (fun i vs g1 => jn145 a g i vs g1) (sn145 a g) q145a0_18 ρ γ := by
  intro ρ γ hJ h
  obtain ⟨ha, hg, hr, hf, hm, hc, hl⟩ := h
  have ha : a = [ρ 0, ρ 1, ρ 2, ρ 3, ρ 4, ρ 5, ρ 6, ρ 7, ρ 8, ρ 9, ρ 10, ρ 11, ρ 12, ρ 13, ρ 14, ρ 15, ρ 16, ρ 17, ρ 18, ρ 19, ρ 20, ρ 21] := ha
  subst ha
  subst hg
  have hJ : jn145 [ρ 0, ρ 1, ρ 2, ρ 3, ρ 4, ρ 5, ρ 6, ρ 7, ρ 8, ρ 9, ρ 10, ρ 11, ρ 12, ρ 13, ρ 14, ρ 15, ρ 16, ρ 17, ρ 18, ρ 19, ρ 20, ρ 21] (γ 0) 0 [ρ 0, ρ 1, ρ 2, ρ 3, ρ 4, ρ 5, ρ 6, ρ 7, ρ 8, ρ 9, ρ 10, ρ 11, ρ 12, ρ 13, ρ 14, ρ 15, ρ 16, ρ 17, ρ 18, ρ 19, ρ 20, ρ 21, ρ 22, ρ 23, ρ 24, ρ 25, ρ 26, ρ 27, ρ 28, ρ 29, ρ 30, ρ 31, ρ 32] (γ 1) := hJ
  have r22 : (0 : Int) ≤ ρ 22 ∧ ρ 22 ≤ 3 := zRnA hr 22
  have r31 : ((-1) : Int) ≤ ρ 31 ∧ ρ 31 ≤ (-1) := zRnA hr 31
  have r40 : (41 : Int) ≤ ρ 40 ∧ ρ 40 ≤ 41 := zRnA hr 40
  obtain ⟨w_0, w_1, w_2, w_3⟩ : (¬ (ρ 22 ≥ 4)) ∧ (¬ (ρ 31 ≥ 0)) ∧ ((0 : Int) ≤ ρ 40) ∧ (ρ 40 = 41) := ⟨by omega, by omega, by omega, by omega⟩
  have m0 : γ 0 1 0 10 = ρ 1 := zAllA hm 0
  have m1 : γ 0 40 0 (ρ 1) = ρ 2 := zAllA hm 1
  have m2 : γ 0 9 (ρ 2) 2 = ρ 3 := zAllA hm 2
  have m13 : γ 0 2 0 5 = ρ 14 := zAllA hm 13
  have m34 : γ 1 10 (ρ 3 + 9 * ρ 2 + 1) 9 = ρ 31 := zAllA hm 34
  have m44 : γ 5 2 0 6 = ρ 41 := zAllA hm 44
  have c4 : γ 4 = rUp (γ 3) 10 (ρ 3 + 9 * ρ 2 + 1) 9 (ρ 22) := And.right (zChA hc 3)
  have c6 : γ 6 = rUp (γ 5) 2 0 6 (ρ 41 + 1) := And.right (zChA hc 1)
  have l0 : sn142 [ρ 1, ρ 2, ρ 3, ρ 23, ρ 5, ρ 24, ρ 0, ρ 10, ρ 11, ρ 13, ρ 26, ρ 27, ρ 28, ρ 29, ρ 30] (γ 1) 0 1 (γ 2) := hS142 _ _ _ _ _ (zAllA hl 0)
  have l1 : sn143 [ρ 3 + 9 * ρ 2 + 1, ρ 22, ρ 14] (γ 2) 0 1 (γ 3) := hS143 _ _ _ _ _ (zAllA hl 1)
  have l2 : sn114 [ρ 33, ρ 5] (γ 4) 0 (ρ 40) (γ 5) := hS114 _ _ _ _ _ (zAllA hl 2)
  have l3 : sn134 [ρ 1, ρ 2, ρ 3, ρ 8, ρ 25, ρ 10, ρ 11, ρ 12, ρ 13, ρ 34, ρ 15] (γ 6) 0 1 (γ 7) := hS134 _ _ _ _ _ (zAllA hl 3)
  show sn145 [ρ 0, ρ 1, ρ 2, ρ 3, ρ 4, ρ 5, ρ 6, ρ 7, ρ 8, ρ 9, ρ 10, ρ 11, ρ 12, ρ 13, ρ 14, ρ 15, ρ 16, ρ 17, ρ 18, ρ 19, ρ 20, ρ 21] (γ 0) 0 1 (γ 7)
  have hD : en145 (γ 0) (0, [ρ 22], γ 1) = .inr (0, 1, γ 7) := by
    unfold en145
    refine zIP (show (0 : Nat) = 0 by decide) (zLV (γ 1) rfl (zLV (ρ 22) rfl (zLE m0 (zLE m1 (zLE m2 (zLE m13 (zLE m34 ?_)))))))
    refine zIN w_0 (zLE (show fn142 [] (γ 1) = (0, 1, γ 2) from l0.symm) (zLV (γ 2) rfl (zIP zQ1_ (zIN w_1 (zLE (show fn143 [ρ 3 + 9 * ρ 2 + 1, ρ 22, ρ 14] (γ 2) = (0, 1, γ 3) from l1.symm) (zLV (γ 3) rfl (zIP zQ1_ ?_)))))))
    refine zLE c4.symm (zLE (show fn114 [] (γ 4) = (0, ρ 40, γ 5) from l2.symm) (zLV (γ 5) rfl (zIP w_2 (zLV (ρ 40) rfl (zLE m44 (zIP w_3 (zLE c6.symm ?_)))))))
    refine zLE (show fn134 [] (γ 6) = (0, 1, γ 7) from l3.symm) (zLV (γ 7) rfl (zIP zQ1_ ?_))
    rfl
  exact zGoo_aend hJ hD
theorem vn145a0_19 {S : Nat → zSpc} (hS103 : zIm S 103 sn103) (hS109 : zIm S 109 sn109) (hS114 : zIm S 114 sn114) (hS134 : zIm S 134 sn134) (hS142 : zIm S 142 sn142) (hS143 : zIm S 143 sn143) {a : List Int} {g : rHp} : ∀ (ρ : Nat → Int) (γ : Nat → rHp), jn145 a g 0 (zAg (zNA a145_ 0) ρ) (γ 1) → zO 22 S a g q145a0_19 ρ γ → zGl (fun i vs g1 => jn145 a g i vs g1) (sn145 a g) q145a0_19 ρ γ := by
  intro ρ γ hJ h
  obtain ⟨ha, hg, hr, hf, hm, hc, hl⟩ := h
  have ha : a = [ρ 0, ρ 1, ρ 2, ρ 3, ρ 4, ρ 5, ρ 6, ρ 7, ρ 8, ρ 9, ρ 10, ρ 11, ρ 12, ρ 13, ρ 14, ρ 15, ρ 16, ρ 17, ρ 18, ρ 19, ρ 20, ρ 21] := ha
  subst ha
  subst hg
  have hJ : jn145 [ρ 0, ρ 1, ρ 2, ρ 3, ρ 4, ρ 5, ρ 6, ρ 7, ρ 8, ρ 9, ρ 10, ρ 11, ρ 12, ρ 13, ρ 14, ρ 15, ρ 16, ρ 17, ρ 18, ρ 19, ρ 20, ρ 21] (γ 0) 0 [ρ 0, ρ 1, ρ 2, ρ 3, ρ 4, ρ 5, ρ 6, ρ 7, ρ 8, ρ 9, ρ 10, ρ 11, ρ 12, ρ 13, ρ 14, ρ 15, ρ 16, ρ 17, ρ 18, ρ 19, ρ 20, ρ 21, ρ 22, ρ 23, ρ 24, ρ 25, ρ 26, ρ 27, ρ 28, ρ 29, ρ 30, ρ 31, ρ 32] (γ 1) := hJ
  have r22 : (0 : Int) ≤ ρ 22 ∧ ρ 22 ≤ 3 := zRnA hr 22
  have r31 : ((-1) : Int) ≤ ρ 31 ∧ ρ 31 ≤ (-1) := zRnA hr 31
  have r40 : (44 : Int) ≤ ρ 40 ∧ ρ 40 ≤ 44 := zRnA hr 40
  obtain ⟨w_0, w_1, w_2, w_3, w_4⟩ : (¬ (ρ 22 ≥ 4)) ∧ (¬ (ρ 31 ≥ 0)) ∧ ((0 : Int) ≤ ρ 40) ∧ (¬ (ρ 40 = 41)) ∧ (ρ 40 = 44) := ⟨by omega, by omega, by omega, by omega, by omega⟩
  have m0 : γ 0 1 0 10 = ρ 1 := zAllA hm 0
  have m1 : γ 0 40 0 (ρ 1) = ρ 2 := zAllA hm 1
  have m2 : γ 0 9 (ρ 2) 2 = ρ 3 := zAllA hm 2
  have m13 : γ 0 2 0 5 = ρ 14 := zAllA hm 13
  have m34 : γ 1 10 (ρ 3 + 9 * ρ 2 + 1) 9 = ρ 31 := zAllA hm 34
  have m44 : γ 5 2 0 6 = ρ 41 := zAllA hm 44
  have c4 : γ 4 = rUp (γ 3) 10 (ρ 3 + 9 * ρ 2 + 1) 9 (ρ 22) := And.right (zChA hc 2)
  have c6 : γ 6 = rUp (γ 5) 2 0 6 (ρ 41 + 1) := And.right (zChA hc 0)
  have l0 : sn142 [ρ 1, ρ 2, ρ 3, ρ 23, ρ 5, ρ 24, ρ 0, ρ 10, ρ 11, ρ 13, ρ 26, ρ 27, ρ 28, ρ 29, ρ 30] (γ 1) 0 1 (γ 2) := hS142 _ _ _ _ _ (zAllA hl 0)
  have l1 : sn143 [ρ 3 + 9 * ρ 2 + 1, ρ 22, ρ 14] (γ 2) 0 1 (γ 3) := hS143 _ _ _ _ _ (zAllA hl 1)
  have l2 : sn114 [ρ 33, ρ 5] (γ 4) 0 (ρ 40) (γ 5) := hS114 _ _ _ _ _ (zAllA hl 2)
  have l3 : ρ 40 ≠ 41 := zAllA hl 3
  show jn145 [ρ 0, ρ 1, ρ 2, ρ 3, ρ 4, ρ 5, ρ 6, ρ 7, ρ 8, ρ 9, ρ 10, ρ 11, ρ 12, ρ 13, ρ 14, ρ 15, ρ 16, ρ 17, ρ 18, ρ 19, ρ 20, ρ 21] (γ 0) 0 [ρ 0, ρ 1, ρ 2, ρ 3, ρ 4, ρ 5, ρ 6, ρ 7, ρ 8, ρ 9, ρ 10, ρ 11, ρ 12, ρ 13, ρ 14, ρ 15, ρ 16, ρ 17, ρ 18, ρ 19, ρ 20, ρ 21, ρ 22 + 1, ρ 41 + 1, ρ 34, ρ 25, ρ 35, ρ 36, ρ 37, ρ 38, ρ 39, ρ 22, ρ 32] (γ 6)
  have hD : en145 (γ 0) (0, [ρ 22], γ 1) = .inl (0, [ρ 22 + 1], γ 6) := by
    unfold en145
    refine zIP (show (0 : Nat) = 0 by decide) (zLV (γ 1) rfl (zLV (ρ 22) rfl (zLE m0 (zLE m1 (zLE m2 (zLE m13 (zLE m34 ?_)))))))
    refine zIN w_0 (zLE (show fn142 [] (γ 1) = (0, 1, γ 2) from l0.symm) (zLV (γ 2) rfl (zIP zQ1_ (zIN w_1 (zLE (show fn143 [ρ 3 + 9 * ρ 2 + 1, ρ 22, ρ 14] (γ 2) = (0, 1, γ 3) from l1.symm) (zLV (γ 3) rfl (zIP zQ1_ ?_)))))))
    refine zLE c4.symm (zLE (show fn114 [] (γ 4) = (0, ρ 40, γ 5) from l2.symm) (zLV (γ 5) rfl (zIP w_2 (zLV (ρ 40) rfl (zLE m44 (zIN w_3 (zIP w_4 ?_)))))))
    refine zLE c6.symm ?_
    rfl
  exact zGoo_ato hJ hD
theorem vn145a0_20 {S : Nat → zSpc} (hS103 : zIm S 103 sn103) (hS109 : zIm S 109 sn109) (hS114 : zIm S 114 sn114) (hS134 : zIm S 134 sn134) (hS142 : zIm S 142 sn142) (hS143 : zIm S 143 sn143) {a : List Int} {g : rHp} : ∀ (ρ : Nat → Int) (γ : Nat → rHp), jn145 a g 0 (zAg (zNA a145_ 0) ρ) (γ 1) → zO 22 S a g q145a0_20 ρ γ → zGl (fun i vs g1 => jn145 a g i vs g1) (sn145 a g) q145a0_20 ρ γ := by
  intro ρ γ hJ h
  obtain ⟨ha, hg, hr, hf, hm, hc, hl⟩ := h
  have ha : a = [ρ 0, ρ 1, ρ 2, ρ 3, ρ 4, ρ 5, ρ 6, ρ 7, ρ 8, ρ 9, ρ 10, ρ 11, ρ 12, ρ 13, ρ 14, ρ 15, ρ 16, ρ 17, ρ 18, ρ 19, ρ 20, ρ 21] := ha
  subst ha
  subst hg
  have hJ : jn145 [ρ 0, ρ 1, ρ 2, ρ 3, ρ 4, ρ 5, ρ 6, ρ 7, ρ 8, ρ 9, ρ 10, ρ 11, ρ 12, ρ 13, ρ 14, ρ 15, ρ 16, ρ 17, ρ 18, ρ 19, ρ 20, ρ 21] (γ 0) 0 [ρ 0, ρ 1, ρ 2, ρ 3, ρ 4, ρ 5, ρ 6, ρ 7, ρ 8, ρ 9, ρ 10, ρ 11, ρ 12, ρ 13, ρ 14, ρ 15, ρ 16, ρ 17, ρ 18, ρ 19, ρ 20, ρ 21, ρ 22, ρ 23, ρ 24, ρ 25, ρ 26, ρ 27, ρ 28, ρ 29, ρ 30, ρ 31, ρ 32] (γ 1) := hJ
  have r22 : (0 : Int) ≤ ρ 22 ∧ ρ 22 ≤ 3 := zRnA hr 22
  have r31 : ((-1) : Int) ≤ ρ 31 ∧ ρ 31 ≤ (-1) := zRnA hr 31
  have r40 : (0 : Int) ≤ ρ 40 ∧ ρ 40 ≤ 255 := zRnA hr 40
  obtain ⟨w_0, w_1, w_2⟩ : (¬ (ρ 22 ≥ 4)) ∧ (¬ (ρ 31 ≥ 0)) ∧ ((0 : Int) ≤ ρ 40) := ⟨by omega, by omega, by omega⟩
  have m0 : γ 0 1 0 10 = ρ 1 := zAllA hm 0
  have m1 : γ 0 40 0 (ρ 1) = ρ 2 := zAllA hm 1
  have m2 : γ 0 9 (ρ 2) 2 = ρ 3 := zAllA hm 2
  have m13 : γ 0 2 0 5 = ρ 14 := zAllA hm 13
  have m34 : γ 1 10 (ρ 3 + 9 * ρ 2 + 1) 9 = ρ 31 := zAllA hm 34
  have m44 : γ 5 2 0 6 = ρ 41 := zAllA hm 44
  have c4 : γ 4 = rUp (γ 3) 10 (ρ 3 + 9 * ρ 2 + 1) 9 (ρ 22) := And.right (zChA hc 2)
  have l0 : sn142 [ρ 1, ρ 2, ρ 3, ρ 23, ρ 5, ρ 24, ρ 0, ρ 10, ρ 11, ρ 13, ρ 26, ρ 27, ρ 28, ρ 29, ρ 30] (γ 1) 0 1 (γ 2) := hS142 _ _ _ _ _ (zAllA hl 0)
  have l1 : sn143 [ρ 3 + 9 * ρ 2 + 1, ρ 22, ρ 14] (γ 2) 0 1 (γ 3) := hS143 _ _ _ _ _ (zAllA hl 1)
  have l2 : sn114 [ρ 33, ρ 5] (γ 4) 0 (ρ 40) (γ 5) := hS114 _ _ _ _ _ (zAllA hl 2)
  have l3 : ρ 40 ≠ 41 := zAllA hl 3
  have l4 : ρ 40 ≠ 44 := zAllA hl 4
  have l5 : sn109 [ρ 41, ρ 13] (γ 5) 0 0 (γ 6) := hS109 _ _ _ _ _ (zAllA hl 5)
  obtain ⟨wl_0, wl_1⟩ : (¬ (ρ 40 = 41)) ∧ (¬ (ρ 40 = 44)) := ⟨by omega, by omega⟩
  show sn145 [ρ 0, ρ 1, ρ 2, ρ 3, ρ 4, ρ 5, ρ 6, ρ 7, ρ 8, ρ 9, ρ 10, ρ 11, ρ 12, ρ 13, ρ 14, ρ 15, ρ 16, ρ 17, ρ 18, ρ 19, ρ 20, ρ 21] (γ 0) 0 0 (γ 6)
  have hD : en145 (γ 0) (0, [ρ 22], γ 1) = .inr (0, 0, γ 6) := by
    unfold en145
    refine zIP (show (0 : Nat) = 0 by decide) (zLV (γ 1) rfl (zLV (ρ 22) rfl (zLE m0 (zLE m1 (zLE m2 (zLE m13 (zLE m34 ?_)))))))
    refine zIN w_0 (zLE (show fn142 [] (γ 1) = (0, 1, γ 2) from l0.symm) (zLV (γ 2) rfl (zIP zQ1_ (zIN w_1 (zLE (show fn143 [ρ 3 + 9 * ρ 2 + 1, ρ 22, ρ 14] (γ 2) = (0, 1, γ 3) from l1.symm) (zLV (γ 3) rfl (zIP zQ1_ ?_)))))))
    refine zLE c4.symm (zLE (show fn114 [] (γ 4) = (0, ρ 40, γ 5) from l2.symm) (zLV (γ 5) rfl (zIP w_2 (zLV (ρ 40) rfl (zLE m44 (zIN wl_0 (zIN wl_1 ?_)))))))
    refine zLE (show fn109 [ρ 41] (γ 5) = (0, 0, γ 6) from l5.symm) (zLV (γ 6) rfl ?_)
    rfl
  exact zGoo_aend hJ hD
theorem yn145 {S : Nat → zSpc} (hS103 : zIm S 103 sn103) (hS109 : zIm S 109 sn109) (hS114 : zIm S 114 sn114) (hS134 : zIm S 134 sn134) (hS142 : zIm S 142 sn142) (hS143 : zIm S 143 sn143) : ∀ x g o v gz, zSem uW uT w145_.2.2.2.1 w145_.2.2.1.1.length S q145 (fun i => q145a.getD i []) (zNA a145_) x g o v gz → sn145 x g o v gz := by
  intro a g o v gz h
  exact zSem_all (l0 := q145) (las := q145a) (S := S) (J := (fun i vs g1 => jn145 a g i vs g1)) (P := sn145 a g) (fun _ => (show zAll _ [q145_0, q145_1, q145_2] from (zAll_c (vn145_0 hS103 hS109 hS114 hS134 hS142 hS143) (zAll_c (vn145_1 hS103 hS109 hS114 hS134 hS142 hS143) (zAll_c (vn145_2 hS103 hS109 hS114 hS134 hS142 hS143) zAll_n))))) (fun _ => (show zAllI _ 0 [q145a0] from ⟨(show zAll _ [q145a0_0, q145a0_1, q145a0_2, q145a0_3, q145a0_4, q145a0_5, q145a0_6, q145a0_7, q145a0_8, q145a0_9, q145a0_10, q145a0_11, q145a0_12, q145a0_13, q145a0_14, q145a0_15, q145a0_16, q145a0_17, q145a0_18, q145a0_19, q145a0_20] from (zAll_c (vn145a0_0 hS103 hS109 hS114 hS134 hS142 hS143) (zAll_c (vn145a0_1 hS103 hS109 hS114 hS134 hS142 hS143) (zAll_c (vn145a0_2 hS103 hS109 hS114 hS134 hS142 hS143) (zAll_c (vn145a0_3 hS103 hS109 hS114 hS134 hS142 hS143) (zAll_c (vn145a0_4 hS103 hS109 hS114 hS134 hS142 hS143) (zAll_c (vn145a0_5 hS103 hS109 hS114 hS134 hS142 hS143) (zAll_c (vn145a0_6 hS103 hS109 hS114 hS134 hS142 hS143) (zAll_c (vn145a0_7 hS103 hS109 hS114 hS134 hS142 hS143) (zAll_c (vn145a0_8 hS103 hS109 hS114 hS134 hS142 hS143) (zAll_c (vn145a0_9 hS103 hS109 hS114 hS134 hS142 hS143) (zAll_c (vn145a0_10 hS103 hS109 hS114 hS134 hS142 hS143) (zAll_c (vn145a0_11 hS103 hS109 hS114 hS134 hS142 hS143) (zAll_c (vn145a0_12 hS103 hS109 hS114 hS134 hS142 hS143) (zAll_c (vn145a0_13 hS103 hS109 hS114 hS134 hS142 hS143) (zAll_c (vn145a0_14 hS103 hS109 hS114 hS134 hS142 hS143) (zAll_c (vn145a0_15 hS103 hS109 hS114 hS134 hS142 hS143) (zAll_c (vn145a0_16 hS103 hS109 hS114 hS134 hS142 hS143) (zAll_c (vn145a0_17 hS103 hS109 hS114 hS134 hS142 hS143) (zAll_c (vn145a0_18 hS103 hS109 hS114 hS134 hS142 hS143) (zAll_c (vn145a0_19 hS103 hS109 hS114 hS134 hS142 hS143) (zAll_c (vn145a0_20 hS103 hS109 hS114 hS134 hS142 hS143) zAll_n)))))))))))))))))))))), trivial⟩)) h
theorem vn146_0 {S : Nat → zSpc} (hS105 : zIm S 105 sn105) (hS109 : zIm S 109 sn109) (hS110 : zIm S 110 sn110) (hS114 : zIm S 114 sn114) (hS115 : zIm S 115 sn115) (hS144 : zIm S 144 sn144) {a : List Int} {g : rHp} : ∀ (ρ : Nat → Int) (γ : Nat → rHp), zO 23 S a g q146_0 ρ γ → zGl (fun _ _ _ => True) (sn146 a g) q146_0 ρ γ := by
  intro ρ γ h
  obtain ⟨ha, hg, hr, hf, hm, hc, hl⟩ := h
  have ha : a = [ρ 0, ρ 1, ρ 2, ρ 3, ρ 4, ρ 5, ρ 6, ρ 7, ρ 8, ρ 9, ρ 10, ρ 11, ρ 12, ρ 13, ρ 14, ρ 15, ρ 16, ρ 17, ρ 18, ρ 19, ρ 20, ρ 21, ρ 22] := ha
  subst ha
  subst hg
  have m0 : γ 0 1 0 10 = ρ 0 := zAllA hm 0
  have m1 : γ 0 40 0 (ρ 0) = ρ 1 := zAllA hm 1
  have m26 : γ 4 2 0 6 = ρ 23 := zAllA hm 26
  have c2 : γ 2 = rUp (γ 1) 9 (ρ 1) 2 0 := And.right (zChA hc 4)
  have c3 : γ 3 = rUp (γ 2) 9 (ρ 1) 3 0 := And.right (zChA hc 3)
  have l0 : sn110 [ρ 11, ρ 13, ρ 14] (γ 0) 0 0 (γ 1) := hS110 _ _ _ _ _ (zAllA hl 0)
  have l1 : sn114 [ρ 3, ρ 4] (γ 3) 0 (-1) (γ 4) := hS114 _ _ _ _ _ (zAllA hl 1)
  have l2 : sn105 [(-1)] (γ 4) 0 0 (γ 5) := hS105 _ _ _ _ _ (zAllA hl 2)
  have l3 : sn109 [ρ 23, ρ 10] (γ 5) 0 0 (γ 6) := hS109 _ _ _ _ _ (zAllA hl 3)
  show sn146 [ρ 0, ρ 1, ρ 2, ρ 3, ρ 4, ρ 5, ρ 6, ρ 7, ρ 8, ρ 9, ρ 10, ρ 11, ρ 12, ρ 13, ρ 14, ρ 15, ρ 16, ρ 17, ρ 18, ρ 19, ρ 20, ρ 21, ρ 22] (γ 0) 0 0 (γ 6)
  refine Eq.symm ?_
  show fn146 [] (γ 0) = _
  unfold fn146
  refine zLE m0 (zLE m1 (zLE (show fn110 [] (γ 0) = (0, 0, γ 1) from l0.symm) (zLV (γ 1) rfl (zLE c2.symm (zLE c3.symm (zLE (show fn114 [] (γ 3) = (0, (-1), γ 4) from l1.symm) (zLV (γ 4) rfl ?_)))))))
  refine zIN zQ2_ (zLE m26 (zLE (show fn105 [(-1)] (γ 4) = (0, 0, γ 5) from l2.symm) (zLV (γ 5) rfl (zLE (show fn109 [ρ 23] (γ 5) = (0, 0, γ 6) from l3.symm) (zLV (γ 6) rfl ?_)))))
  rfl
theorem vn146_1 {S : Nat → zSpc} (hS105 : zIm S 105 sn105) (hS109 : zIm S 109 sn109) (hS110 : zIm S 110 sn110) (hS114 : zIm S 114 sn114) (hS115 : zIm S 115 sn115) (hS144 : zIm S 144 sn144) {a : List Int} {g : rHp} : ∀ (ρ : Nat → Int) (γ : Nat → rHp), zO 23 S a g q146_1 ρ γ → zGl (fun _ _ _ => True) (sn146 a g) q146_1 ρ γ := by
  intro ρ γ h
  obtain ⟨ha, hg, hr, hf, hm, hc, hl⟩ := h
  have ha : a = [ρ 0, ρ 1, ρ 2, ρ 3, ρ 4, ρ 5, ρ 6, ρ 7, ρ 8, ρ 9, ρ 10, ρ 11, ρ 12, ρ 13, ρ 14, ρ 15, ρ 16, ρ 17, ρ 18, ρ 19, ρ 20, ρ 21, ρ 22] := ha
  subst ha
  subst hg
  have r23 : (0 : Int) ≤ ρ 23 ∧ ρ 23 ≤ 255 := zRnA hr 23
  have w_0 : (0 : Int) ≤ ρ 23 := by omega
  have m0 : γ 0 1 0 10 = ρ 0 := zAllA hm 0
  have m1 : γ 0 40 0 (ρ 0) = ρ 1 := zAllA hm 1
  have m26 : γ 4 2 0 6 = ρ 24 := zAllA hm 26
  have c2 : γ 2 = rUp (γ 1) 9 (ρ 1) 2 0 := And.right (zChA hc 4)
  have c3 : γ 3 = rUp (γ 2) 9 (ρ 1) 3 0 := And.right (zChA hc 3)
  have l0 : sn110 [ρ 11, ρ 13, ρ 14] (γ 0) 0 0 (γ 1) := hS110 _ _ _ _ _ (zAllA hl 0)
  have l1 : sn114 [ρ 3, ρ 4] (γ 3) 0 (ρ 23) (γ 4) := hS114 _ _ _ _ _ (zAllA hl 1)
  have l2 : sn105 [ρ 23] (γ 4) 0 0 (γ 5) := hS105 _ _ _ _ _ (zAllA hl 2)
  have l3 : sn109 [ρ 24, ρ 10] (γ 5) 0 0 (γ 6) := hS109 _ _ _ _ _ (zAllA hl 3)
  show sn146 [ρ 0, ρ 1, ρ 2, ρ 3, ρ 4, ρ 5, ρ 6, ρ 7, ρ 8, ρ 9, ρ 10, ρ 11, ρ 12, ρ 13, ρ 14, ρ 15, ρ 16, ρ 17, ρ 18, ρ 19, ρ 20, ρ 21, ρ 22] (γ 0) 0 0 (γ 6)
  refine Eq.symm ?_
  show fn146 [] (γ 0) = _
  unfold fn146
  refine zLE m0 (zLE m1 (zLE (show fn110 [] (γ 0) = (0, 0, γ 1) from l0.symm) (zLV (γ 1) rfl (zLE c2.symm (zLE c3.symm (zLE (show fn114 [] (γ 3) = (0, ρ 23, γ 4) from l1.symm) (zLV (γ 4) rfl ?_)))))))
  refine zIP w_0 (zLV (ρ 23) rfl (zLE m26 (zLE (show fn105 [ρ 23] (γ 4) = (0, 0, γ 5) from l2.symm) (zLV (γ 5) rfl (zIN zQ0_ (zLE (show fn109 [ρ 24] (γ 5) = (0, 0, γ 6) from l3.symm) (zLV (γ 6) rfl ?_)))))))
  rfl
theorem vn146_2 {S : Nat → zSpc} (hS105 : zIm S 105 sn105) (hS109 : zIm S 109 sn109) (hS110 : zIm S 110 sn110) (hS114 : zIm S 114 sn114) (hS115 : zIm S 115 sn115) (hS144 : zIm S 144 sn144) {a : List Int} {g : rHp} : ∀ (ρ : Nat → Int) (γ : Nat → rHp), zO 23 S a g q146_2 ρ γ → zGl (fun _ _ _ => True) (sn146 a g) q146_2 ρ γ := by
  intro ρ γ h
  obtain ⟨ha, hg, hr, hf, hm, hc, hl⟩ := h
  have ha : a = [ρ 0, ρ 1, ρ 2, ρ 3, ρ 4, ρ 5, ρ 6, ρ 7, ρ 8, ρ 9, ρ 10, ρ 11, ρ 12, ρ 13, ρ 14, ρ 15, ρ 16, ρ 17, ρ 18, ρ 19, ρ 20, ρ 21, ρ 22] := ha
  subst ha
  subst hg
  have r23 : (97 : Int) ≤ ρ 23 ∧ ρ 23 ≤ 122 := zRnA hr 23
  have w_0 : (0 : Int) ≤ ρ 23 := by omega
  have m0 : γ 0 1 0 10 = ρ 0 := zAllA hm 0
  have m1 : γ 0 40 0 (ρ 0) = ρ 1 := zAllA hm 1
  have m26 : γ 4 2 0 6 = ρ 24 := zAllA hm 26
  have c2 : γ 2 = rUp (γ 1) 9 (ρ 1) 2 0 := And.right (zChA hc 4)
  have c3 : γ 3 = rUp (γ 2) 9 (ρ 1) 3 0 := And.right (zChA hc 3)
  have l0 : sn110 [ρ 11, ρ 13, ρ 14] (γ 0) 0 0 (γ 1) := hS110 _ _ _ _ _ (zAllA hl 0)
  have l1 : sn114 [ρ 3, ρ 4] (γ 3) 0 (ρ 23) (γ 4) := hS114 _ _ _ _ _ (zAllA hl 1)
  have l2 : sn105 [ρ 23] (γ 4) 0 1 (γ 5) := hS105 _ _ _ _ _ (zAllA hl 2)
  have l3 : sn115 [ρ 24, ρ 4, ρ 10, ρ 12] (γ 5) 0 0 (γ 6) := hS115 _ _ _ _ _ (zAllA hl 3)
  show sn146 [ρ 0, ρ 1, ρ 2, ρ 3, ρ 4, ρ 5, ρ 6, ρ 7, ρ 8, ρ 9, ρ 10, ρ 11, ρ 12, ρ 13, ρ 14, ρ 15, ρ 16, ρ 17, ρ 18, ρ 19, ρ 20, ρ 21, ρ 22] (γ 0) 0 0 (γ 6)
  refine Eq.symm ?_
  show fn146 [] (γ 0) = _
  unfold fn146
  refine zLE m0 (zLE m1 (zLE (show fn110 [] (γ 0) = (0, 0, γ 1) from l0.symm) (zLV (γ 1) rfl (zLE c2.symm (zLE c3.symm (zLE (show fn114 [] (γ 3) = (0, ρ 23, γ 4) from l1.symm) (zLV (γ 4) rfl ?_)))))))
  refine zIP w_0 (zLV (ρ 23) rfl (zLE m26 (zLE (show fn105 [ρ 23] (γ 4) = (0, 1, γ 5) from l2.symm) (zLV (γ 5) rfl (zIP zQ1_ (zLE (show fn115 [] (γ 5) = (0, 0, γ 6) from l3.symm) (zLV (γ 6) rfl ?_)))))))
  refine zIN zQ0_ ?_
  rfl
theorem vn146_3 {S : Nat → zSpc} (hS105 : zIm S 105 sn105) (hS109 : zIm S 109 sn109) (hS110 : zIm S 110 sn110) (hS114 : zIm S 114 sn114) (hS115 : zIm S 115 sn115) (hS144 : zIm S 144 sn144) {a : List Int} {g : rHp} : ∀ (ρ : Nat → Int) (γ : Nat → rHp), zO 23 S a g q146_3 ρ γ → zGl (fun _ _ _ => True) (sn146 a g) q146_3 ρ γ := by
  intro ρ γ h
  obtain ⟨ha, hg, hr, hf, hm, hc, hl⟩ := h
  have ha : a = [ρ 0, ρ 1, ρ 2, ρ 3, ρ 4, ρ 5, ρ 6, ρ 7, ρ 8, ρ 9, ρ 10, ρ 11, ρ 12, ρ 13, ρ 14, ρ 15, ρ 16, ρ 17, ρ 18, ρ 19, ρ 20, ρ 21, ρ 22] := ha
  subst ha
  subst hg
  have r23 : (97 : Int) ≤ ρ 23 ∧ ρ 23 ≤ 122 := zRnA hr 23
  have w_0 : (0 : Int) ≤ ρ 23 := by omega
  have m0 : γ 0 1 0 10 = ρ 0 := zAllA hm 0
  have m1 : γ 0 40 0 (ρ 0) = ρ 1 := zAllA hm 1
  have m26 : γ 4 2 0 6 = ρ 24 := zAllA hm 26
  have c2 : γ 2 = rUp (γ 1) 9 (ρ 1) 2 0 := And.right (zChA hc 5)
  have c3 : γ 3 = rUp (γ 2) 9 (ρ 1) 3 0 := And.right (zChA hc 4)
  have l0 : sn110 [ρ 11, ρ 13, ρ 14] (γ 0) 0 0 (γ 1) := hS110 _ _ _ _ _ (zAllA hl 0)
  have l1 : sn114 [ρ 3, ρ 4] (γ 3) 0 (ρ 23) (γ 4) := hS114 _ _ _ _ _ (zAllA hl 1)
  have l2 : sn105 [ρ 23] (γ 4) 0 1 (γ 5) := hS105 _ _ _ _ _ (zAllA hl 2)
  have l3 : sn115 [ρ 24, ρ 4, ρ 10, ρ 12] (γ 5) 0 1 (γ 6) := hS115 _ _ _ _ _ (zAllA hl 3)
  have l4 : sn144 [ρ 0, ρ 1, 0, ρ 25, ρ 4, ρ 18, ρ 5, ρ 6, ρ 17, ρ 8, ρ 7, ρ 9, ρ 10, 0, ρ 24, 0, 0, ρ 15, ρ 19, ρ 20, ρ 21, ρ 22] (γ 6) 0 0 (γ 7) := hS144 _ _ _ _ _ (zAllA hl 4)
  show sn146 [ρ 0, ρ 1, ρ 2, ρ 3, ρ 4, ρ 5, ρ 6, ρ 7, ρ 8, ρ 9, ρ 10, ρ 11, ρ 12, ρ 13, ρ 14, ρ 15, ρ 16, ρ 17, ρ 18, ρ 19, ρ 20, ρ 21, ρ 22] (γ 0) 0 0 (γ 7)
  refine Eq.symm ?_
  show fn146 [] (γ 0) = _
  unfold fn146
  refine zLE m0 (zLE m1 (zLE (show fn110 [] (γ 0) = (0, 0, γ 1) from l0.symm) (zLV (γ 1) rfl (zLE c2.symm (zLE c3.symm (zLE (show fn114 [] (γ 3) = (0, ρ 23, γ 4) from l1.symm) (zLV (γ 4) rfl ?_)))))))
  refine zIP w_0 (zLV (ρ 23) rfl (zLE m26 (zLE (show fn105 [ρ 23] (γ 4) = (0, 1, γ 5) from l2.symm) (zLV (γ 5) rfl (zIP zQ1_ (zLE (show fn115 [] (γ 5) = (0, 1, γ 6) from l3.symm) (zLV (γ 6) rfl ?_)))))))
  refine zIP zQ1_ (zLE (show fn144 [] (γ 6) = (0, 0, γ 7) from l4.symm) (zLV (γ 7) rfl (zIN zQ0_ ?_)))
  rfl
theorem vn146_4 {S : Nat → zSpc} (hS105 : zIm S 105 sn105) (hS109 : zIm S 109 sn109) (hS110 : zIm S 110 sn110) (hS114 : zIm S 114 sn114) (hS115 : zIm S 115 sn115) (hS144 : zIm S 144 sn144) {a : List Int} {g : rHp} : ∀ (ρ : Nat → Int) (γ : Nat → rHp), zO 23 S a g q146_4 ρ γ → zGl (fun _ _ _ => True) (sn146 a g) q146_4 ρ γ := by
  intro ρ γ h
  obtain ⟨ha, hg, hr, hf, hm, hc, hl⟩ := h
  have ha : a = [ρ 0, ρ 1, ρ 2, ρ 3, ρ 4, ρ 5, ρ 6, ρ 7, ρ 8, ρ 9, ρ 10, ρ 11, ρ 12, ρ 13, ρ 14, ρ 15, ρ 16, ρ 17, ρ 18, ρ 19, ρ 20, ρ 21, ρ 22] := ha
  subst ha
  subst hg
  have r23 : (97 : Int) ≤ ρ 23 ∧ ρ 23 ≤ 122 := zRnA hr 23
  have w_0 : (0 : Int) ≤ ρ 23 := by omega
  have m0 : γ 0 1 0 10 = ρ 0 := zAllA hm 0
  have m1 : γ 0 40 0 (ρ 0) = ρ 1 := zAllA hm 1
  have m26 : γ 4 2 0 6 = ρ 24 := zAllA hm 26
  have c2 : γ 2 = rUp (γ 1) 9 (ρ 1) 2 0 := And.right (zChA hc 5)
  have c3 : γ 3 = rUp (γ 2) 9 (ρ 1) 3 0 := And.right (zChA hc 4)
  have l0 : sn110 [ρ 11, ρ 13, ρ 14] (γ 0) 0 0 (γ 1) := hS110 _ _ _ _ _ (zAllA hl 0)
  have l1 : sn114 [ρ 3, ρ 4] (γ 3) 0 (ρ 23) (γ 4) := hS114 _ _ _ _ _ (zAllA hl 1)
  have l2 : sn105 [ρ 23] (γ 4) 0 1 (γ 5) := hS105 _ _ _ _ _ (zAllA hl 2)
  have l3 : sn115 [ρ 24, ρ 4, ρ 10, ρ 12] (γ 5) 0 1 (γ 6) := hS115 _ _ _ _ _ (zAllA hl 3)
  have l4 : sn144 [ρ 0, ρ 1, 0, ρ 25, ρ 4, ρ 18, ρ 5, ρ 6, ρ 17, ρ 8, ρ 7, ρ 9, ρ 10, 0, ρ 24, 0, 0, ρ 15, ρ 19, ρ 20, ρ 21, ρ 22] (γ 6) 0 1 (γ 7) := hS144 _ _ _ _ _ (zAllA hl 4)
  show sn146 [ρ 0, ρ 1, ρ 2, ρ 3, ρ 4, ρ 5, ρ 6, ρ 7, ρ 8, ρ 9, ρ 10, ρ 11, ρ 12, ρ 13, ρ 14, ρ 15, ρ 16, ρ 17, ρ 18, ρ 19, ρ 20, ρ 21, ρ 22] (γ 0) 0 1 (γ 7)
  refine Eq.symm ?_
  show fn146 [] (γ 0) = _
  unfold fn146
  refine zLE m0 (zLE m1 (zLE (show fn110 [] (γ 0) = (0, 0, γ 1) from l0.symm) (zLV (γ 1) rfl (zLE c2.symm (zLE c3.symm (zLE (show fn114 [] (γ 3) = (0, ρ 23, γ 4) from l1.symm) (zLV (γ 4) rfl ?_)))))))
  refine zIP w_0 (zLV (ρ 23) rfl (zLE m26 (zLE (show fn105 [ρ 23] (γ 4) = (0, 1, γ 5) from l2.symm) (zLV (γ 5) rfl (zIP zQ1_ (zLE (show fn115 [] (γ 5) = (0, 1, γ 6) from l3.symm) (zLV (γ 6) rfl ?_)))))))
  refine zIP zQ1_ (zLE (show fn144 [] (γ 6) = (0, 1, γ 7) from l4.symm) (zLV (γ 7) rfl (zIP zQ1_ ?_)))
  rfl
theorem vn146_5 {S : Nat → zSpc} (hS105 : zIm S 105 sn105) (hS109 : zIm S 109 sn109) (hS110 : zIm S 110 sn110) (hS114 : zIm S 114 sn114) (hS115 : zIm S 115 sn115) (hS144 : zIm S 144 sn144) {a : List Int} {g : rHp} : ∀ (ρ : Nat → Int) (γ : Nat → rHp), zO 23 S a g q146_5 ρ γ → zGl (fun _ _ _ => True) (sn146 a g) q146_5 ρ γ := by
  intro ρ γ h
  obtain ⟨ha, hg, hr, hf, hm, hc, hl⟩ := h
  have ha : a = [ρ 0, ρ 1, ρ 2, ρ 3, ρ 4, ρ 5, ρ 6, ρ 7, ρ 8, ρ 9, ρ 10, ρ 11, ρ 12, ρ 13, ρ 14, ρ 15, ρ 16, ρ 17, ρ 18, ρ 19, ρ 20, ρ 21, ρ 22] := ha
  subst ha
  subst hg
  have r23 : (97 : Int) ≤ ρ 23 ∧ ρ 23 ≤ 122 := zRnA hr 23
  have w_0 : (0 : Int) ≤ ρ 23 := by omega
  have m0 : γ 0 1 0 10 = ρ 0 := zAllA hm 0
  have m1 : γ 0 40 0 (ρ 0) = ρ 1 := zAllA hm 1
  have m26 : γ 4 2 0 6 = ρ 24 := zAllA hm 26
  have c2 : γ 2 = rUp (γ 1) 9 (ρ 1) 2 0 := And.right (zChA hc 5)
  have c3 : γ 3 = rUp (γ 2) 9 (ρ 1) 3 0 := And.right (zChA hc 4)
  have l0 : sn110 [ρ 11, ρ 13, ρ 14] (γ 0) 0 0 (γ 1) := hS110 _ _ _ _ _ (zAllA hl 0)
  have l1 : sn114 [ρ 3, ρ 4] (γ 3) 0 (ρ 23) (γ 4) := hS114 _ _ _ _ _ (zAllA hl 1)
  have l2 : sn105 [ρ 23] (γ 4) 0 1 (γ 5) := hS105 _ _ _ _ _ (zAllA hl 2)
  have l3 : sn115 [ρ 24, ρ 4, ρ 10, ρ 12] (γ 5) 0 1 (γ 6) := hS115 _ _ _ _ _ (zAllA hl 3)
  have l4 : sn144 [ρ 0, ρ 1, 0, ρ 25, ρ 4, ρ 18, ρ 5, ρ 6, ρ 17, ρ 8, ρ 7, ρ 9, ρ 10, 0, ρ 24, 0, 0, ρ 15, ρ 19, ρ 20, ρ 21, ρ 22] (γ 6) 0 1 (γ 7) := hS144 _ _ _ _ _ (zAllA hl 4)
  show sn146 [ρ 0, ρ 1, ρ 2, ρ 3, ρ 4, ρ 5, ρ 6, ρ 7, ρ 8, ρ 9, ρ 10, ρ 11, ρ 12, ρ 13, ρ 14, ρ 15, ρ 16, ρ 17, ρ 18, ρ 19, ρ 20, ρ 21, ρ 22] (γ 0) 0 1 (γ 7)
  refine Eq.symm ?_
  show fn146 [] (γ 0) = _
  unfold fn146
  refine zLE m0 (zLE m1 (zLE (show fn110 [] (γ 0) = (0, 0, γ 1) from l0.symm) (zLV (γ 1) rfl (zLE c2.symm (zLE c3.symm (zLE (show fn114 [] (γ 3) = (0, ρ 23, γ 4) from l1.symm) (zLV (γ 4) rfl ?_)))))))
  refine zIP w_0 (zLV (ρ 23) rfl (zLE m26 (zLE (show fn105 [ρ 23] (γ 4) = (0, 1, γ 5) from l2.symm) (zLV (γ 5) rfl (zIP zQ1_ (zLE (show fn115 [] (γ 5) = (0, 1, γ 6) from l3.symm) (zLV (γ 6) rfl ?_)))))))
  refine zIP zQ1_ (zLE (show fn144 [] (γ 6) = (0, 1, γ 7) from l4.symm) (zLV (γ 7) rfl (zIP zQ1_ ?_)))
  rfl
theorem yn146 {S : Nat → zSpc} (hS105 : zIm S 105 sn105) (hS109 : zIm S 109 sn109) (hS110 : zIm S 110 sn110) (hS114 : zIm S 114 sn114) (hS115 : zIm S 115 sn115) (hS144 : zIm S 144 sn144) : ∀ x g o v gz, zSem uW uT w146_.2.2.2.1 w146_.2.2.1.1.length S q146 (fun i => q146a.getD i []) (zNA a146_) x g o v gz → sn146 x g o v gz := by
  intro a g o v gz h
  exact zSem_all (l0 := q146) (las := q146a) (S := S) (J := (fun _ _ _ => True)) (P := sn146 a g) (fun _ => (show zAll _ [q146_0, q146_1, q146_2, q146_3, q146_4, q146_5] from (zAll_c (vn146_0 hS105 hS109 hS110 hS114 hS115 hS144) (zAll_c (vn146_1 hS105 hS109 hS110 hS114 hS115 hS144) (zAll_c (vn146_2 hS105 hS109 hS110 hS114 hS115 hS144) (zAll_c (vn146_3 hS105 hS109 hS110 hS114 hS115 hS144) (zAll_c (vn146_4 hS105 hS109 hS110 hS114 hS115 hS144) (zAll_c (vn146_5 hS105 hS109 hS110 hS114 hS115 hS144) zAll_n)))))))) (fun _ => (show zAllI _ 0 [] from trivial)) h
theorem vn147_0 {S : Nat → zSpc} (hS109 : zIm S 109 sn109) {a : List Int} {g : rHp} : ∀ (ρ : Nat → Int) (γ : Nat → rHp), zO 3 S a g q147_0 ρ γ → zGl (fun i vs g1 => jn147 a g i vs g1) (sn147 a g) q147_0 ρ γ := by
  intro ρ γ h
  obtain ⟨ha, hg, hr, hf, hm, hc, hl⟩ := h
  have ha : a = [ρ 0, ρ 1, ρ 2] := ha
  subst ha
  subst hg
  show jn147 [ρ 0, ρ 1, ρ 2] (γ 0) 0 [ρ 0, ρ 1, ρ 2, 0] (γ 0)
  have hD : dn147 [ρ 0] (γ 0) = .inl (0, [ρ 0, 0], γ 0) := by
    unfold dn147
    refine zLV (ρ 0) rfl ?_
    rfl
  exact zGoo_to hD
theorem vn147a0_0 {S : Nat → zSpc} (hS109 : zIm S 109 sn109) {a : List Int} {g : rHp} : ∀ (ρ : Nat → Int) (γ : Nat → rHp), jn147 a g 0 (zAg (zNA a147_ 0) ρ) (γ 1) → zO 3 S a g q147a0_0 ρ γ → zGl (fun i vs g1 => jn147 a g i vs g1) (sn147 a g) q147a0_0 ρ γ := by
  intro ρ γ hJ h
  obtain ⟨ha, hg, hr, hf, hm, hc, hl⟩ := h
  have ha : a = [ρ 0, ρ 1, ρ 2] := ha
  subst ha
  subst hg
  have hJ : jn147 [ρ 0, ρ 1, ρ 2] (γ 0) 0 [ρ 0, ρ 1, ρ 2, ρ 3] (γ 1) := hJ
  have f0 : (0 : Int) ≤ ρ 3 + -ρ 2 := zAllA hf 0
  have w_0 : ρ 3 ≥ ρ 2 := by omega
  have m1 : γ 0 10 (ρ 0) 5 = ρ 2 := zAllA hm 1
  show sn147 [ρ 0, ρ 1, ρ 2] (γ 0) 0 1 (γ 1)
  have hD : en147 (γ 0) (0, [ρ 0, ρ 3], γ 1) = .inr (0, 1, γ 1) := by
    unfold en147
    refine zIP (show (0 : Nat) = 0 by decide) (zLV (γ 1) rfl (zLV (ρ 0) rfl (zLV (ρ 3) rfl (zLE m1 (zIP w_0 ?_)))))
    rfl
  exact zGoo_aend hJ hD
theorem vn147a0_1 {S : Nat → zSpc} (hS109 : zIm S 109 sn109) {a : List Int} {g : rHp} : ∀ (ρ : Nat → Int) (γ : Nat → rHp), jn147 a g 0 (zAg (zNA a147_ 0) ρ) (γ 1) → zO 3 S a g q147a0_1 ρ γ → zGl (fun i vs g1 => jn147 a g i vs g1) (sn147 a g) q147a0_1 ρ γ := by
  intro ρ γ hJ h
  obtain ⟨ha, hg, hr, hf, hm, hc, hl⟩ := h
  have ha : a = [ρ 0, ρ 1, ρ 2] := ha
  subst ha
  subst hg
  have hJ : jn147 [ρ 0, ρ 1, ρ 2] (γ 0) 0 [ρ 0, ρ 1, ρ 2, ρ 3] (γ 1) := hJ
  have r4 : (0 : Int) ≤ ρ 4 ∧ ρ 4 ≤ 0 := zRnA hr 4
  have f0 : (0 : Int) ≤ -ρ 3 + ρ 2 + (-1) := zAllA hf 0
  obtain ⟨w_0, w_1⟩ : (¬ (ρ 3 ≥ ρ 2)) ∧ (ρ 4 = 0) := ⟨by omega, by omega⟩
  have m1 : γ 0 10 (ρ 0) 5 = ρ 2 := zAllA hm 1
  have m2 : γ 0 43 (ρ 0) (ρ 3) = ρ 4 := zAllA hm 2
  show jn147 [ρ 0, ρ 1, ρ 2] (γ 0) 0 [ρ 0, ρ 1, ρ 2, ρ 3 + 1] (γ 1)
  have hD : en147 (γ 0) (0, [ρ 0, ρ 3], γ 1) = .inl (0, [ρ 0, ρ 3 + 1], γ 1) := by
    unfold en147
    refine zIP (show (0 : Nat) = 0 by decide) (zLV (γ 1) rfl (zLV (ρ 0) rfl (zLV (ρ 3) rfl (zLE m1 (zIN w_0 (zLE m2 (zIP w_1 ?_)))))))
    rfl
  exact zGoo_ato hJ hD
theorem vn147a0_2 {S : Nat → zSpc} (hS109 : zIm S 109 sn109) {a : List Int} {g : rHp} : ∀ (ρ : Nat → Int) (γ : Nat → rHp), jn147 a g 0 (zAg (zNA a147_ 0) ρ) (γ 1) → zO 3 S a g q147a0_2 ρ γ → zGl (fun i vs g1 => jn147 a g i vs g1) (sn147 a g) q147a0_2 ρ γ := by
  intro ρ γ hJ h
  obtain ⟨ha, hg, hr, hf, hm, hc, hl⟩ := h
  have ha : a = [ρ 0, ρ 1, ρ 2] := ha
  subst ha
  subst hg
  have hJ : jn147 [ρ 0, ρ 1, ρ 2] (γ 0) 0 [ρ 0, ρ 1, ρ 2, ρ 3] (γ 1) := hJ
  have r4 : (1 : Int) ≤ ρ 4 ∧ ρ 4 ≤ 4 := zRnA hr 4
  have f0 : (0 : Int) ≤ -ρ 3 + ρ 2 + (-1) := zAllA hf 0
  obtain ⟨w_0, w_1⟩ : (¬ (ρ 3 ≥ ρ 2)) ∧ (¬ (ρ 4 = 0)) := ⟨by omega, by omega⟩
  have m1 : γ 0 10 (ρ 0) 5 = ρ 2 := zAllA hm 1
  have m2 : γ 0 43 (ρ 0) (ρ 3) = ρ 4 := zAllA hm 2
  have m3 : γ 0 45 (ρ 0) (ρ 3) = ρ 5 := zAllA hm 3
  have l0 : sn109 [ρ 5, ρ 1] (γ 1) 0 0 (γ 2) := hS109 _ _ _ _ _ (zAllA hl 0)
  show sn147 [ρ 0, ρ 1, ρ 2] (γ 0) 0 0 (γ 2)
  have hD : en147 (γ 0) (0, [ρ 0, ρ 3], γ 1) = .inr (0, 0, γ 2) := by
    unfold en147
    refine zIP (show (0 : Nat) = 0 by decide) (zLV (γ 1) rfl (zLV (ρ 0) rfl (zLV (ρ 3) rfl (zLE m1 (zIN w_0 (zLE m2 (zIN w_1 ?_)))))))
    refine zLE m3 (zLE (show fn109 [ρ 5] (γ 1) = (0, 0, γ 2) from l0.symm) (zLV (γ 2) rfl ?_))
    rfl
  exact zGoo_aend hJ hD
theorem yn147 {S : Nat → zSpc} (hS109 : zIm S 109 sn109) : ∀ x g o v gz, zSem uW uT w147_.2.2.2.1 w147_.2.2.1.1.length S q147 (fun i => q147a.getD i []) (zNA a147_) x g o v gz → sn147 x g o v gz := by
  intro a g o v gz h
  exact zSem_all (l0 := q147) (las := q147a) (S := S) (J := (fun i vs g1 => jn147 a g i vs g1)) (P := sn147 a g) (fun _ => (show zAll _ [q147_0] from (zAll_c (vn147_0 hS109) zAll_n))) (fun _ => (show zAllI _ 0 [q147a0] from ⟨(show zAll _ [q147a0_0, q147a0_1, q147a0_2] from (zAll_c (vn147a0_0 hS109) (zAll_c (vn147a0_1 hS109) (zAll_c (vn147a0_2 hS109) zAll_n)))), trivial⟩)) h
theorem vn148_0 {S : Nat → zSpc} (hS109 : zIm S 109 sn109) (hS114 : zIm S 114 sn114) (hS147 : zIm S 147 sn147) {a : List Int} {g : rHp} : ∀ (ρ : Nat → Int) (γ : Nat → rHp), zO 5 S a g q148_0 ρ γ → zGl (fun _ _ _ => True) (sn148 a g) q148_0 ρ γ := by
  intro ρ γ h
  obtain ⟨ha, hg, hr, hf, hm, hc, hl⟩ := h
  have ha : a = [ρ 0, ρ 1, ρ 2, ρ 3, ρ 4] := ha
  subst ha
  subst hg
  have m4 : γ 1 2 0 6 = ρ 5 := zAllA hm 4
  have l0 : sn114 [ρ 1, ρ 2] (γ 0) 0 (-1) (γ 1) := hS114 _ _ _ _ _ (zAllA hl 0)
  have l1 : sn109 [ρ 5, ρ 3] (γ 1) 0 0 (γ 2) := hS109 _ _ _ _ _ (zAllA hl 1)
  show sn148 [ρ 0, ρ 1, ρ 2, ρ 3, ρ 4] (γ 0) 0 0 (γ 2)
  refine Eq.symm ?_
  show fn148 [ρ 0] (γ 0) = _
  unfold fn148
  refine zLV (ρ 0) rfl (zLE (show fn114 [] (γ 0) = (0, (-1), γ 1) from l0.symm) (zLV (γ 1) rfl (zIN zQ2_ (zLE m4 (zLE (show fn109 [ρ 5] (γ 1) = (0, 0, γ 2) from l1.symm) (zLV (γ 2) rfl ?_))))))
  rfl
theorem vn148_1 {S : Nat → zSpc} (hS109 : zIm S 109 sn109) (hS114 : zIm S 114 sn114) (hS147 : zIm S 147 sn147) {a : List Int} {g : rHp} : ∀ (ρ : Nat → Int) (γ : Nat → rHp), zO 5 S a g q148_1 ρ γ → zGl (fun _ _ _ => True) (sn148 a g) q148_1 ρ γ := by
  intro ρ γ h
  obtain ⟨ha, hg, hr, hf, hm, hc, hl⟩ := h
  have ha : a = [ρ 0, ρ 1, ρ 2, ρ 3, ρ 4] := ha
  subst ha
  subst hg
  have r5 : (46 : Int) ≤ ρ 5 ∧ ρ 5 ≤ 46 := zRnA hr 5
  obtain ⟨w_0, w_1⟩ : ((0 : Int) ≤ ρ 5) ∧ (ρ 5 = 46) := ⟨by omega, by omega⟩
  have m4 : γ 1 2 0 6 = ρ 6 := zAllA hm 4
  have c2 : γ 2 = rUp (γ 1) 2 0 6 (ρ 6 + 1) := And.right (zChA hc 1)
  have l0 : sn114 [ρ 1, ρ 2] (γ 0) 0 (ρ 5) (γ 1) := hS114 _ _ _ _ _ (zAllA hl 0)
  have l1 : sn147 [ρ 0, ρ 3, ρ 4] (γ 2) 0 0 (γ 3) := hS147 _ _ _ _ _ (zAllA hl 1)
  show sn148 [ρ 0, ρ 1, ρ 2, ρ 3, ρ 4] (γ 0) 0 0 (γ 3)
  refine Eq.symm ?_
  show fn148 [ρ 0] (γ 0) = _
  unfold fn148
  refine zLV (ρ 0) rfl (zLE (show fn114 [] (γ 0) = (0, ρ 5, γ 1) from l0.symm) (zLV (γ 1) rfl (zIP w_0 (zLV (ρ 5) rfl (zLE m4 (zIP w_1 (zLE c2.symm ?_)))))))
  refine zLE (show fn147 [ρ 0] (γ 2) = (0, 0, γ 3) from l1.symm) (zLV (γ 3) rfl (zIN zQ0_ ?_))
  rfl
theorem vn148_2 {S : Nat → zSpc} (hS109 : zIm S 109 sn109) (hS114 : zIm S 114 sn114) (hS147 : zIm S 147 sn147) {a : List Int} {g : rHp} : ∀ (ρ : Nat → Int) (γ : Nat → rHp), zO 5 S a g q148_2 ρ γ → zGl (fun _ _ _ => True) (sn148 a g) q148_2 ρ γ := by
  intro ρ γ h
  obtain ⟨ha, hg, hr, hf, hm, hc, hl⟩ := h
  have ha : a = [ρ 0, ρ 1, ρ 2, ρ 3, ρ 4] := ha
  subst ha
  subst hg
  have r5 : (46 : Int) ≤ ρ 5 ∧ ρ 5 ≤ 46 := zRnA hr 5
  obtain ⟨w_0, w_1⟩ : ((0 : Int) ≤ ρ 5) ∧ (ρ 5 = 46) := ⟨by omega, by omega⟩
  have m4 : γ 1 2 0 6 = ρ 6 := zAllA hm 4
  have c2 : γ 2 = rUp (γ 1) 2 0 6 (ρ 6 + 1) := And.right (zChA hc 1)
  have l0 : sn114 [ρ 1, ρ 2] (γ 0) 0 (ρ 5) (γ 1) := hS114 _ _ _ _ _ (zAllA hl 0)
  have l1 : sn147 [ρ 0, ρ 3, ρ 4] (γ 2) 0 1 (γ 3) := hS147 _ _ _ _ _ (zAllA hl 1)
  show sn148 [ρ 0, ρ 1, ρ 2, ρ 3, ρ 4] (γ 0) 0 1 (γ 3)
  refine Eq.symm ?_
  show fn148 [ρ 0] (γ 0) = _
  unfold fn148
  refine zLV (ρ 0) rfl (zLE (show fn114 [] (γ 0) = (0, ρ 5, γ 1) from l0.symm) (zLV (γ 1) rfl (zIP w_0 (zLV (ρ 5) rfl (zLE m4 (zIP w_1 (zLE c2.symm ?_)))))))
  refine zLE (show fn147 [ρ 0] (γ 2) = (0, 1, γ 3) from l1.symm) (zLV (γ 3) rfl (zIP zQ1_ ?_))
  rfl
theorem vn148_3 {S : Nat → zSpc} (hS109 : zIm S 109 sn109) (hS114 : zIm S 114 sn114) (hS147 : zIm S 147 sn147) {a : List Int} {g : rHp} : ∀ (ρ : Nat → Int) (γ : Nat → rHp), zO 5 S a g q148_3 ρ γ → zGl (fun _ _ _ => True) (sn148 a g) q148_3 ρ γ := by
  intro ρ γ h
  obtain ⟨ha, hg, hr, hf, hm, hc, hl⟩ := h
  have ha : a = [ρ 0, ρ 1, ρ 2, ρ 3, ρ 4] := ha
  subst ha
  subst hg
  have r5 : (0 : Int) ≤ ρ 5 ∧ ρ 5 ≤ 255 := zRnA hr 5
  have w_0 : (0 : Int) ≤ ρ 5 := by omega
  have m4 : γ 1 2 0 6 = ρ 6 := zAllA hm 4
  have l0 : sn114 [ρ 1, ρ 2] (γ 0) 0 (ρ 5) (γ 1) := hS114 _ _ _ _ _ (zAllA hl 0)
  have l1 : ρ 5 ≠ 46 := zAllA hl 1
  have l2 : sn109 [ρ 6, ρ 3] (γ 1) 0 0 (γ 2) := hS109 _ _ _ _ _ (zAllA hl 2)
  have wl_0 : ¬ (ρ 5 = 46) := by omega
  show sn148 [ρ 0, ρ 1, ρ 2, ρ 3, ρ 4] (γ 0) 0 0 (γ 2)
  refine Eq.symm ?_
  show fn148 [ρ 0] (γ 0) = _
  unfold fn148
  refine zLV (ρ 0) rfl (zLE (show fn114 [] (γ 0) = (0, ρ 5, γ 1) from l0.symm) (zLV (γ 1) rfl (zIP w_0 (zLV (ρ 5) rfl (zLE m4 (zIN wl_0 (zLE (show fn109 [ρ 6] (γ 1) = (0, 0, γ 2) from l2.symm) ?_)))))))
  refine zLV (γ 2) rfl ?_
  rfl
theorem yn148 {S : Nat → zSpc} (hS109 : zIm S 109 sn109) (hS114 : zIm S 114 sn114) (hS147 : zIm S 147 sn147) : ∀ x g o v gz, zSem uW uT w148_.2.2.2.1 w148_.2.2.1.1.length S q148 (fun i => q148a.getD i []) (zNA a148_) x g o v gz → sn148 x g o v gz := by
  intro a g o v gz h
  exact zSem_all (l0 := q148) (las := q148a) (S := S) (J := (fun _ _ _ => True)) (P := sn148 a g) (fun _ => (show zAll _ [q148_0, q148_1, q148_2, q148_3] from (zAll_c (vn148_0 hS109 hS114 hS147) (zAll_c (vn148_1 hS109 hS114 hS147) (zAll_c (vn148_2 hS109 hS114 hS147) (zAll_c (vn148_3 hS109 hS114 hS147) zAll_n)))))) (fun _ => (show zAllI _ 0 [] from trivial)) h
theorem vn149_0 {S : Nat → zSpc} (hS109 : zIm S 109 sn109) (hS114 : zIm S 114 sn114) {a : List Int} {g : rHp} : ∀ (ρ : Nat → Int) (γ : Nat → rHp), zO 3 S a g q149_0 ρ γ → zGl (fun _ _ _ => True) (sn149 a g) q149_0 ρ γ := by
  intro ρ γ h
  obtain ⟨ha, hg, hr, hf, hm, hc, hl⟩ := h
  have ha : a = [ρ 0, ρ 1, ρ 2] := ha
  subst ha
  subst hg
  have l0 : sn114 [ρ 0, ρ 1] (γ 0) 0 (-1) (γ 1) := hS114 _ _ _ _ _ (zAllA hl 0)
  show sn149 [ρ 0, ρ 1, ρ 2] (γ 0) 0 1 (γ 1)
  refine Eq.symm ?_
  show fn149 [] (γ 0) = _
  unfold fn149
  refine zLE (show fn114 [] (γ 0) = (0, (-1), γ 1) from l0.symm) (zLV (γ 1) rfl (zIN zQ2_ ?_))
  rfl
theorem vn149_1 {S : Nat → zSpc} (hS109 : zIm S 109 sn109) (hS114 : zIm S 114 sn114) {a : List Int} {g : rHp} : ∀ (ρ : Nat → Int) (γ : Nat → rHp), zO 3 S a g q149_1 ρ γ → zGl (fun _ _ _ => True) (sn149 a g) q149_1 ρ γ := by
  intro ρ γ h
  obtain ⟨ha, hg, hr, hf, hm, hc, hl⟩ := h
  have ha : a = [ρ 0, ρ 1, ρ 2] := ha
  subst ha
  subst hg
  have r3 : (0 : Int) ≤ ρ 3 ∧ ρ 3 ≤ 255 := zRnA hr 3
  have w_0 : (0 : Int) ≤ ρ 3 := by omega
  have m3 : γ 1 2 0 6 = ρ 4 := zAllA hm 3
  have l0 : sn114 [ρ 0, ρ 1] (γ 0) 0 (ρ 3) (γ 1) := hS114 _ _ _ _ _ (zAllA hl 0)
  have l1 : sn109 [ρ 4, ρ 2] (γ 1) 0 0 (γ 2) := hS109 _ _ _ _ _ (zAllA hl 1)
  show sn149 [ρ 0, ρ 1, ρ 2] (γ 0) 0 0 (γ 2)
  refine Eq.symm ?_
  show fn149 [] (γ 0) = _
  unfold fn149
  refine zLE (show fn114 [] (γ 0) = (0, ρ 3, γ 1) from l0.symm) (zLV (γ 1) rfl (zIP w_0 (zLE m3 (zLE (show fn109 [ρ 4] (γ 1) = (0, 0, γ 2) from l1.symm) (zLV (γ 2) rfl ?_)))))
  rfl
theorem yn149 {S : Nat → zSpc} (hS109 : zIm S 109 sn109) (hS114 : zIm S 114 sn114) : ∀ x g o v gz, zSem uW uT w149_.2.2.2.1 w149_.2.2.1.1.length S q149 (fun i => q149a.getD i []) (zNA a149_) x g o v gz → sn149 x g o v gz := by
  intro a g o v gz h
  exact zSem_all (l0 := q149) (las := q149a) (S := S) (J := (fun _ _ _ => True)) (P := sn149 a g) (fun _ => (show zAll _ [q149_0, q149_1] from (zAll_c (vn149_0 hS109 hS114) (zAll_c (vn149_1 hS109 hS114) zAll_n)))) (fun _ => (show zAllI _ 0 [] from trivial)) h
theorem vn150_0 {S : Nat → zSpc} (hS109 : zIm S 109 sn109) (hS128 : zIm S 128 sn128) (hS129 : zIm S 129 sn129) (hS148 : zIm S 148 sn148) {a : List Int} {g : rHp} : ∀ (ρ : Nat → Int) (γ : Nat → rHp), zO 8 S a g q150_0 ρ γ → zGl (fun _ _ _ => True) (sn150 a g) q150_0 ρ γ := by
  intro ρ γ h
  obtain ⟨ha, hg, hr, hf, hm, hc, hl⟩ := h
  have ha : a = [ρ 0, ρ 1, ρ 2, ρ 3, ρ 4, ρ 5, ρ 6, ρ 7] := ha
  subst ha
  subst hg
  have m6 : γ 0 10 (ρ 0) 7 = ρ 7 := zAllA hm 6
  have l0 : sn148 [ρ 0, ρ 1, ρ 2, ρ 5, ρ 6] (γ 0) 0 0 (γ 1) := hS148 _ _ _ _ _ (zAllA hl 0)
  show sn150 [ρ 0, ρ 1, ρ 2, ρ 3, ρ 4, ρ 5, ρ 6, ρ 7] (γ 0) 0 0 (γ 1)
  refine Eq.symm ?_
  show fn150 [ρ 0] (γ 0) = _
  unfold fn150
  refine zLV (ρ 0) rfl (zLE m6 (zLE (show fn148 [ρ 0] (γ 0) = (0, 0, γ 1) from l0.symm) (zLV (γ 1) rfl (zIN zQ0_ ?_))))
  rfl
theorem vn150_1 {S : Nat → zSpc} (hS109 : zIm S 109 sn109) (hS128 : zIm S 128 sn128) (hS129 : zIm S 129 sn129) (hS148 : zIm S 148 sn148) {a : List Int} {g : rHp} : ∀ (ρ : Nat → Int) (γ : Nat → rHp), zO 8 S a g q150_1 ρ γ → zGl (fun _ _ _ => True) (sn150 a g) q150_1 ρ γ := by
  intro ρ γ h
  obtain ⟨ha, hg, hr, hf, hm, hc, hl⟩ := h
  have ha : a = [ρ 0, ρ 1, ρ 2, ρ 3, ρ 4, ρ 5, ρ 6, ρ 7] := ha
  subst ha
  subst hg
  have r9 : (0 : Int) ≤ ρ 9 ∧ ρ 9 ≤ 400 := zRnA hr 9
  have w_0 : ρ 9 ≥ 0 := by omega
  have m6 : γ 0 10 (ρ 0) 7 = ρ 7 := zAllA hm 6
  have l0 : sn148 [ρ 0, ρ 1, ρ 2, ρ 5, ρ 6] (γ 0) 0 1 (γ 1) := hS148 _ _ _ _ _ (zAllA hl 0)
  have l1 : sn128 [ρ 0, ρ 4, ρ 3] (γ 1) 0 (ρ 9) (γ 2) := hS128 _ _ _ _ _ (zAllA hl 1)
  show sn150 [ρ 0, ρ 1, ρ 2, ρ 3, ρ 4, ρ 5, ρ 6, ρ 7] (γ 0) 0 1 (γ 2)
  refine Eq.symm ?_
  show fn150 [ρ 0] (γ 0) = _
  unfold fn150
  refine zLV (ρ 0) rfl (zLE m6 (zLE (show fn148 [ρ 0] (γ 0) = (0, 1, γ 1) from l0.symm) (zLV (γ 1) rfl (zIP zQ1_ (zLE (show fn128 [ρ 0] (γ 1) = (0, ρ 9, γ 2) from l1.symm) (zLV (γ 2) rfl (zLV (ρ 9) rfl ?_)))))))
  refine zIP w_0 ?_
  rfl
theorem vn150_2 {S : Nat → zSpc} (hS109 : zIm S 109 sn109) (hS128 : zIm S 128 sn128) (hS129 : zIm S 129 sn129) (hS148 : zIm S 148 sn148) {a : List Int} {g : rHp} : ∀ (ρ : Nat → Int) (γ : Nat → rHp), zO 8 S a g q150_2 ρ γ → zGl (fun _ _ _ => True) (sn150 a g) q150_2 ρ γ := by
  intro ρ γ h
  obtain ⟨ha, hg, hr, hf, hm, hc, hl⟩ := h
  have ha : a = [ρ 0, ρ 1, ρ 2, ρ 3, ρ 4, ρ 5, ρ 6, ρ 7] := ha
  subst ha
  subst hg
  have r9 : ((-1) : Int) ≤ ρ 9 ∧ ρ 9 ≤ (-1) := zRnA hr 9
  have w_0 : ¬ (ρ 9 ≥ 0) := by omega
  have m6 : γ 0 10 (ρ 0) 7 = ρ 7 := zAllA hm 6
  have l0 : sn148 [ρ 0, ρ 1, ρ 2, ρ 5, ρ 6] (γ 0) 0 1 (γ 1) := hS148 _ _ _ _ _ (zAllA hl 0)
  have l1 : sn128 [ρ 0, ρ 4, ρ 3] (γ 1) 0 (ρ 9) (γ 2) := hS128 _ _ _ _ _ (zAllA hl 1)
  have l2 : sn129 [ρ 0, ρ 3, ρ 4] (γ 2) 0 0 (γ 3) := hS129 _ _ _ _ _ (zAllA hl 2)
  have l3 : sn109 [ρ 7, ρ 5] (γ 3) 0 0 (γ 4) := hS109 _ _ _ _ _ (zAllA hl 3)
  show sn150 [ρ 0, ρ 1, ρ 2, ρ 3, ρ 4, ρ 5, ρ 6, ρ 7] (γ 0) 0 0 (γ 4)
  refine Eq.symm ?_
  show fn150 [ρ 0] (γ 0) = _
  unfold fn150
  refine zLV (ρ 0) rfl (zLE m6 (zLE (show fn148 [ρ 0] (γ 0) = (0, 1, γ 1) from l0.symm) (zLV (γ 1) rfl (zIP zQ1_ (zLE (show fn128 [ρ 0] (γ 1) = (0, ρ 9, γ 2) from l1.symm) (zLV (γ 2) rfl (zLV (ρ 9) rfl ?_)))))))
  refine zIN w_0 (zLE (show fn129 [ρ 0] (γ 2) = (0, 0, γ 3) from l2.symm) (zLV (γ 3) rfl (zIN zQ0_ (zLE (show fn109 [ρ 7] (γ 3) = (0, 0, γ 4) from l3.symm) (zLV (γ 4) rfl ?_)))))
  rfl
theorem vn150_3 {S : Nat → zSpc} (hS109 : zIm S 109 sn109) (hS128 : zIm S 128 sn128) (hS129 : zIm S 129 sn129) (hS148 : zIm S 148 sn148) {a : List Int} {g : rHp} : ∀ (ρ : Nat → Int) (γ : Nat → rHp), zO 8 S a g q150_3 ρ γ → zGl (fun _ _ _ => True) (sn150 a g) q150_3 ρ γ := by
  intro ρ γ h
  obtain ⟨ha, hg, hr, hf, hm, hc, hl⟩ := h
  have ha : a = [ρ 0, ρ 1, ρ 2, ρ 3, ρ 4, ρ 5, ρ 6, ρ 7] := ha
  subst ha
  subst hg
  have r9 : ((-1) : Int) ≤ ρ 9 ∧ ρ 9 ≤ (-1) := zRnA hr 9
  have w_0 : ¬ (ρ 9 ≥ 0) := by omega
  have m6 : γ 0 10 (ρ 0) 7 = ρ 7 := zAllA hm 6
  have l0 : sn148 [ρ 0, ρ 1, ρ 2, ρ 5, ρ 6] (γ 0) 0 1 (γ 1) := hS148 _ _ _ _ _ (zAllA hl 0)
  have l1 : sn128 [ρ 0, ρ 4, ρ 3] (γ 1) 0 (ρ 9) (γ 2) := hS128 _ _ _ _ _ (zAllA hl 1)
  have l2 : sn129 [ρ 0, ρ 3, ρ 4] (γ 2) 0 1 (γ 3) := hS129 _ _ _ _ _ (zAllA hl 2)
  show sn150 [ρ 0, ρ 1, ρ 2, ρ 3, ρ 4, ρ 5, ρ 6, ρ 7] (γ 0) 0 1 (γ 3)
  refine Eq.symm ?_
  show fn150 [ρ 0] (γ 0) = _
  unfold fn150
  refine zLV (ρ 0) rfl (zLE m6 (zLE (show fn148 [ρ 0] (γ 0) = (0, 1, γ 1) from l0.symm) (zLV (γ 1) rfl (zIP zQ1_ (zLE (show fn128 [ρ 0] (γ 1) = (0, ρ 9, γ 2) from l1.symm) (zLV (γ 2) rfl (zLV (ρ 9) rfl ?_)))))))
  refine zIN w_0 (zLE (show fn129 [ρ 0] (γ 2) = (0, 1, γ 3) from l2.symm) (zLV (γ 3) rfl (zIP zQ1_ ?_)))
  rfl
theorem yn150 {S : Nat → zSpc} (hS109 : zIm S 109 sn109) (hS128 : zIm S 128 sn128) (hS129 : zIm S 129 sn129) (hS148 : zIm S 148 sn148) : ∀ x g o v gz, zSem uW uT w150_.2.2.2.1 w150_.2.2.1.1.length S q150 (fun i => q150a.getD i []) (zNA a150_) x g o v gz → sn150 x g o v gz := by
  intro a g o v gz h
  exact zSem_all (l0 := q150) (las := q150a) (S := S) (J := (fun _ _ _ => True)) (P := sn150 a g) (fun _ => (show zAll _ [q150_0, q150_1, q150_2, q150_3] from (zAll_c (vn150_0 hS109 hS128 hS129 hS148) (zAll_c (vn150_1 hS109 hS128 hS129 hS148) (zAll_c (vn150_2 hS109 hS128 hS129 hS148) (zAll_c (vn150_3 hS109 hS128 hS129 hS148) zAll_n)))))) (fun _ => (show zAllI _ 0 [] from trivial)) h
theorem vn151_0 {S : Nat → zSpc} (hS109 : zIm S 109 sn109) (hS114 : zIm S 114 sn114) {a : List Int} {g : rHp} : ∀ (ρ : Nat → Int) (γ : Nat → rHp), zO 6 S a g q151_0 ρ γ → zGl (fun _ _ _ => True) (sn151 a g) q151_0 ρ γ := by
  intro ρ γ h
  obtain ⟨ha, hg, hr, hf, hm, hc, hl⟩ := h
  have ha : a = [ρ 0, ρ 1, ρ 2, ρ 3, ρ 4, ρ 5] := ha
  subst ha
  subst hg
  have m1 : γ 0 2 0 3 = ρ 2 := zAllA hm 1
  have m2 : γ 0 1 0 10 = ρ 3 := zAllA hm 2
  have m4 : γ 0 10 (ρ 0) 7 = ρ 5 := zAllA hm 4
  have m5 : γ 1 2 0 6 = ρ 6 := zAllA hm 5
  have l0 : sn114 [ρ 1, ρ 2] (γ 0) 0 (-1) (γ 1) := hS114 _ _ _ _ _ (zAllA hl 0)
  have l1 : sn109 [ρ 6, ρ 4] (γ 1) 0 0 (γ 2) := hS109 _ _ _ _ _ (zAllA hl 1)
  show sn151 [ρ 0, ρ 1, ρ 2, ρ 3, ρ 4, ρ 5] (γ 0) 0 0 (γ 2)
  refine Eq.symm ?_
  show fn151 [ρ 0] (γ 0) = _
  unfold fn151
  refine zLV (ρ 0) rfl (zLE m1 (zLE m2 (zLE m4 (zLE (show fn114 [] (γ 0) = (0, (-1), γ 1) from l0.symm) (zLV (γ 1) rfl (zIN zQ2_ (zLE m5 ?_)))))))
  refine zLE (show fn109 [ρ 6] (γ 1) = (0, 0, γ 2) from l1.symm) (zLV (γ 2) rfl ?_)
  rfl
theorem vn151_1 {S : Nat → zSpc} (hS109 : zIm S 109 sn109) (hS114 : zIm S 114 sn114) {a : List Int} {g : rHp} : ∀ (ρ : Nat → Int) (γ : Nat → rHp), zO 6 S a g q151_1 ρ γ → zGl (fun _ _ _ => True) (sn151 a g) q151_1 ρ γ := by
  intro ρ γ h
  obtain ⟨ha, hg, hr, hf, hm, hc, hl⟩ := h
  have ha : a = [ρ 0, ρ 1, ρ 2, ρ 3, ρ 4, ρ 5] := ha
  subst ha
  subst hg
  have r6 : (58 : Int) ≤ ρ 6 ∧ ρ 6 ≤ 58 := zRnA hr 6
  have f0 : (0 : Int) ≤ ρ 7 + -ρ 2 + 1 := zAllA hf 0
  obtain ⟨w_0, w_1, w_2⟩ : ((0 : Int) ≤ ρ 6) ∧ (ρ 6 = 58) ∧ (ρ 7 + 1 ≥ ρ 2) := ⟨by omega, by omega, by omega⟩
  have m1 : γ 0 2 0 3 = ρ 2 := zAllA hm 1
  have m2 : γ 0 1 0 10 = ρ 3 := zAllA hm 2
  have m4 : γ 0 10 (ρ 0) 7 = ρ 5 := zAllA hm 4
  have m5 : γ 1 2 0 6 = ρ 7 := zAllA hm 5
  have c2 : γ 2 = rUp (γ 1) 2 0 6 (ρ 7 + 1) := And.right (zChA hc 1)
  have l0 : sn114 [ρ 1, ρ 2] (γ 0) 0 (ρ 6) (γ 1) := hS114 _ _ _ _ _ (zAllA hl 0)
  have l1 : sn109 [ρ 7 + 1, ρ 4] (γ 2) 0 0 (γ 3) := hS109 _ _ _ _ _ (zAllA hl 1)
  show sn151 [ρ 0, ρ 1, ρ 2, ρ 3, ρ 4, ρ 5] (γ 0) 0 0 (γ 3)
  refine Eq.symm ?_
  show fn151 [ρ 0] (γ 0) = _
  unfold fn151
  refine zLV (ρ 0) rfl (zLE m1 (zLE m2 (zLE m4 (zLE (show fn114 [] (γ 0) = (0, ρ 6, γ 1) from l0.symm) (zLV (γ 1) rfl (zIP w_0 (zLV (ρ 6) rfl ?_)))))))
  refine zLE m5 (zIP w_1 (zLE c2.symm (zIP w_2 (zLE (show fn109 [ρ 7 + 1] (γ 2) = (0, 0, γ 3) from l1.symm) (zLV (γ 3) rfl ?_)))))
  rfl
theorem vn151_2 {S : Nat → zSpc} (hS109 : zIm S 109 sn109) (hS114 : zIm S 114 sn114) {a : List Int} {g : rHp} : ∀ (ρ : Nat → Int) (γ : Nat → rHp), zO 6 S a g q151_2 ρ γ → zGl (fun _ _ _ => True) (sn151 a g) q151_2 ρ γ := by
  intro ρ γ h
  obtain ⟨ha, hg, hr, hf, hm, hc, hl⟩ := h
  have ha : a = [ρ 0, ρ 1, ρ 2, ρ 3, ρ 4, ρ 5] := ha
  subst ha
  subst hg
  have r3 : (0 : Int) ≤ ρ 3 ∧ ρ 3 ≤ 59 := zRnA hr 3
  have r6 : (58 : Int) ≤ ρ 6 ∧ ρ 6 ≤ 58 := zRnA hr 6
  have r8 : (45 : Int) ≤ ρ 8 ∧ ρ 8 ≤ 45 := zRnA hr 8
  have f0 : (0 : Int) ≤ -ρ 7 + ρ 2 + (-2) := zAllA hf 0
  obtain ⟨w_0, w_1, w_2, w_3, w_4⟩ : ((0 : Int) ≤ ρ 6) ∧ (ρ 6 = 58) ∧ (¬ (ρ 7 + 1 ≥ ρ 2)) ∧ (ρ 8 = 45) ∧ (ρ 3 < 60) := ⟨by omega, by omega, by omega, by omega, by omega⟩
  have m1 : γ 0 2 0 3 = ρ 2 := zAllA hm 1
  have m2 : γ 0 1 0 10 = ρ 3 := zAllA hm 2
  have m4 : γ 0 10 (ρ 0) 7 = ρ 5 := zAllA hm 4
  have m5 : γ 1 2 0 6 = ρ 7 := zAllA hm 5
  have m6 : γ 0 21 0 (ρ 7 + 1) = ρ 8 := zAllA hm 6
  have c2 : γ 2 = rUp (γ 1) 2 0 6 (ρ 7 + 1) := And.right (zChA hc 1)
  have c3 : γ 3 = rUp (γ 2) 2 0 6 (ρ 7 + 2) := And.right (zChA hc 0)
  have l0 : sn114 [ρ 1, ρ 2] (γ 0) 0 (ρ 6) (γ 1) := hS114 _ _ _ _ _ (zAllA hl 0)
  show sn151 [ρ 0, ρ 1, ρ 2, ρ 3, ρ 4, ρ 5] (γ 0) 0 1 (γ 3)
  refine Eq.symm ?_
  show fn151 [ρ 0] (γ 0) = _
  unfold fn151
  refine zLV (ρ 0) rfl (zLE m1 (zLE m2 (zLE m4 (zLE (show fn114 [] (γ 0) = (0, ρ 6, γ 1) from l0.symm) (zLV (γ 1) rfl (zIP w_0 (zLV (ρ 6) rfl ?_)))))))
  refine zLE m5 (zIP w_1 (zLE c2.symm (zIN w_2 (zLE m6 (zIP w_3 (zLE c3.symm (zIP w_4 ?_)))))))
  rfl
theorem vn151_3 {S : Nat → zSpc} (hS109 : zIm S 109 sn109) (hS114 : zIm S 114 sn114) {a : List Int} {g : rHp} : ∀ (ρ : Nat → Int) (γ : Nat → rHp), zO 6 S a g q151_3 ρ γ → zGl (fun _ _ _ => True) (sn151 a g) q151_3 ρ γ := by
  intro ρ γ h
  obtain ⟨ha, hg, hr, hf, hm, hc, hl⟩ := h
  have ha : a = [ρ 0, ρ 1, ρ 2, ρ 3, ρ 4, ρ 5] := ha
  subst ha
  subst hg
  have r3 : (60 : Int) ≤ ρ 3 ∧ ρ 3 ≤ 60 := zRnA hr 3
  have r6 : (58 : Int) ≤ ρ 6 ∧ ρ 6 ≤ 58 := zRnA hr 6
  have r8 : (45 : Int) ≤ ρ 8 ∧ ρ 8 ≤ 45 := zRnA hr 8
  have f0 : (0 : Int) ≤ -ρ 7 + ρ 2 + (-2) := zAllA hf 0
  obtain ⟨w_0, w_1, w_2, w_3, w_4⟩ : ((0 : Int) ≤ ρ 6) ∧ (ρ 6 = 58) ∧ (¬ (ρ 7 + 1 ≥ ρ 2)) ∧ (ρ 8 = 45) ∧ (¬ (ρ 3 < 60)) := ⟨by omega, by omega, by omega, by omega, by omega⟩
  have m1 : γ 0 2 0 3 = ρ 2 := zAllA hm 1
  have m2 : γ 0 1 0 10 = ρ 3 := zAllA hm 2
  have m4 : γ 0 10 (ρ 0) 7 = ρ 5 := zAllA hm 4
  have m5 : γ 1 2 0 6 = ρ 7 := zAllA hm 5
  have m6 : γ 0 21 0 (ρ 7 + 1) = ρ 8 := zAllA hm 6
  have c2 : γ 2 = rUp (γ 1) 2 0 6 (ρ 7 + 1) := And.right (zChA hc 2)
  have c3 : γ 3 = rUp (γ 2) 2 0 6 (ρ 7 + 2) := And.right (zChA hc 1)
  have l0 : sn114 [ρ 1, ρ 2] (γ 0) 0 (ρ 6) (γ 1) := hS114 _ _ _ _ _ (zAllA hl 0)
  have l1 : sn109 [ρ 5, ρ 4] (γ 3) 0 0 (γ 4) := hS109 _ _ _ _ _ (zAllA hl 1)
  show sn151 [ρ 0, ρ 1, ρ 2, ρ 3, ρ 4, ρ 5] (γ 0) 0 0 (γ 4)
  refine Eq.symm ?_
  show fn151 [ρ 0] (γ 0) = _
  unfold fn151
  refine zLV (ρ 0) rfl (zLE m1 (zLE m2 (zLE m4 (zLE (show fn114 [] (γ 0) = (0, ρ 6, γ 1) from l0.symm) (zLV (γ 1) rfl (zIP w_0 (zLV (ρ 6) rfl ?_)))))))
  refine zLE m5 (zIP w_1 (zLE c2.symm (zIN w_2 (zLE m6 (zIP w_3 (zLE c3.symm (zIN w_4 ?_)))))))
  refine zLE (show fn109 [ρ 5] (γ 3) = (0, 0, γ 4) from l1.symm) (zLV (γ 4) rfl ?_)
  rfl
theorem vn151_4 {S : Nat → zSpc} (hS109 : zIm S 109 sn109) (hS114 : zIm S 114 sn114) {a : List Int} {g : rHp} : ∀ (ρ : Nat → Int) (γ : Nat → rHp), zO 6 S a g q151_4 ρ γ → zGl (fun _ _ _ => True) (sn151 a g) q151_4 ρ γ := by
  intro ρ γ h
  obtain ⟨ha, hg, hr, hf, hm, hc, hl⟩ := h
  have ha : a = [ρ 0, ρ 1, ρ 2, ρ 3, ρ 4, ρ 5] := ha
  subst ha
  subst hg
  have r6 : (58 : Int) ≤ ρ 6 ∧ ρ 6 ≤ 58 := zRnA hr 6
  have r8 : ((-128) : Int) ≤ ρ 8 ∧ ρ 8 ≤ 127 := zRnA hr 8
  have f0 : (0 : Int) ≤ -ρ 7 + ρ 2 + (-2) := zAllA hf 0
  obtain ⟨w_0, w_1, w_2⟩ : ((0 : Int) ≤ ρ 6) ∧ (ρ 6 = 58) ∧ (¬ (ρ 7 + 1 ≥ ρ 2)) := ⟨by omega, by omega, by omega⟩
  have m1 : γ 0 2 0 3 = ρ 2 := zAllA hm 1
  have m2 : γ 0 1 0 10 = ρ 3 := zAllA hm 2
  have m4 : γ 0 10 (ρ 0) 7 = ρ 5 := zAllA hm 4
  have m5 : γ 1 2 0 6 = ρ 7 := zAllA hm 5
  have m6 : γ 0 21 0 (ρ 7 + 1) = ρ 8 := zAllA hm 6
  have c2 : γ 2 = rUp (γ 1) 2 0 6 (ρ 7 + 1) := And.right (zChA hc 1)
  have l0 : sn114 [ρ 1, ρ 2] (γ 0) 0 (ρ 6) (γ 1) := hS114 _ _ _ _ _ (zAllA hl 0)
  have l1 : ρ 8 ≠ 45 := zAllA hl 1
  have l2 : sn109 [ρ 7 + 1, ρ 4] (γ 2) 0 0 (γ 3) := hS109 _ _ _ _ _ (zAllA hl 2)
  have wl_0 : ¬ (ρ 8 = 45) := by omega
  show sn151 [ρ 0, ρ 1, ρ 2, ρ 3, ρ 4, ρ 5] (γ 0) 0 0 (γ 3)
  refine Eq.symm ?_
  show fn151 [ρ 0] (γ 0) = _
  unfold fn151
  refine zLV (ρ 0) rfl (zLE m1 (zLE m2 (zLE m4 (zLE (show fn114 [] (γ 0) = (0, ρ 6, γ 1) from l0.symm) (zLV (γ 1) rfl (zIP w_0 (zLV (ρ 6) rfl ?_)))))))
  refine zLE m5 (zIP w_1 (zLE c2.symm (zIN w_2 (zLE m6 (zIN wl_0 (zLE (show fn109 [ρ 7 + 1] (γ 2) = (0, 0, γ 3) from l2.symm) (zLV (γ 3) rfl ?_)))))))
  rfl
theorem vn151_5 {S : Nat → zSpc} (hS109 : zIm S 109 sn109) (hS114 : zIm S 114 sn114) {a : List Int} {g : rHp} : ∀ (ρ : Nat → Int) (γ : Nat → rHp), zO 6 S a g q151_5 ρ γ → zGl (fun _ _ _ => True) (sn151 a g) q151_5 ρ γ := by
  intro ρ γ h
  obtain ⟨ha, hg, hr, hf, hm, hc, hl⟩ := h
  have ha : a = [ρ 0, ρ 1, ρ 2, ρ 3, ρ 4, ρ 5] := ha
  subst ha
  subst hg
  have r6 : (0 : Int) ≤ ρ 6 ∧ ρ 6 ≤ 255 := zRnA hr 6
  have w_0 : (0 : Int) ≤ ρ 6 := by omega
  have m1 : γ 0 2 0 3 = ρ 2 := zAllA hm 1
  have m2 : γ 0 1 0 10 = ρ 3 := zAllA hm 2
  have m4 : γ 0 10 (ρ 0) 7 = ρ 5 := zAllA hm 4
  have m5 : γ 1 2 0 6 = ρ 7 := zAllA hm 5
  have l0 : sn114 [ρ 1, ρ 2] (γ 0) 0 (ρ 6) (γ 1) := hS114 _ _ _ _ _ (zAllA hl 0)
  have l1 : ρ 6 ≠ 58 := zAllA hl 1
  have l2 : sn109 [ρ 7, ρ 4] (γ 1) 0 0 (γ 2) := hS109 _ _ _ _ _ (zAllA hl 2)
  have wl_0 : ¬ (ρ 6 = 58) := by omega
  show sn151 [ρ 0, ρ 1, ρ 2, ρ 3, ρ 4, ρ 5] (γ 0) 0 0 (γ 2)
  refine Eq.symm ?_
  show fn151 [ρ 0] (γ 0) = _
  unfold fn151
  refine zLV (ρ 0) rfl (zLE m1 (zLE m2 (zLE m4 (zLE (show fn114 [] (γ 0) = (0, ρ 6, γ 1) from l0.symm) (zLV (γ 1) rfl (zIP w_0 (zLV (ρ 6) rfl ?_)))))))
  refine zLE m5 (zIN wl_0 (zLE (show fn109 [ρ 7] (γ 1) = (0, 0, γ 2) from l2.symm) (zLV (γ 2) rfl ?_)))
  rfl
theorem yn151 {S : Nat → zSpc} (hS109 : zIm S 109 sn109) (hS114 : zIm S 114 sn114) : ∀ x g o v gz, zSem uW uT w151_.2.2.2.1 w151_.2.2.1.1.length S q151 (fun i => q151a.getD i []) (zNA a151_) x g o v gz → sn151 x g o v gz := by
  intro a g o v gz h
  exact zSem_all (l0 := q151) (las := q151a) (S := S) (J := (fun _ _ _ => True)) (P := sn151 a g) (fun _ => (show zAll _ [q151_0, q151_1, q151_2, q151_3, q151_4, q151_5] from (zAll_c (vn151_0 hS109 hS114) (zAll_c (vn151_1 hS109 hS114) (zAll_c (vn151_2 hS109 hS114) (zAll_c (vn151_3 hS109 hS114) (zAll_c (vn151_4 hS109 hS114) (zAll_c (vn151_5 hS109 hS114) zAll_n)))))))) (fun _ => (show zAllI _ 0 [] from trivial)) h
theorem vn152_0 {S : Nat → zSpc} (hS109 : zIm S 109 sn109) {a : List Int} {g : rHp} : ∀ (ρ : Nat → Int) (γ : Nat → rHp), zO 2 S a g q152_0 ρ γ → zGl (fun i vs g1 => jn152 a g i vs g1) (sn152 a g) q152_0 ρ γ := by
  intro ρ γ h
  obtain ⟨ha, hg, hr, hf, hm, hc, hl⟩ := h
  have ha : a = [ρ 0, ρ 1] := ha
  subst ha
  subst hg
  show jn152 [ρ 0, ρ 1] (γ 0) 0 [ρ 0, ρ 1, 0] (γ 0)
  have hD : dn152 [] (γ 0) = .inl (0, [0], γ 0) := by
    unfold dn152
    rfl
  exact zGoo_to hD
theorem vn152a0_0 {S : Nat → zSpc} (hS109 : zIm S 109 sn109) {a : List Int} {g : rHp} : ∀ (ρ : Nat → Int) (γ : Nat → rHp), jn152 a g 0 (zAg (zNA a152_ 0) ρ) (γ 1) → zO 2 S a g q152a0_0 ρ γ → zGl (fun i vs g1 => jn152 a g i vs g1) (sn152 a g) q152a0_0 ρ γ := by
  intro ρ γ hJ h
  obtain ⟨ha, hg, hr, hf, hm, hc, hl⟩ := h
  have ha : a = [ρ 0, ρ 1] := ha
  subst ha
  subst hg
  have hJ : jn152 [ρ 0, ρ 1] (γ 0) 0 [ρ 0, ρ 1, ρ 2] (γ 1) := hJ
  have f0 : (0 : Int) ≤ ρ 2 + -ρ 1 := zAllA hf 0
  have w_0 : ρ 2 ≥ ρ 1 := by omega
  have m1 : γ 0 2 0 16 = ρ 1 := zAllA hm 1
  show sn152 [ρ 0, ρ 1] (γ 0) 0 1 (γ 1)
  have hD : en152 (γ 0) (0, [ρ 2], γ 1) = .inr (0, 1, γ 1) := by
    unfold en152
    refine zIP (show (0 : Nat) = 0 by decide) (zLV (γ 1) rfl (zLV (ρ 2) rfl (zLE m1 (zIP w_0 ?_))))
    rfl
  exact zGoo_aend hJ hD
theorem vn152a0_1 {S : Nat → zSpc} (hS109 : zIm S 109 sn109) {a : List Int} {g : rHp} : ∀ (ρ : Nat → Int) (γ : Nat → rHp), jn152 a g 0 (zAg (zNA a152_ 0) ρ) (γ 1) → zO 2 S a g q152a0_1 ρ γ → zGl (fun i vs g1 => jn152 a g i vs g1) (sn152 a g) q152a0_1 ρ γ := by
  intro ρ γ hJ h
  obtain ⟨ha, hg, hr, hf, hm, hc, hl⟩ := h
  have ha : a = [ρ 0, ρ 1] := ha
  subst ha
  subst hg
  have hJ : jn152 [ρ 0, ρ 1] (γ 0) 0 [ρ 0, ρ 1, ρ 2] (γ 1) := hJ
  have r4 : ((-2147483648) : Int) ≤ ρ 4 ∧ ρ 4 ≤ 1 := zRnA hr 4
  have f0 : (0 : Int) ≤ -ρ 2 + ρ 1 + (-1) := zAllA hf 0
  obtain ⟨w_0, w_1⟩ : (¬ (ρ 2 ≥ ρ 1)) ∧ (ρ 4 ≤ 1) := ⟨by omega, by omega⟩
  have m1 : γ 0 2 0 16 = ρ 1 := zAllA hm 1
  have m2 : γ 0 25 0 (ρ 2) = ρ 3 := zAllA hm 2
  have m3 : γ 0 23 0 (ρ 3) = ρ 4 := zAllA hm 3
  show jn152 [ρ 0, ρ 1] (γ 0) 0 [ρ 0, ρ 1, ρ 2 + 1] (γ 1)
  have hD : en152 (γ 0) (0, [ρ 2], γ 1) = .inl (0, [ρ 2 + 1], γ 1) := by
    unfold en152
    refine zIP (show (0 : Nat) = 0 by decide) (zLV (γ 1) rfl (zLV (ρ 2) rfl (zLE m1 (zIN w_0 (zLE m2 (zLE m3 (zIP w_1 ?_)))))))
    rfl
  exact zGoo_ato hJ hD
theorem vn152a0_2 {S : Nat → zSpc} (hS109 : zIm S 109 sn109) {a : List Int} {g : rHp} : ∀ (ρ : Nat → Int) (γ : Nat → rHp), jn152 a g 0 (zAg (zNA a152_ 0) ρ) (γ 1) → zO 2 S a g q152a0_2 ρ γ → zGl (fun i vs g1 => jn152 a g i vs g1) (sn152 a g) q152a0_2 ρ γ := by
  intro ρ γ hJ h
  obtain ⟨ha, hg, hr, hf, hm, hc, hl⟩ := h
  have ha : a = [ρ 0, ρ 1] := ha
  subst ha
  subst hg
  have hJ : jn152 [ρ 0, ρ 1] (γ 0) 0 [ρ 0, ρ 1, ρ 2] (γ 1) := hJ
  have r4 : (2 : Int) ≤ ρ 4 ∧ ρ 4 ≤ 2147483647 := zRnA hr 4
  have f0 : (0 : Int) ≤ -ρ 2 + ρ 1 + (-1) := zAllA hf 0
  obtain ⟨w_0, w_1⟩ : (¬ (ρ 2 ≥ ρ 1)) ∧ (¬ (ρ 4 ≤ 1)) := ⟨by omega, by omega⟩
  have m1 : γ 0 2 0 16 = ρ 1 := zAllA hm 1
  have m2 : γ 0 25 0 (ρ 2) = ρ 3 := zAllA hm 2
  have m3 : γ 0 23 0 (ρ 3) = ρ 4 := zAllA hm 3
  have m4 : γ 0 24 0 (ρ 2) = ρ 5 := zAllA hm 4
  have l0 : sn109 [ρ 5, ρ 0] (γ 1) 0 0 (γ 2) := hS109 _ _ _ _ _ (zAllA hl 0)
  show sn152 [ρ 0, ρ 1] (γ 0) 0 0 (γ 2)
  have hD : en152 (γ 0) (0, [ρ 2], γ 1) = .inr (0, 0, γ 2) := by
    unfold en152
    refine zIP (show (0 : Nat) = 0 by decide) (zLV (γ 1) rfl (zLV (ρ 2) rfl (zLE m1 (zIN w_0 (zLE m2 (zLE m3 (zIN w_1 ?_)))))))
    refine zLE m4 (zLE (show fn109 [ρ 5] (γ 1) = (0, 0, γ 2) from l0.symm) (zLV (γ 2) rfl ?_))
    rfl
  exact zGoo_aend hJ hD
theorem yn152 {S : Nat → zSpc} (hS109 : zIm S 109 sn109) : ∀ x g o v gz, zSem uW uT w152_.2.2.2.1 w152_.2.2.1.1.length S q152 (fun i => q152a.getD i []) (zNA a152_) x g o v gz → sn152 x g o v gz := by
  intro a g o v gz h
  exact zSem_all (l0 := q152) (las := q152a) (S := S) (J := (fun i vs g1 => jn152 a g i vs g1)) (P := sn152 a g) (fun _ => (show zAll _ [q152_0] from (zAll_c (vn152_0 hS109) zAll_n))) (fun _ => (show zAllI _ 0 [q152a0] from ⟨(show zAll _ [q152a0_0, q152a0_1, q152a0_2] from (zAll_c (vn152a0_0 hS109) (zAll_c (vn152a0_1 hS109) (zAll_c (vn152a0_2 hS109) zAll_n)))), trivial⟩)) h
theorem vn153_0 {S : Nat → zSpc} (hS109 : zIm S 109 sn109) (hS117 : zIm S 117 sn117) (hS118 : zIm S 118 sn118) {a : List Int} {g : rHp} : ∀ (ρ : Nat → Int) (γ : Nat → rHp), zO 7 S a g q153_0 ρ γ → zGl (fun i vs g1 => jn153 a g i vs g1) (sn153 a g) q153_0 ρ γ := by
  intro ρ γ h
  obtain ⟨ha, hg, hr, hf, hm, hc, hl⟩ := h
  have ha : a = [ρ 0, ρ 1, ρ 2, ρ 3, ρ 4, ρ 5, ρ 6] := ha
  subst ha
  subst hg
  show jn153 [ρ 0, ρ 1, ρ 2, ρ 3, ρ 4, ρ 5, ρ 6] (γ 0) 0 [ρ 0, ρ 1, ρ 2, ρ 3, ρ 4, ρ 5, ρ 6, 0] (γ 0)
  have hD : dn153 [ρ 0] (γ 0) = .inl (0, [ρ 0, 0], γ 0) := by
    unfold dn153
    refine zLV (ρ 0) rfl ?_
    rfl
  exact zGoo_to hD
theorem vn153a0_0 {S : Nat → zSpc} (hS109 : zIm S 109 sn109) (hS117 : zIm S 117 sn117) (hS118 : zIm S 118 sn118) {a : List Int} {g : rHp} : ∀ (ρ : Nat → Int) (γ : Nat → rHp), jn153 a g 0 (zAg (zNA a153_ 0) ρ) (γ 1) → zO 7 S a g q153a0_0 ρ γ → zGl (fun i vs g1 => jn153 a g i vs g1) (sn153 a g) q153a0_0 ρ γ := by
  intro ρ γ hJ h
  obtain ⟨ha, hg, hr, hf, hm, hc, hl⟩ := h
  have ha : a = [ρ 0, ρ 1, ρ 2, ρ 3, ρ 4, ρ 5, ρ 6] := ha
  subst ha
  subst hg
  have hJ : jn153 [ρ 0, ρ 1, ρ 2, ρ 3, ρ 4, ρ 5, ρ 6] (γ 0) 0 [ρ 0, ρ 1, ρ 2, ρ 3, ρ 4, ρ 5, ρ 6, ρ 7] (γ 1) := hJ
  have f0 : (0 : Int) ≤ ρ 7 + -ρ 3 := zAllA hf 0
  have w_0 : ρ 7 ≥ ρ 3 := by omega
  have m2 : γ 0 10 (ρ 0) 5 = ρ 3 := zAllA hm 2
  have m3 : γ 0 10 (ρ 0) 12 = ρ 4 := zAllA hm 3
  have m4 : γ 0 10 (ρ 0) 14 = ρ 5 := zAllA hm 4
  have m5 : γ 0 10 (ρ 0) 15 = ρ 6 := zAllA hm 5
  show sn153 [ρ 0, ρ 1, ρ 2, ρ 3, ρ 4, ρ 5, ρ 6] (γ 0) 0 1 (γ 1)
  have hD : en153 (γ 0) (0, [ρ 0, ρ 7], γ 1) = .inr (0, 1, γ 1) := by
    unfold en153
    refine zIP (show (0 : Nat) = 0 by decide) (zLV (γ 1) rfl (zLV (ρ 0) rfl (zLV (ρ 7) rfl (zLE m2 (zLE m3 (zLE m4 (zLE m5 ?_)))))))
    refine zIP w_0 ?_
    rfl
  exact zGoo_aend hJ hD
theorem vn153a0_1 {S : Nat → zSpc} (hS109 : zIm S 109 sn109) (hS117 : zIm S 117 sn117) (hS118 : zIm S 118 sn118) {a : List Int} {g : rHp} : ∀ (ρ : Nat → Int) (γ : Nat → rHp), jn153 a g 0 (zAg (zNA a153_ 0) ρ) (γ 1) → zO 7 S a g q153a0_1 ρ γ → zGl (fun i vs g1 => jn153 a g i vs g1) (sn153 a g) q153a0_1 ρ γ := by
  intro ρ γ hJ h
  obtain ⟨ha, hg, hr, hf, hm, hc, hl⟩ := h
  have ha : a = [ρ 0, ρ 1, ρ 2, ρ 3, ρ 4, ρ 5, ρ 6] := ha
  subst ha
  subst hg
  have hJ : jn153 [ρ 0, ρ 1, ρ 2, ρ 3, ρ 4, ρ 5, ρ 6] (γ 0) 0 [ρ 0, ρ 1, ρ 2, ρ 3, ρ 4, ρ 5, ρ 6, ρ 7] (γ 1) := hJ
  have r8 : (0 : Int) ≤ ρ 8 ∧ ρ 8 ≤ 3 := zRnA hr 8
  have f0 : (0 : Int) ≤ -ρ 7 + ρ 3 + (-1) := zAllA hf 0
  obtain ⟨w_0, w_1⟩ : (¬ (ρ 7 ≥ ρ 3)) ∧ (ρ 8 ≠ 4) := ⟨by omega, by omega⟩
  have m2 : γ 0 10 (ρ 0) 5 = ρ 3 := zAllA hm 2
  have m3 : γ 0 10 (ρ 0) 12 = ρ 4 := zAllA hm 3
  have m4 : γ 0 10 (ρ 0) 14 = ρ 5 := zAllA hm 4
  have m5 : γ 0 10 (ρ 0) 15 = ρ 6 := zAllA hm 5
  have m6 : γ 0 43 (ρ 0) (ρ 7) = ρ 8 := zAllA hm 6
  have l0 : ρ 8 ≠ 1 := zAllA hl 0
  have wl_0 : ρ 8 ≠ 1 := by omega
  show jn153 [ρ 0, ρ 1, ρ 2, ρ 3, ρ 4, ρ 5, ρ 6] (γ 0) 0 [ρ 0, ρ 1, ρ 2, ρ 3, ρ 4, ρ 5, ρ 6, ρ 7 + 1] (γ 1)
  have hD : en153 (γ 0) (0, [ρ 0, ρ 7], γ 1) = .inl (0, [ρ 0, ρ 7 + 1], γ 1) := by
    unfold en153
    refine zIP (show (0 : Nat) = 0 by decide) (zLV (γ 1) rfl (zLV (ρ 0) rfl (zLV (ρ 7) rfl (zLE m2 (zLE m3 (zLE m4 (zLE m5 ?_)))))))
    refine zIN w_0 (zLE m6 (zIP wl_0 (zIP w_1 ?_)))
    rfl
  exact zGoo_ato hJ hD
theorem vn153a0_2 {S : Nat → zSpc} (hS109 : zIm S 109 sn109) (hS117 : zIm S 117 sn117) (hS118 : zIm S 118 sn118) {a : List Int} {g : rHp} : ∀ (ρ : Nat → Int) (γ : Nat → rHp), jn153 a g 0 (zAg (zNA a153_ 0) ρ) (γ 1) → zO 7 S a g q153a0_2 ρ γ → zGl (fun i vs g1 => jn153 a g i vs g1) (sn153 a g) q153a0_2 ρ γ := by
  intro ρ γ hJ h
  obtain ⟨ha, hg, hr, hf, hm, hc, hl⟩ := h
  have ha : a = [ρ 0, ρ 1, ρ 2, ρ 3, ρ 4, ρ 5, ρ 6] := ha
  subst ha
  subst hg
  have hJ : jn153 [ρ 0, ρ 1, ρ 2, ρ 3, ρ 4, ρ 5, ρ 6] (γ 0) 0 [ρ 0, ρ 1, ρ 2, ρ 3, ρ 4, ρ 5, ρ 6, ρ 7] (γ 1) := hJ
  have r4 : (1 : Int) ≤ ρ 4 ∧ ρ 4 ≤ 1 := zRnA hr 4
  have r8 : (4 : Int) ≤ ρ 8 ∧ ρ 8 ≤ 4 := zRnA hr 8
  have f0 : (0 : Int) ≤ -ρ 7 + ρ 3 + (-1) := zAllA hf 0
  obtain ⟨w_0, w_1, w_2, w_3⟩ : (¬ (ρ 7 ≥ ρ 3)) ∧ (ρ 8 ≠ 1) ∧ (¬ (ρ 8 ≠ 4)) ∧ (ρ 4 = 1) := ⟨by omega, by omega, by omega, by omega⟩
  have m2 : γ 0 10 (ρ 0) 5 = ρ 3 := zAllA hm 2
  have m3 : γ 0 10 (ρ 0) 12 = ρ 4 := zAllA hm 3
  have m4 : γ 0 10 (ρ 0) 14 = ρ 5 := zAllA hm 4
  have m5 : γ 0 10 (ρ 0) 15 = ρ 6 := zAllA hm 5
  have m6 : γ 0 43 (ρ 0) (ρ 7) = ρ 8 := zAllA hm 6
  have l0 : ρ 8 ≠ 1 := zAllA hl 0
  show jn153 [ρ 0, ρ 1, ρ 2, ρ 3, ρ 4, ρ 5, ρ 6] (γ 0) 0 [ρ 0, ρ 1, ρ 2, ρ 3, ρ 4, ρ 5, ρ 6, ρ 7 + 1] (γ 1)
  have hD : en153 (γ 0) (0, [ρ 0, ρ 7], γ 1) = .inl (0, [ρ 0, ρ 7 + 1], γ 1) := by
    unfold en153
    refine zIP (show (0 : Nat) = 0 by decide) (zLV (γ 1) rfl (zLV (ρ 0) rfl (zLV (ρ 7) rfl (zLE m2 (zLE m3 (zLE m4 (zLE m5 ?_)))))))
    refine zIN w_0 (zLE m6 (zIP w_1 (zIN w_2 (zIP w_3 ?_))))
    rfl
  exact zGoo_ato hJ hD
theorem vn153a0_3 {S : Nat → zSpc} (hS109 : zIm S 109 sn109) (hS117 : zIm S 117 sn117) (hS118 : zIm S 118 sn118) {a : List Int} {g : rHp} : ∀ (ρ : Nat → Int) (γ : Nat → rHp), jn153 a g 0 (zAg (zNA a153_ 0) ρ) (γ 1) → zO 7 S a g q153a0_3 ρ γ → zGl (fun i vs g1 => jn153 a g i vs g1) (sn153 a g) q153a0_3 ρ γ := by
  intro ρ γ hJ h
  obtain ⟨ha, hg, hr, hf, hm, hc, hl⟩ := h
  have ha : a = [ρ 0, ρ 1, ρ 2, ρ 3, ρ 4, ρ 5, ρ 6] := ha
  subst ha
  subst hg
  have hJ : jn153 [ρ 0, ρ 1, ρ 2, ρ 3, ρ 4, ρ 5, ρ 6] (γ 0) 0 [ρ 0, ρ 1, ρ 2, ρ 3, ρ 4, ρ 5, ρ 6, ρ 7] (γ 1) := hJ
  have r4 : (0 : Int) ≤ ρ 4 ∧ ρ 4 ≤ 4 := zRnA hr 4
  have r8 : (4 : Int) ≤ ρ 8 ∧ ρ 8 ≤ 4 := zRnA hr 8
  have f0 : (0 : Int) ≤ -ρ 7 + ρ 3 + (-1) := zAllA hf 0
  obtain ⟨w_0, w_1, w_2⟩ : (¬ (ρ 7 ≥ ρ 3)) ∧ (ρ 8 ≠ 1) ∧ (¬ (ρ 8 ≠ 4)) := ⟨by omega, by omega, by omega⟩
  have m2 : γ 0 10 (ρ 0) 5 = ρ 3 := zAllA hm 2
  have m3 : γ 0 10 (ρ 0) 12 = ρ 4 := zAllA hm 3
  have m4 : γ 0 10 (ρ 0) 14 = ρ 5 := zAllA hm 4
  have m5 : γ 0 10 (ρ 0) 15 = ρ 6 := zAllA hm 5
  have m6 : γ 0 43 (ρ 0) (ρ 7) = ρ 8 := zAllA hm 6
  have l0 : ρ 8 ≠ 1 := zAllA hl 0
  have l1 : ρ 4 ≠ 1 := zAllA hl 1
  have l2 : sn118 [ρ 5, ρ 2] (γ 1) 0 0 (γ 2) := hS118 _ _ _ _ _ (zAllA hl 2)
  have l3 : sn109 [ρ 6, ρ 1] (γ 2) 0 0 (γ 3) := hS109 _ _ _ _ _ (zAllA hl 3)
  have wl_0 : ¬ (ρ 4 = 1) := by omega
  show sn153 [ρ 0, ρ 1, ρ 2, ρ 3, ρ 4, ρ 5, ρ 6] (γ 0) 0 0 (γ 3)
  have hD : en153 (γ 0) (0, [ρ 0, ρ 7], γ 1) = .inr (0, 0, γ 3) := by
    unfold en153
    refine zIP (show (0 : Nat) = 0 by decide) (zLV (γ 1) rfl (zLV (ρ 0) rfl (zLV (ρ 7) rfl (zLE m2 (zLE m3 (zLE m4 (zLE m5 ?_)))))))
    refine zIN w_0 (zLE m6 (zIP w_1 (zIN w_2 (zIN wl_0 (zLE (show fn118 [ρ 5] (γ 1) = (0, 0, γ 2) from l2.symm) (zLV (γ 2) rfl (zIN zQ0_ ?_)))))))
    refine zLE (show fn109 [ρ 6] (γ 2) = (0, 0, γ 3) from l3.symm) (zLV (γ 3) rfl ?_)
    rfl
  exact zGoo_aend hJ hD
theorem vn153a0_4 {S : Nat → zSpc} (hS109 : zIm S 109 sn109) (hS117 : zIm S 117 sn117) (hS118 : zIm S 118 sn118) {a : List Int} {g : rHp} : ∀ (ρ : Nat → Int) (γ : Nat → rHp), jn153 a g 0 (zAg (zNA a153_ 0) ρ) (γ 1) → zO 7 S a g q153a0_4 ρ γ → zGl (fun i vs g1 => jn153 a g i vs g1) (sn153 a g) q153a0_4 ρ γ := by
  intro ρ γ hJ h
  obtain ⟨ha, hg, hr, hf, hm, hc, hl⟩ := h
  have ha : a = [ρ 0, ρ 1, ρ 2, ρ 3, ρ 4, ρ 5, ρ 6] := ha
  subst ha
  subst hg
  have hJ : jn153 [ρ 0, ρ 1, ρ 2, ρ 3, ρ 4, ρ 5, ρ 6] (γ 0) 0 [ρ 0, ρ 1, ρ 2, ρ 3, ρ 4, ρ 5, ρ 6, ρ 7] (γ 1) := hJ
  have r4 : (0 : Int) ≤ ρ 4 ∧ ρ 4 ≤ 4 := zRnA hr 4
  have r8 : (4 : Int) ≤ ρ 8 ∧ ρ 8 ≤ 4 := zRnA hr 8
  have f0 : (0 : Int) ≤ -ρ 7 + ρ 3 + (-1) := zAllA hf 0
  obtain ⟨w_0, w_1, w_2⟩ : (¬ (ρ 7 ≥ ρ 3)) ∧ (ρ 8 ≠ 1) ∧ (¬ (ρ 8 ≠ 4)) := ⟨by omega, by omega, by omega⟩
  have m2 : γ 0 10 (ρ 0) 5 = ρ 3 := zAllA hm 2
  have m3 : γ 0 10 (ρ 0) 12 = ρ 4 := zAllA hm 3
  have m4 : γ 0 10 (ρ 0) 14 = ρ 5 := zAllA hm 4
  have m5 : γ 0 10 (ρ 0) 15 = ρ 6 := zAllA hm 5
  have m6 : γ 0 43 (ρ 0) (ρ 7) = ρ 8 := zAllA hm 6
  have l0 : ρ 8 ≠ 1 := zAllA hl 0
  have l1 : ρ 4 ≠ 1 := zAllA hl 1
  have l2 : sn118 [ρ 5, ρ 2] (γ 1) 0 1 (γ 2) := hS118 _ _ _ _ _ (zAllA hl 2)
  have wl_0 : ¬ (ρ 4 = 1) := by omega
  show jn153 [ρ 0, ρ 1, ρ 2, ρ 3, ρ 4, ρ 5, ρ 6] (γ 0) 0 [ρ 0, ρ 1, ρ 2, ρ 3, ρ 4, ρ 5, ρ 6, ρ 7 + 1] (γ 2)
  have hD : en153 (γ 0) (0, [ρ 0, ρ 7], γ 1) = .inl (0, [ρ 0, ρ 7 + 1], γ 2) := by
    unfold en153
    refine zIP (show (0 : Nat) = 0 by decide) (zLV (γ 1) rfl (zLV (ρ 0) rfl (zLV (ρ 7) rfl (zLE m2 (zLE m3 (zLE m4 (zLE m5 ?_)))))))
    refine zIN w_0 (zLE m6 (zIP w_1 (zIN w_2 (zIN wl_0 (zLE (show fn118 [ρ 5] (γ 1) = (0, 1, γ 2) from l2.symm) (zLV (γ 2) rfl (zIP zQ1_ ?_)))))))
    rfl
  exact zGoo_ato hJ hD
theorem vn153a0_5 {S : Nat → zSpc} (hS109 : zIm S 109 sn109) (hS117 : zIm S 117 sn117) (hS118 : zIm S 118 sn118) {a : List Int} {g : rHp} : ∀ (ρ : Nat → Int) (γ : Nat → rHp), jn153 a g 0 (zAg (zNA a153_ 0) ρ) (γ 1) → zO 7 S a g q153a0_5 ρ γ → zGl (fun i vs g1 => jn153 a g i vs g1) (sn153 a g) q153a0_5 ρ γ := by
  intro ρ γ hJ h
  obtain ⟨ha, hg, hr, hf, hm, hc, hl⟩ := h
  have ha : a = [ρ 0, ρ 1, ρ 2, ρ 3, ρ 4, ρ 5, ρ 6] := ha
  subst ha
  subst hg
  have hJ : jn153 [ρ 0, ρ 1, ρ 2, ρ 3, ρ 4, ρ 5, ρ 6] (γ 0) 0 [ρ 0, ρ 1, ρ 2, ρ 3, ρ 4, ρ 5, ρ 6, ρ 7] (γ 1) := hJ
  have r8 : (1 : Int) ≤ ρ 8 ∧ ρ 8 ≤ 1 := zRnA hr 8
  have f0 : (0 : Int) ≤ -ρ 7 + ρ 3 + (-1) := zAllA hf 0
  obtain ⟨w_0, w_1⟩ : (¬ (ρ 7 ≥ ρ 3)) ∧ (¬ (ρ 8 ≠ 1)) := ⟨by omega, by omega⟩
  have m2 : γ 0 10 (ρ 0) 5 = ρ 3 := zAllA hm 2
  have m3 : γ 0 10 (ρ 0) 12 = ρ 4 := zAllA hm 3
  have m4 : γ 0 10 (ρ 0) 14 = ρ 5 := zAllA hm 4
  have m5 : γ 0 10 (ρ 0) 15 = ρ 6 := zAllA hm 5
  have m6 : γ 0 43 (ρ 0) (ρ 7) = ρ 8 := zAllA hm 6
  have m7 : γ 0 44 (ρ 0) (ρ 7) = ρ 9 := zAllA hm 7
  have m8 : γ 0 45 (ρ 0) (ρ 7) = ρ 10 := zAllA hm 8
  have l0 : sn117 [ρ 9, ρ 2] (γ 1) 0 0 (γ 2) := hS117 _ _ _ _ _ (zAllA hl 0)
  have l1 : sn109 [ρ 10, ρ 1] (γ 2) 0 0 (γ 3) := hS109 _ _ _ _ _ (zAllA hl 1)
  show sn153 [ρ 0, ρ 1, ρ 2, ρ 3, ρ 4, ρ 5, ρ 6] (γ 0) 0 0 (γ 3)
  have hD : en153 (γ 0) (0, [ρ 0, ρ 7], γ 1) = .inr (0, 0, γ 3) := by
    unfold en153
    refine zIP (show (0 : Nat) = 0 by decide) (zLV (γ 1) rfl (zLV (ρ 0) rfl (zLV (ρ 7) rfl (zLE m2 (zLE m3 (zLE m4 (zLE m5 ?_)))))))
    refine zIN w_0 (zLE m6 (zIN w_1 (zLE m7 (zLE (show fn117 [ρ 9] (γ 1) = (0, 0, γ 2) from l0.symm) (zLV (γ 2) rfl (zIN zQ0_ (zLE m8 ?_)))))))
    refine zLE (show fn109 [ρ 10] (γ 2) = (0, 0, γ 3) from l1.symm) (zLV (γ 3) rfl ?_)
    rfl
  exact zGoo_aend hJ hD
theorem vn153a0_6 {S : Nat → zSpc} (hS109 : zIm S 109 sn109) (hS117 : zIm S 117 sn117) (hS118 : zIm S 118 sn118) {a : List Int} {g : rHp} : ∀ (ρ : Nat → Int) (γ : Nat → rHp), jn153 a g 0 (zAg (zNA a153_ 0) ρ) (γ 1) → zO 7 S a g q153a0_6 ρ γ → zGl (fun i vs g1 => jn153 a g i vs g1) (sn153 a g) q153a0_6 ρ γ := by
  intro ρ γ hJ h
  obtain ⟨ha, hg, hr, hf, hm, hc, hl⟩ := h
  have ha : a = [ρ 0, ρ 1, ρ 2, ρ 3, ρ 4, ρ 5, ρ 6] := ha
  subst ha
  subst hg
  have hJ : jn153 [ρ 0, ρ 1, ρ 2, ρ 3, ρ 4, ρ 5, ρ 6] (γ 0) 0 [ρ 0, ρ 1, ρ 2, ρ 3, ρ 4, ρ 5, ρ 6, ρ 7] (γ 1) := hJ
  have r8 : (1 : Int) ≤ ρ 8 ∧ ρ 8 ≤ 1 := zRnA hr 8
  have f0 : (0 : Int) ≤ -ρ 7 + ρ 3 + (-1) := zAllA hf 0
  obtain ⟨w_0, w_1⟩ : (¬ (ρ 7 ≥ ρ 3)) ∧ (¬ (ρ 8 ≠ 1)) := ⟨by omega, by omega⟩
  have m2 : γ 0 10 (ρ 0) 5 = ρ 3 := zAllA hm 2
  have m3 : γ 0 10 (ρ 0) 12 = ρ 4 := zAllA hm 3
  have m4 : γ 0 10 (ρ 0) 14 = ρ 5 := zAllA hm 4
  have m5 : γ 0 10 (ρ 0) 15 = ρ 6 := zAllA hm 5
  have m6 : γ 0 43 (ρ 0) (ρ 7) = ρ 8 := zAllA hm 6
  have m7 : γ 0 44 (ρ 0) (ρ 7) = ρ 9 := zAllA hm 7
  have l0 : sn117 [ρ 9, ρ 2] (γ 1) 0 1 (γ 2) := hS117 _ _ _ _ _ (zAllA hl 0)
  show jn153 [ρ 0, ρ 1, ρ 2, ρ 3, ρ 4, ρ 5, ρ 6] (γ 0) 0 [ρ 0, ρ 1, ρ 2, ρ 3, ρ 4, ρ 5, ρ 6, ρ 7 + 1] (γ 2)
  have hD : en153 (γ 0) (0, [ρ 0, ρ 7], γ 1) = .inl (0, [ρ 0, ρ 7 + 1], γ 2) := by
    unfold en153
    refine zIP (show (0 : Nat) = 0 by decide) (zLV (γ 1) rfl (zLV (ρ 0) rfl (zLV (ρ 7) rfl (zLE m2 (zLE m3 (zLE m4 (zLE m5 ?_)))))))
    refine zIN w_0 (zLE m6 (zIN w_1 (zLE m7 (zLE (show fn117 [ρ 9] (γ 1) = (0, 1, γ 2) from l0.symm) (zLV (γ 2) rfl (zIP zQ1_ ?_))))))
    rfl
  exact zGoo_ato hJ hD
theorem yn153 {S : Nat → zSpc} (hS109 : zIm S 109 sn109) (hS117 : zIm S 117 sn117) (hS118 : zIm S 118 sn118) : ∀ x g o v gz, zSem uW uT w153_.2.2.2.1 w153_.2.2.1.1.length S q153 (fun i => q153a.getD i []) (zNA a153_) x g o v gz → sn153 x g o v gz := by
  intro a g o v gz h
  exact zSem_all (l0 := q153) (las := q153a) (S := S) (J := (fun i vs g1 => jn153 a g i vs g1)) (P := sn153 a g) (fun _ => (show zAll _ [q153_0] from (zAll_c (vn153_0 hS109 hS117 hS118) zAll_n))) (fun _ => (show zAllI _ 0 [q153a0] from ⟨(show zAll _ [q153a0_0, q153a0_1, q153a0_2, q153a0_3, q153a0_4, q153a0_5, q153a0_6] from (zAll_c (vn153a0_0 hS109 hS117 hS118) (zAll_c (vn153a0_1 hS109 hS117 hS118) (zAll_c (vn153a0_2 hS109 hS117 hS118) (zAll_c (vn153a0_3 hS109 hS117 hS118) (zAll_c (vn153a0_4 hS109 hS117 hS118) (zAll_c (vn153a0_5 hS109 hS117 hS118) (zAll_c (vn153a0_6 hS109 hS117 hS118) zAll_n)))))))), trivial⟩)) h
theorem vn154_0 {S : Nat → zSpc} (hS109 : zIm S 109 sn109) (hS114 : zIm S 114 sn114) {a : List Int} {g : rHp} : ∀ (ρ : Nat → Int) (γ : Nat → rHp), zO 9 S a g q154_0 ρ γ → zGl (fun _ _ _ => True) (sn154 a g) q154_0 ρ γ := by
  intro ρ γ h
  obtain ⟨ha, hg, hr, hf, hm, hc, hl⟩ := h
  have ha : a = [ρ 0, ρ 1, ρ 2, ρ 3, ρ 4, ρ 5, ρ 6, ρ 7, ρ 8] := ha
  subst ha
  subst hg
  have m0 : γ 0 1 0 10 = ρ 0 := zAllA hm 0
  have m1 : γ 0 40 0 (ρ 0) = ρ 1 := zAllA hm 1
  have m2 : γ 0 9 (ρ 1) 2 = ρ 2 := zAllA hm 2
  have m4 : γ 0 2 0 3 = ρ 4 := zAllA hm 4
  have m9 : γ 1 2 0 6 = ρ 9 := zAllA hm 9
  have l0 : sn114 [ρ 3, ρ 4] (γ 0) 0 (-1) (γ 1) := hS114 _ _ _ _ _ (zAllA hl 0)
  have l1 : sn109 [ρ 9, ρ 8] (γ 1) 0 0 (γ 2) := hS109 _ _ _ _ _ (zAllA hl 1)
  show sn154 [ρ 0, ρ 1, ρ 2, ρ 3, ρ 4, ρ 5, ρ 6, ρ 7, ρ 8] (γ 0) 0 0 (γ 2)
  refine Eq.symm ?_
  show fn154 [] (γ 0) = _
  unfold fn154
  refine zLE m0 (zLE m1 (zLE m2 (zLE m4 (zLE (show fn114 [] (γ 0) = (0, (-1), γ 1) from l0.symm) (zLV (γ 1) rfl (zIN zQ2_ (zLE m9 ?_)))))))
  refine zLE (show fn109 [ρ 9] (γ 1) = (0, 0, γ 2) from l1.symm) (zLV (γ 2) rfl ?_)
  rfl
theorem vn154_1 {S : Nat → zSpc} (hS109 : zIm S 109 sn109) (hS114 : zIm S 114 sn114) {a : List Int} {g : rHp} : ∀ (ρ : Nat → Int) (γ : Nat → rHp), zO 9 S a g q154_1 ρ γ → zGl (fun _ _ _ => True) (sn154 a g) q154_1 ρ γ := by
  intro ρ γ h
  obtain ⟨ha, hg, hr, hf, hm, hc, hl⟩ := h
  have ha : a = [ρ 0, ρ 1, ρ 2, ρ 3, ρ 4, ρ 5, ρ 6, ρ 7, ρ 8] := ha
  subst ha
  subst hg
  have r9 : (60 : Int) ≤ ρ 9 ∧ ρ 9 ≤ 60 := zRnA hr 9
  have f0 : (0 : Int) ≤ ρ 10 + -ρ 4 + 1 := zAllA hf 0
  obtain ⟨w_0, w_1, w_2⟩ : ((0 : Int) ≤ ρ 9) ∧ (ρ 9 = 60) ∧ (ρ 10 + 1 ≥ ρ 4) := ⟨by omega, by omega, by omega⟩
  have m0 : γ 0 1 0 10 = ρ 0 := zAllA hm 0
  have m1 : γ 0 40 0 (ρ 0) = ρ 1 := zAllA hm 1
  have m2 : γ 0 9 (ρ 1) 2 = ρ 2 := zAllA hm 2
  have m4 : γ 0 2 0 3 = ρ 4 := zAllA hm 4
  have m9 : γ 1 2 0 6 = ρ 10 := zAllA hm 9
  have c2 : γ 2 = rUp (γ 1) 10 (ρ 2 + 9 * ρ 1 + 1) 4 3 := And.right (zChA hc 1)
  have c3 : γ 3 = rUp (γ 2) 2 0 6 (ρ 10 + 1) := And.right (zChA hc 0)
  have l0 : sn114 [ρ 3, ρ 4] (γ 0) 0 (ρ 9) (γ 1) := hS114 _ _ _ _ _ (zAllA hl 0)
  show sn154 [ρ 0, ρ 1, ρ 2, ρ 3, ρ 4, ρ 5, ρ 6, ρ 7, ρ 8] (γ 0) 0 1 (γ 3)
  refine Eq.symm ?_
  show fn154 [] (γ 0) = _
  unfold fn154
  refine zLE m0 (zLE m1 (zLE m2 (zLE m4 (zLE (show fn114 [] (γ 0) = (0, ρ 9, γ 1) from l0.symm) (zLV (γ 1) rfl (zIP w_0 (zLV (ρ 9) rfl ?_)))))))
  refine zLE m9 (zIP w_1 (zLE c2.symm (zLE c3.symm (zIP w_2 ?_))))
  rfl
theorem vn154_2 {S : Nat → zSpc} (hS109 : zIm S 109 sn109) (hS114 : zIm S 114 sn114) {a : List Int} {g : rHp} : ∀ (ρ : Nat → Int) (γ : Nat → rHp), zO 9 S a g q154_2 ρ γ → zGl (fun _ _ _ => True) (sn154 a g) q154_2 ρ γ := by
  intro ρ γ h
  obtain ⟨ha, hg, hr, hf, hm, hc, hl⟩ := h
  have ha : a = [ρ 0, ρ 1, ρ 2, ρ 3, ρ 4, ρ 5, ρ 6, ρ 7, ρ 8] := ha
  subst ha
  subst hg
  have r9 : (60 : Int) ≤ ρ 9 ∧ ρ 9 ≤ 60 := zRnA hr 9
  have r11 : ((-128) : Int) ≤ ρ 11 ∧ ρ 11 ≤ 127 := zRnA hr 11
  have f0 : (0 : Int) ≤ -ρ 10 + ρ 4 + (-2) := zAllA hf 0
  obtain ⟨w_0, w_1, w_2⟩ : ((0 : Int) ≤ ρ 9) ∧ (ρ 9 = 60) ∧ (¬ (ρ 10 + 1 ≥ ρ 4)) := ⟨by omega, by omega, by omega⟩
  have m0 : γ 0 1 0 10 = ρ 0 := zAllA hm 0
  have m1 : γ 0 40 0 (ρ 0) = ρ 1 := zAllA hm 1
  have m2 : γ 0 9 (ρ 1) 2 = ρ 2 := zAllA hm 2
  have m4 : γ 0 2 0 3 = ρ 4 := zAllA hm 4
  have m9 : γ 1 2 0 6 = ρ 10 := zAllA hm 9
  have m10 : γ 0 21 0 (ρ 10 + 1) = ρ 11 := zAllA hm 10
  have c2 : γ 2 = rUp (γ 1) 10 (ρ 2 + 9 * ρ 1 + 1) 4 3 := And.right (zChA hc 1)
  have c3 : γ 3 = rUp (γ 2) 2 0 6 (ρ 10 + 1) := And.right (zChA hc 0)
  have l0 : sn114 [ρ 3, ρ 4] (γ 0) 0 (ρ 9) (γ 1) := hS114 _ _ _ _ _ (zAllA hl 0)
  have l1 : ρ 11 ≠ 62 := zAllA hl 1
  have wl_0 : ρ 11 ≠ 62 := by omega
  show sn154 [ρ 0, ρ 1, ρ 2, ρ 3, ρ 4, ρ 5, ρ 6, ρ 7, ρ 8] (γ 0) 0 1 (γ 3)
  refine Eq.symm ?_
  show fn154 [] (γ 0) = _
  unfold fn154
  refine zLE m0 (zLE m1 (zLE m2 (zLE m4 (zLE (show fn114 [] (γ 0) = (0, ρ 9, γ 1) from l0.symm) (zLV (γ 1) rfl (zIP w_0 (zLV (ρ 9) rfl ?_)))))))
  refine zLE m9 (zIP w_1 (zLE c2.symm (zLE c3.symm (zIN w_2 (zLE m10 (zIP wl_0 ?_))))))
  rfl
theorem vn154_3 {S : Nat → zSpc} (hS109 : zIm S 109 sn109) (hS114 : zIm S 114 sn114) {a : List Int} {g : rHp} : ∀ (ρ : Nat → Int) (γ : Nat → rHp), zO 9 S a g q154_3 ρ γ → zGl (fun _ _ _ => True) (sn154 a g) q154_3 ρ γ := by
  intro ρ γ h
  obtain ⟨ha, hg, hr, hf, hm, hc, hl⟩ := h
  have ha : a = [ρ 0, ρ 1, ρ 2, ρ 3, ρ 4, ρ 5, ρ 6, ρ 7, ρ 8] := ha
  subst ha
  subst hg
  have r9 : (60 : Int) ≤ ρ 9 ∧ ρ 9 ≤ 60 := zRnA hr 9
  have r11 : (62 : Int) ≤ ρ 11 ∧ ρ 11 ≤ 62 := zRnA hr 11
  have f0 : (0 : Int) ≤ -ρ 10 + ρ 4 + (-2) := zAllA hf 0
  obtain ⟨w_0, w_1, w_2, w_3⟩ : ((0 : Int) ≤ ρ 9) ∧ (ρ 9 = 60) ∧ (¬ (ρ 10 + 1 ≥ ρ 4)) ∧ (¬ (ρ 11 ≠ 62)) := ⟨by omega, by omega, by omega, by omega⟩
  have m0 : γ 0 1 0 10 = ρ 0 := zAllA hm 0
  have m1 : γ 0 40 0 (ρ 0) = ρ 1 := zAllA hm 1
  have m2 : γ 0 9 (ρ 1) 2 = ρ 2 := zAllA hm 2
  have m4 : γ 0 2 0 3 = ρ 4 := zAllA hm 4
  have m9 : γ 1 2 0 6 = ρ 10 := zAllA hm 9
  have m10 : γ 0 21 0 (ρ 10 + 1) = ρ 11 := zAllA hm 10
  have c2 : γ 2 = rUp (γ 1) 10 (ρ 2 + 9 * ρ 1 + 1) 4 3 := And.right (zChA hc 3)
  have c3 : γ 3 = rUp (γ 2) 2 0 6 (ρ 10 + 1) := And.right (zChA hc 2)
  have c4 : γ 4 = rUp (γ 3) 10 (ρ 2 + 9 * ρ 1 + 1) 4 5 := And.right (zChA hc 1)
  have c5 : γ 5 = rUp (γ 4) 2 0 6 (ρ 10 + 2) := And.right (zChA hc 0)
  have l0 : sn114 [ρ 3, ρ 4] (γ 0) 0 (ρ 9) (γ 1) := hS114 _ _ _ _ _ (zAllA hl 0)
  show sn154 [ρ 0, ρ 1, ρ 2, ρ 3, ρ 4, ρ 5, ρ 6, ρ 7, ρ 8] (γ 0) 0 1 (γ 5)
  refine Eq.symm ?_
  show fn154 [] (γ 0) = _
  unfold fn154
  refine zLE m0 (zLE m1 (zLE m2 (zLE m4 (zLE (show fn114 [] (γ 0) = (0, ρ 9, γ 1) from l0.symm) (zLV (γ 1) rfl (zIP w_0 (zLV (ρ 9) rfl ?_)))))))
  refine zLE m9 (zIP w_1 (zLE c2.symm (zLE c3.symm (zIN w_2 (zLE m10 (zIN w_3 (zLE c4.symm ?_)))))))
  refine zLE c5.symm ?_
  rfl
theorem vn154_4 {S : Nat → zSpc} (hS109 : zIm S 109 sn109) (hS114 : zIm S 114 sn114) {a : List Int} {g : rHp} : ∀ (ρ : Nat → Int) (γ : Nat → rHp), zO 9 S a g q154_4 ρ γ → zGl (fun _ _ _ => True) (sn154 a g) q154_4 ρ γ := by
  intro ρ γ h
  obtain ⟨ha, hg, hr, hf, hm, hc, hl⟩ := h
  have ha : a = [ρ 0, ρ 1, ρ 2, ρ 3, ρ 4, ρ 5, ρ 6, ρ 7, ρ 8] := ha
  subst ha
  subst hg
  have r9 : (61 : Int) ≤ ρ 9 ∧ ρ 9 ≤ 61 := zRnA hr 9
  obtain ⟨w_0, w_1, w_2⟩ : ((0 : Int) ≤ ρ 9) ∧ (¬ (ρ 9 = 60)) ∧ (ρ 9 = 61) := ⟨by omega, by omega, by omega⟩
  have m0 : γ 0 1 0 10 = ρ 0 := zAllA hm 0
  have m1 : γ 0 40 0 (ρ 0) = ρ 1 := zAllA hm 1
  have m2 : γ 0 9 (ρ 1) 2 = ρ 2 := zAllA hm 2
  have m4 : γ 0 2 0 3 = ρ 4 := zAllA hm 4
  have m9 : γ 1 2 0 6 = ρ 10 := zAllA hm 9
  have c2 : γ 2 = rUp (γ 1) 10 (ρ 2 + 9 * ρ 1 + 1) 4 4 := And.right (zChA hc 1)
  have c3 : γ 3 = rUp (γ 2) 2 0 6 (ρ 10 + 1) := And.right (zChA hc 0)
  have l0 : sn114 [ρ 3, ρ 4] (γ 0) 0 (ρ 9) (γ 1) := hS114 _ _ _ _ _ (zAllA hl 0)
  have l1 : ρ 9 ≠ 60 := zAllA hl 1
  show sn154 [ρ 0, ρ 1, ρ 2, ρ 3, ρ 4, ρ 5, ρ 6, ρ 7, ρ 8] (γ 0) 0 1 (γ 3)
  refine Eq.symm ?_
  show fn154 [] (γ 0) = _
  unfold fn154
  refine zLE m0 (zLE m1 (zLE m2 (zLE m4 (zLE (show fn114 [] (γ 0) = (0, ρ 9, γ 1) from l0.symm) (zLV (γ 1) rfl (zIP w_0 (zLV (ρ 9) rfl ?_)))))))
  refine zLE m9 (zIN w_1 (zIP w_2 (zLE c2.symm (zLE c3.symm ?_))))
  rfl
theorem vn154_5 {S : Nat → zSpc} (hS109 : zIm S 109 sn109) (hS114 : zIm S 114 sn114) {a : List Int} {g : rHp} : ∀ (ρ : Nat → Int) (γ : Nat → rHp), zO 9 S a g q154_5 ρ γ → zGl (fun _ _ _ => True) (sn154 a g) q154_5 ρ γ := by
  intro ρ γ h
  obtain ⟨ha, hg, hr, hf, hm, hc, hl⟩ := h
  have ha : a = [ρ 0, ρ 1, ρ 2, ρ 3, ρ 4, ρ 5, ρ 6, ρ 7, ρ 8] := ha
  subst ha
  subst hg
  have r9 : (0 : Int) ≤ ρ 9 ∧ ρ 9 ≤ 255 := zRnA hr 9
  have w_0 : (0 : Int) ≤ ρ 9 := by omega
  have m0 : γ 0 1 0 10 = ρ 0 := zAllA hm 0
  have m1 : γ 0 40 0 (ρ 0) = ρ 1 := zAllA hm 1
  have m2 : γ 0 9 (ρ 1) 2 = ρ 2 := zAllA hm 2
  have m4 : γ 0 2 0 3 = ρ 4 := zAllA hm 4
  have m9 : γ 1 2 0 6 = ρ 10 := zAllA hm 9
  have l0 : sn114 [ρ 3, ρ 4] (γ 0) 0 (ρ 9) (γ 1) := hS114 _ _ _ _ _ (zAllA hl 0)
  have l1 : ρ 9 ≠ 60 := zAllA hl 1
  have l2 : ρ 9 ≠ 61 := zAllA hl 2
  have l3 : sn109 [ρ 10, ρ 8] (γ 1) 0 0 (γ 2) := hS109 _ _ _ _ _ (zAllA hl 3)
  obtain ⟨wl_0, wl_1⟩ : (¬ (ρ 9 = 60)) ∧ (¬ (ρ 9 = 61)) := ⟨by omega, by omega⟩
  show sn154 [ρ 0, ρ 1, ρ 2, ρ 3, ρ 4, ρ 5, ρ 6, ρ 7, ρ 8] (γ 0) 0 0 (γ 2)
  refine Eq.symm ?_
  show fn154 [] (γ 0) = _
  unfold fn154
  refine zLE m0 (zLE m1 (zLE m2 (zLE m4 (zLE (show fn114 [] (γ 0) = (0, ρ 9, γ 1) from l0.symm) (zLV (γ 1) rfl (zIP w_0 (zLV (ρ 9) rfl ?_)))))))
  refine zLE m9 (zIN wl_0 (zIN wl_1 (zLE (show fn109 [ρ 10] (γ 1) = (0, 0, γ 2) from l3.symm) (zLV (γ 2) rfl ?_))))
  rfl
theorem yn154 {S : Nat → zSpc} (hS109 : zIm S 109 sn109) (hS114 : zIm S 114 sn114) : ∀ x g o v gz, zSem uW uT w154_.2.2.2.1 w154_.2.2.1.1.length S q154 (fun i => q154a.getD i []) (zNA a154_) x g o v gz → sn154 x g o v gz := by
  intro a g o v gz h
  exact zSem_all (l0 := q154) (las := q154a) (S := S) (J := (fun _ _ _ => True)) (P := sn154 a g) (fun _ => (show zAll _ [q154_0, q154_1, q154_2, q154_3, q154_4, q154_5] from (zAll_c (vn154_0 hS109 hS114) (zAll_c (vn154_1 hS109 hS114) (zAll_c (vn154_2 hS109 hS114) (zAll_c (vn154_3 hS109 hS114) (zAll_c (vn154_4 hS109 hS114) (zAll_c (vn154_5 hS109 hS114) zAll_n)))))))) (fun _ => (show zAllI _ 0 [] from trivial)) h
theorem vn155_0 {S : Nat → zSpc} (hS103 : zIm S 103 sn103) (hS138 : zIm S 138 sn138) (hS139 : zIm S 139 sn139) (hS154 : zIm S 154 sn154) {a : List Int} {g : rHp} : ∀ (ρ : Nat → Int) (γ : Nat → rHp), zO 20 S a g q155_0 ρ γ → zGl (fun _ _ _ => True) (sn155 a g) q155_0 ρ γ := by
  intro ρ γ h
  obtain ⟨ha, hg, hr, hf, hm, hc, hl⟩ := h
  have ha : a = [ρ 0, ρ 1, ρ 2, ρ 3, ρ 4, ρ 5, ρ 6, ρ 7, ρ 8, ρ 9, ρ 10, ρ 11, ρ 12, ρ 13, ρ 14, ρ 15, ρ 16, ρ 17, ρ 18, ρ 19] := ha
  subst ha
  subst hg
  have m0 : γ 0 1 0 10 = ρ 2 := zAllA hm 0
  have m1 : γ 0 40 0 (ρ 2) = ρ 3 := zAllA hm 1
  have m2 : γ 0 9 (ρ 3) 2 = ρ 4 := zAllA hm 2
  have l0 : sn103 [4, 0, ρ 1, ρ 2, ρ 3, ρ 4, ρ 8, ρ 9, ρ 7, ρ 15, ρ 16, ρ 17, ρ 18, ρ 19] (γ 0) 0 0 (γ 1) := hS103 _ _ _ _ _ (zAllA hl 0)
  have l1 : sn154 [ρ 2, ρ 3, ρ 4, ρ 5, ρ 6, 4, ρ 8, ρ 9, ρ 10] (γ 1) 0 0 (γ 2) := hS154 _ _ _ _ _ (zAllA hl 1)
  show sn155 [ρ 0, ρ 1, ρ 2, ρ 3, ρ 4, ρ 5, ρ 6, ρ 7, ρ 8, ρ 9, ρ 10, ρ 11, ρ 12, ρ 13, ρ 14, ρ 15, ρ 16, ρ 17, ρ 18, ρ 19] (γ 0) 0 0 (γ 2)
  refine Eq.symm ?_
  show fn155 [ρ 0, ρ 1] (γ 0) = _
  unfold fn155
  refine zLV (ρ 0) rfl (zLV (ρ 1) rfl (zLE m0 (zLE m1 (zLE m2 (zLE (show fn103 [4, 0, ρ 1] (γ 0) = (0, 0, γ 1) from l0.symm) (zLV (γ 1) rfl (zLE (show fn154 [] (γ 1) = (0, 0, γ 2) from l1.symm) ?_)))))))
  refine zLV (γ 2) rfl (zIN zQ0_ ?_)
  rfl
theorem vn155_1 {S : Nat → zSpc} (hS103 : zIm S 103 sn103) (hS138 : zIm S 138 sn138) (hS139 : zIm S 139 sn139) (hS154 : zIm S 154 sn154) {a : List Int} {g : rHp} : ∀ (ρ : Nat → Int) (γ : Nat → rHp), zO 20 S a g q155_1 ρ γ → zGl (fun _ _ _ => True) (sn155 a g) q155_1 ρ γ := by
  intro ρ γ h
  obtain ⟨ha, hg, hr, hf, hm, hc, hl⟩ := h
  have ha : a = [ρ 0, ρ 1, ρ 2, ρ 3, ρ 4, ρ 5, ρ 6, ρ 7, ρ 8, ρ 9, ρ 10, ρ 11, ρ 12, ρ 13, ρ 14, ρ 15, ρ 16, ρ 17, ρ 18, ρ 19] := ha
  subst ha
  subst hg
  have m0 : γ 0 1 0 10 = ρ 2 := zAllA hm 0
  have m1 : γ 0 40 0 (ρ 2) = ρ 3 := zAllA hm 1
  have m2 : γ 0 9 (ρ 3) 2 = ρ 4 := zAllA hm 2
  have l0 : sn103 [4, 0, ρ 1, ρ 2, ρ 3, ρ 4, ρ 8, ρ 9, ρ 7, ρ 15, ρ 16, ρ 17, ρ 18, ρ 19] (γ 0) 0 0 (γ 1) := hS103 _ _ _ _ _ (zAllA hl 0)
  have l1 : sn154 [ρ 2, ρ 3, ρ 4, ρ 5, ρ 6, 4, ρ 8, ρ 9, ρ 10] (γ 1) 0 1 (γ 2) := hS154 _ _ _ _ _ (zAllA hl 1)
  have l2 : sn138 [ρ 4 + 9 * ρ 3 + 1, ρ 0, ρ 1, ρ 20, ρ 6, 0, ρ 10, ρ 11, ρ 13] (γ 2) 0 0 (γ 3) := hS138 _ _ _ _ _ (zAllA hl 2)
  show sn155 [ρ 0, ρ 1, ρ 2, ρ 3, ρ 4, ρ 5, ρ 6, ρ 7, ρ 8, ρ 9, ρ 10, ρ 11, ρ 12, ρ 13, ρ 14, ρ 15, ρ 16, ρ 17, ρ 18, ρ 19] (γ 0) 0 0 (γ 3)
  refine Eq.symm ?_
  show fn155 [ρ 0, ρ 1] (γ 0) = _
  unfold fn155
  refine zLV (ρ 0) rfl (zLV (ρ 1) rfl (zLE m0 (zLE m1 (zLE m2 (zLE (show fn103 [4, 0, ρ 1] (γ 0) = (0, 0, γ 1) from l0.symm) (zLV (γ 1) rfl (zLE (show fn154 [] (γ 1) = (0, 1, γ 2) from l1.symm) ?_)))))))
  refine zLV (γ 2) rfl (zIP zQ1_ (zLE (show fn138 [ρ 4 + 9 * ρ 3 + 1, ρ 0, ρ 1] (γ 2) = (0, 0, γ 3) from l2.symm) (zLV (γ 3) rfl (zIN zQ0_ ?_))))
  rfl
theorem vn155_2 {S : Nat → zSpc} (hS103 : zIm S 103 sn103) (hS138 : zIm S 138 sn138) (hS139 : zIm S 139 sn139) (hS154 : zIm S 154 sn154) {a : List Int} {g : rHp} : ∀ (ρ : Nat → Int) (γ : Nat → rHp), zO 20 S a g q155_2 ρ γ → zGl (fun _ _ _ => True) (sn155 a g) q155_2 ρ γ := by
  intro ρ γ h
  obtain ⟨ha, hg, hr, hf, hm, hc, hl⟩ := h
  have ha : a = [ρ 0, ρ 1, ρ 2, ρ 3, ρ 4, ρ 5, ρ 6, ρ 7, ρ 8, ρ 9, ρ 10, ρ 11, ρ 12, ρ 13, ρ 14, ρ 15, ρ 16, ρ 17, ρ 18, ρ 19] := ha
  subst ha
  subst hg
  have m0 : γ 0 1 0 10 = ρ 2 := zAllA hm 0
  have m1 : γ 0 40 0 (ρ 2) = ρ 3 := zAllA hm 1
  have m2 : γ 0 9 (ρ 3) 2 = ρ 4 := zAllA hm 2
  have l0 : sn103 [4, 0, ρ 1, ρ 2, ρ 3, ρ 4, ρ 8, ρ 9, ρ 7, ρ 15, ρ 16, ρ 17, ρ 18, ρ 19] (γ 0) 0 0 (γ 1) := hS103 _ _ _ _ _ (zAllA hl 0)
  have l1 : sn154 [ρ 2, ρ 3, ρ 4, ρ 5, ρ 6, 4, ρ 8, ρ 9, ρ 10] (γ 1) 0 1 (γ 2) := hS154 _ _ _ _ _ (zAllA hl 1)
  have l2 : sn138 [ρ 4 + 9 * ρ 3 + 1, ρ 0, ρ 1, ρ 20, ρ 6, 0, ρ 10, ρ 11, ρ 13] (γ 2) 0 1 (γ 3) := hS138 _ _ _ _ _ (zAllA hl 2)
  have l3 : sn139 [ρ 4 + 9 * ρ 3 + 1, ρ 20, ρ 6, ρ 22, ρ 10, ρ 11, ρ 12, ρ 13, ρ 14] (γ 3) 0 0 (γ 4) := hS139 _ _ _ _ _ (zAllA hl 3)
  show sn155 [ρ 0, ρ 1, ρ 2, ρ 3, ρ 4, ρ 5, ρ 6, ρ 7, ρ 8, ρ 9, ρ 10, ρ 11, ρ 12, ρ 13, ρ 14, ρ 15, ρ 16, ρ 17, ρ 18, ρ 19] (γ 0) 0 0 (γ 4)
  refine Eq.symm ?_
  show fn155 [ρ 0, ρ 1] (γ 0) = _
  unfold fn155
  refine zLV (ρ 0) rfl (zLV (ρ 1) rfl (zLE m0 (zLE m1 (zLE m2 (zLE (show fn103 [4, 0, ρ 1] (γ 0) = (0, 0, γ 1) from l0.symm) (zLV (γ 1) rfl (zLE (show fn154 [] (γ 1) = (0, 1, γ 2) from l1.symm) ?_)))))))
  refine zLV (γ 2) rfl (zIP zQ1_ (zLE (show fn138 [ρ 4 + 9 * ρ 3 + 1, ρ 0, ρ 1] (γ 2) = (0, 1, γ 3) from l2.symm) (zLV (γ 3) rfl (zIP zQ1_ (zLE (show fn139 [ρ 4 + 9 * ρ 3 + 1] (γ 3) = (0, 0, γ 4) from l3.symm) (zLV (γ 4) rfl (zIN zQ0_ ?_)))))))
  rfl
theorem vn155_3 {S : Nat → zSpc} (hS103 : zIm S 103 sn103) (hS138 : zIm S 138 sn138) (hS139 : zIm S 139 sn139) (hS154 : zIm S 154 sn154) {a : List Int} {g : rHp} : ∀ (ρ : Nat → Int) (γ : Nat → rHp), zO 20 S a g q155_3 ρ γ → zGl (fun _ _ _ => True) (sn155 a g) q155_3 ρ γ := by
  intro ρ γ h
  obtain ⟨ha, hg, hr, hf, hm, hc, hl⟩ := h
  have ha : a = [ρ 0, ρ 1, ρ 2, ρ 3, ρ 4, ρ 5, ρ 6, ρ 7, ρ 8, ρ 9, ρ 10, ρ 11, ρ 12, ρ 13, ρ 14, ρ 15, ρ 16, ρ 17, ρ 18, ρ 19] := ha
  subst ha
  subst hg
  have m0 : γ 0 1 0 10 = ρ 2 := zAllA hm 0
  have m1 : γ 0 40 0 (ρ 2) = ρ 3 := zAllA hm 1
  have m2 : γ 0 9 (ρ 3) 2 = ρ 4 := zAllA hm 2
  have l0 : sn103 [4, 0, ρ 1, ρ 2, ρ 3, ρ 4, ρ 8, ρ 9, ρ 7, ρ 15, ρ 16, ρ 17, ρ 18, ρ 19] (γ 0) 0 0 (γ 1) := hS103 _ _ _ _ _ (zAllA hl 0)
  have l1 : sn154 [ρ 2, ρ 3, ρ 4, ρ 5, ρ 6, 4, ρ 8, ρ 9, ρ 10] (γ 1) 0 1 (γ 2) := hS154 _ _ _ _ _ (zAllA hl 1)
  have l2 : sn138 [ρ 4 + 9 * ρ 3 + 1, ρ 0, ρ 1, ρ 20, ρ 6, 0, ρ 10, ρ 11, ρ 13] (γ 2) 0 1 (γ 3) := hS138 _ _ _ _ _ (zAllA hl 2)
  have l3 : sn139 [ρ 4 + 9 * ρ 3 + 1, ρ 20, ρ 6, ρ 22, ρ 10, ρ 11, ρ 12, ρ 13, ρ 14] (γ 3) 0 1 (γ 4) := hS139 _ _ _ _ _ (zAllA hl 3)
  show sn155 [ρ 0, ρ 1, ρ 2, ρ 3, ρ 4, ρ 5, ρ 6, ρ 7, ρ 8, ρ 9, ρ 10, ρ 11, ρ 12, ρ 13, ρ 14, ρ 15, ρ 16, ρ 17, ρ 18, ρ 19] (γ 0) 0 1 (γ 4)
  refine Eq.symm ?_
  show fn155 [ρ 0, ρ 1] (γ 0) = _
  unfold fn155
  refine zLV (ρ 0) rfl (zLV (ρ 1) rfl (zLE m0 (zLE m1 (zLE m2 (zLE (show fn103 [4, 0, ρ 1] (γ 0) = (0, 0, γ 1) from l0.symm) (zLV (γ 1) rfl (zLE (show fn154 [] (γ 1) = (0, 1, γ 2) from l1.symm) ?_)))))))
  refine zLV (γ 2) rfl (zIP zQ1_ (zLE (show fn138 [ρ 4 + 9 * ρ 3 + 1, ρ 0, ρ 1] (γ 2) = (0, 1, γ 3) from l2.symm) (zLV (γ 3) rfl (zIP zQ1_ (zLE (show fn139 [ρ 4 + 9 * ρ 3 + 1] (γ 3) = (0, 1, γ 4) from l3.symm) (zLV (γ 4) rfl (zIP zQ1_ ?_)))))))
  rfl
theorem yn155 {S : Nat → zSpc} (hS103 : zIm S 103 sn103) (hS138 : zIm S 138 sn138) (hS139 : zIm S 139 sn139) (hS154 : zIm S 154 sn154) : ∀ x g o v gz, zSem uW uT w155_.2.2.2.1 w155_.2.2.1.1.length S q155 (fun i => q155a.getD i []) (zNA a155_) x g o v gz → sn155 x g o v gz := by
  intro a g o v gz h
  exact zSem_all (l0 := q155) (las := q155a) (S := S) (J := (fun _ _ _ => True)) (P := sn155 a g) (fun _ => (show zAll _ [q155_0, q155_1, q155_2, q155_3] from (zAll_c (vn155_0 hS103 hS138 hS139 hS154) (zAll_c (vn155_1 hS103 hS138 hS139 hS154) (zAll_c (vn155_2 hS103 hS138 hS139 hS154) (zAll_c (vn155_3 hS103 hS138 hS139 hS154) zAll_n)))))) (fun _ => (show zAllI _ 0 [] from trivial)) h
