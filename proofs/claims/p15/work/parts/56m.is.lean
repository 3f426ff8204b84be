/-! ===== the runs are the functions ===== -/
theorem vn144_0 {S : Nat → zSpc} (hS102 : zIm S 102 sn102) (hS109 : zIm S 109 sn109) (hS114 : zIm S 114 sn114) (hS133 : zIm S 133 sn133) (hS141 : zIm S 141 sn141) (hS143 : zIm S 143 sn143) {a : List Int} {g : rHp} : ∀ (ρ : Nat → Int) (γ : Nat → rHp), zO 22 S a g q144_0 ρ γ → zGl (fun i vs g1 => jn144 a g i vs g1) (sn144 a g) q144_0 ρ γ := by
  intro ρ γ h
  obtain ⟨ha, hg, hr, hf, hm, hc, hl⟩ := h
  have ha : a = [ρ 0, ρ 1, ρ 2, ρ 3, ρ 4, ρ 5, ρ 6, ρ 7, ρ 8, ρ 9, ρ 10, ρ 11, ρ 12, ρ 13, ρ 14, ρ 15, ρ 16, ρ 17, ρ 18, ρ 19, ρ 20, ρ 21] := ha
  subst ha
  subst hg
  have m14 : γ 0 2 0 9 = ρ 14 := zAllA hm 14
  have m22 : γ 0 2 0 8 = ρ 22 := zAllA hm 22
  have m29 : γ 2 2 0 6 = ρ 23 := zAllA hm 29
  have l0 : sn102 [ρ 22, ρ 14, ρ 0, ρ 1, ρ 2, ρ 8, ρ 5, ρ 18, ρ 10, ρ 19, ρ 6] (γ 0) 0 0 (γ 1) := hS102 _ _ _ _ _ (zAllA hl 0)
  have l1 : sn114 [ρ 3, ρ 4] (γ 1) 0 (-1) (γ 2) := hS114 _ _ _ _ _ (zAllA hl 1)
  have l2 : sn109 [ρ 23, ρ 12] (γ 2) 0 0 (γ 3) := hS109 _ _ _ _ _ (zAllA hl 2)
  show sn144 [ρ 0, ρ 1, ρ 2, ρ 3, ρ 4, ρ 5, ρ 6, ρ 7, ρ 8, ρ 9, ρ 10, ρ 11, ρ 12, ρ 13, ρ 14, ρ 15, ρ 16, ρ 17, ρ 18, ρ 19, ρ 20, ρ 21] (γ 0) 0 0 (γ 3)
  have hD : dn144 [] (γ 0) = .inr (0, 0, γ 3) := by
    unfold dn144
    refine zLE m14 (zLE m22 (zLE (show fn102 [ρ 22, ρ 14] (γ 0) = (0, 0, γ 1) from l0.symm) (zLV (γ 1) rfl (zLE (show fn114 [] (γ 1) = (0, (-1), γ 2) from l1.symm) (zLV (γ 2) rfl (zIN zQ2_ (zLE m29 ?_)))))))
    refine zLE (show fn109 [ρ 23] (γ 2) = (0, 0, γ 3) from l2.symm) (zLV (γ 3) rfl ?_)
    rfl
  exact zGoo_end hD
theorem vn144_1 {S : Nat → zSpc} (hS102 : zIm S 102 sn102) (hS109 : zIm S 109 sn109) (hS114 : zIm S 114 sn114) (hS133 : zIm S 133 sn133) (hS141 : zIm S 141 sn141) (hS143 : zIm S 143 sn143) {a : List Int} {g : rHp} : ∀ (ρ : Nat → Int) (γ : Nat → rHp), zO 22 S a g q144_1 ρ γ → zGl (fun i vs g1 => jn144 a g i vs g1) (sn144 a g) q144_1 ρ γ := by
  intro ρ γ h
  obtain ⟨ha, hg, hr, hf, hm, hc, hl⟩ := h
  have ha : a = [ρ 0, ρ 1, ρ 2, ρ 3, ρ 4, ρ 5, ρ 6, ρ 7, ρ 8, ρ 9, ρ 10, ρ 11, ρ 12, ρ 13, ρ 14, ρ 15, ρ 16, ρ 17, ρ 18, ρ 19, ρ 20, ρ 21] := ha
  subst ha
  subst hg
  have r23 : (40 : Int) ≤ ρ 23 ∧ ρ 23 ≤ 40 := zRnA hr 23
  obtain ⟨w_0, w_1⟩ : ((0 : Int) ≤ ρ 23) ∧ (ρ 23 = 40) := ⟨by omega, by omega⟩
  have m14 : γ 0 2 0 9 = ρ 14 := zAllA hm 14
  have m22 : γ 0 2 0 8 = ρ 22 := zAllA hm 22
  have m29 : γ 2 2 0 6 = ρ 24 := zAllA hm 29
  have c3 : γ 3 = rUp (γ 2) 2 0 6 (ρ 24 + 1) := And.right (zChA hc 0)
  have l0 : sn102 [ρ 22, ρ 14, ρ 0, ρ 1, ρ 2, ρ 8, ρ 5, ρ 18, ρ 10, ρ 19, ρ 6] (γ 0) 0 0 (γ 1) := hS102 _ _ _ _ _ (zAllA hl 0)
  have l1 : sn114 [ρ 3, ρ 4] (γ 1) 0 (ρ 23) (γ 2) := hS114 _ _ _ _ _ (zAllA hl 1)
  show jn144 [ρ 0, ρ 1, ρ 2, ρ 3, ρ 4, ρ 5, ρ 6, ρ 7, ρ 8, ρ 9, ρ 10, ρ 11, ρ 12, ρ 13, ρ 14, ρ 15, ρ 16, ρ 17, ρ 18, ρ 19, ρ 20, ρ 21] (γ 0) 0 [ρ 0, ρ 1, ρ 2, ρ 3, ρ 4, ρ 5, ρ 6, ρ 7, ρ 8, ρ 9, ρ 10, ρ 11, ρ 12, ρ 13, ρ 14, ρ 15, ρ 16, ρ 17, ρ 18, ρ 19, ρ 20, ρ 21, 0, ρ 24 + 1, 0, 0, ρ 7, 0, (-1), ρ 13, ρ 14, ρ 15, ρ 16, ρ 17, (-1), ρ 20, ρ 21] (γ 3)
  have hD : dn144 [] (γ 0) = .inl (0, [0], γ 3) := by
    unfold dn144
    refine zLE m14 (zLE m22 (zLE (show fn102 [ρ 22, ρ 14] (γ 0) = (0, 0, γ 1) from l0.symm) (zLV (γ 1) rfl (zLE (show fn114 [] (γ 1) = (0, ρ 23, γ 2) from l1.symm) (zLV (γ 2) rfl (zIP w_0 (zLV (ρ 23) rfl ?_)))))))
    refine zLE m29 (zIP w_1 (zLE c3.symm ?_))
    rfl
  exact zGoo_to hD
theorem vn144_2 {S : Nat → zSpc} (hS102 : zIm S 102 sn102) (hS109 : zIm S 109 sn109) (hS114 : zIm S 114 sn114) (hS133 : zIm S 133 sn133) (hS141 : zIm S 141 sn141) (hS143 : zIm S 143 sn143) {a : List Int} {g : rHp} : ∀ (ρ : Nat → Int) (γ : Nat → rHp), zO 22 S a g q144_2 ρ γ → zGl (fun i vs g1 => jn144 a g i vs g1) (sn144 a g) q144_2 ρ γ := by
  intro ρ γ h
  obtain ⟨ha, hg, hr, hf, hm, hc, hl⟩ := h
  have ha : a = [ρ 0, ρ 1, ρ 2, ρ 3, ρ 4, ρ 5, ρ 6, ρ 7, ρ 8, ρ 9, ρ 10, ρ 11, ρ 12, ρ 13, ρ 14, ρ 15, ρ 16, ρ 17, ρ 18, ρ 19, ρ 20, ρ 21] := ha
  subst ha
  subst hg
  have r23 : (0 : Int) ≤ ρ 23 ∧ ρ 23 ≤ 255 := zRnA hr 23
  have w_0 : (0 : Int) ≤ ρ 23 := by omega
  have m14 : γ 0 2 0 9 = ρ 14 := zAllA hm 14
  have m22 : γ 0 2 0 8 = ρ 22 := zAllA hm 22
  have m29 : γ 2 2 0 6 = ρ 24 := zAllA hm 29
  have l0 : sn102 [ρ 22, ρ 14, ρ 0, ρ 1, ρ 2, ρ 8, ρ 5, ρ 18, ρ 10, ρ 19, ρ 6] (γ 0) 0 0 (γ 1) := hS102 _ _ _ _ _ (zAllA hl 0)
  have l1 : sn114 [ρ 3, ρ 4] (γ 1) 0 (ρ 23) (γ 2) := hS114 _ _ _ _ _ (zAllA hl 1)
  have l2 : ρ 23 ≠ 40 := zAllA hl 2
  have l3 : sn109 [ρ 24, ρ 12] (γ 2) 0 0 (γ 3) := hS109 _ _ _ _ _ (zAllA hl 3)
  have wl_0 : ¬ (ρ 23 = 40) := by omega
  show sn144 [ρ 0, ρ 1, ρ 2, ρ 3, ρ 4, ρ 5, ρ 6, ρ 7, ρ 8, ρ 9, ρ 10, ρ 11, ρ 12, ρ 13, ρ 14, ρ 15, ρ 16, ρ 17, ρ 18, ρ 19, ρ 20, ρ 21] (γ 0) 0 0 (γ 3)
  have hD : dn144 [] (γ 0) = .inr (0, 0, γ 3) := by
    unfold dn144
    refine zLE m14 (zLE m22 (zLE (show fn102 [ρ 22, ρ 14] (γ 0) = (0, 0, γ 1) from l0.symm) (zLV (γ 1) rfl (zLE (show fn114 [] (γ 1) = (0, ρ 23, γ 2) from l1.symm) (zLV (γ 2) rfl (zIP w_0 (zLV (ρ 23) rfl ?_)))))))
    refine zLE m29 (zIN wl_0 (zLE (show fn109 [ρ 24] (γ 2) = (0, 0, γ 3) from l3.symm) (zLV (γ 3) rfl ?_)))
    rfl
  exact zGoo_end hD
theorem vn144a0_0 {S : Nat → zSpc} (hS102 : zIm S 102 sn102) (hS109 : zIm S 109 sn109) (hS114 : zIm S 114 sn114) (hS133 : zIm S 133 sn133) (hS141 : zIm S 141 sn141) (hS143 : zIm S 143 sn143) {a : List Int} {g : rHp} : ∀ (ρ : Nat → Int) (γ : Nat → rHp), jn144 a g 0 (zAg (zNA a144_ 0) ρ) (γ 1) → zO 22 S a g q144a0_0 ρ γ → zGl (fun i vs g1 => jn144 a g i vs g1) (sn144 a g) q144a0_0 ρ γ := by
  intro ρ γ hJ h
  obtain ⟨ha, hg, hr, hf, hm, hc, hl⟩ := h
  have ha : a = [ρ 0, ρ 1, ρ 2, ρ 3, ρ 4, ρ 5, ρ 6, ρ 7, ρ 8, ρ 9, ρ 10, ρ 11, ρ 12, ρ 13, ρ 14, ρ 15, ρ 16, ρ 17, ρ 18, ρ 19, ρ 20, ρ 21] := ha
  subst ha
  subst hg
  have hJ : jn144 [ρ 0, ρ 1, ρ 2, ρ 3, ρ 4, ρ 5, ρ 6, ρ 7, ρ 8, ρ 9, ρ 10, ρ 11, ρ 12, ρ 13, ρ 14, ρ 15, ρ 16, ρ 17, ρ 18, ρ 19, ρ 20, ρ 21] (γ 0) 0 [ρ 0, ρ 1, ρ 2, ρ 3, ρ 4, ρ 5, ρ 6, ρ 7, ρ 8, ρ 9, ρ 10, ρ 11, ρ 12, ρ 13, ρ 14, ρ 15, ρ 16, ρ 17, ρ 18, ρ 19, ρ 20, ρ 21, ρ 22, ρ 23, ρ 24, ρ 25, ρ 26, ρ 27, ρ 28, ρ 29, ρ 30, ρ 31, ρ 32, ρ 33, ρ 34, ρ 35, ρ 36] (γ 1) := hJ
  have r22 : (4 : Int) ≤ ρ 22 ∧ ρ 22 ≤ 4 := zRnA hr 22
  have w_0 : ρ 22 ≥ 4 := by omega
  have m0 : γ 0 1 0 10 = ρ 0 := zAllA hm 0
  have m1 : γ 0 40 0 (ρ 0) = ρ 1 := zAllA hm 1
  have m13 : γ 0 2 0 5 = ρ 13 := zAllA hm 13
  have m35 : γ 1 10 (9 * ρ 1) 9 = ρ 34 := zAllA hm 35
  have m38 : γ 2 2 0 6 = ρ 37 := zAllA hm 38
  have l0 : sn114 [ρ 23, ρ 4] (γ 1) 0 (-1) (γ 2) := hS114 _ _ _ _ _ (zAllA hl 0)
  have l1 : sn109 [ρ 37, ρ 12] (γ 2) 0 0 (γ 3) := hS109 _ _ _ _ _ (zAllA hl 1)
  show sn144 [ρ 0, ρ 1, ρ 2, ρ 3, ρ 4, ρ 5, ρ 6, ρ 7, ρ 8, ρ 9, ρ 10, ρ 11, ρ 12, ρ 13, ρ 14, ρ 15, ρ 16, ρ 17, ρ 18, ρ 19, ρ 20, ρ 21] (γ 0) 0 0 (γ 3)
  have hD : en144 (γ 0) (0, [ρ 22], γ 1) = .inr (0, 0, γ 3) := by
    unfold en144
    refine zIP (show (0 : Nat) = 0 by decide) (zLV (γ 1) rfl (zLV (ρ 22) rfl (zLE m0 (zLE m1 (zLE m13 (zLE m35 (zIP w_0 ?_)))))))
    refine zLE (show fn114 [] (γ 1) = (0, (-1), γ 2) from l0.symm) (zLV (γ 2) rfl (zIN zQ2_ (zLE m38 (zLE (show fn109 [ρ 37] (γ 2) = (0, 0, γ 3) from l1.symm) (zLV (γ 3) rfl ?_)))))
    rfl
  exact zGoo_aend hJ hD
theorem vn144a0_1 {S : Nat → zSpc} (hS102 : zIm S 102 sn102) (hS109 : zIm S 109 sn109) (hS114 : zIm S 114 sn114) (hS133 : zIm S 133 sn133) (hS141 : zIm S 141 sn141) (hS143 : zIm S 143 sn143) {a : List Int} {g : rHp} : ∀ (ρ : Nat → Int) (γ : Nat → rHp), jn144 a g 0 (zAg (zNA a144_ 0) ρ) (γ 1) → zO 22 S a g q144a0_1 ρ γ → zGl (fun i vs g1 => jn144 a g i vs g1) (sn144 a g) q144a0_1 ρ γ := by
  intro ρ γ hJ h
  obtain ⟨ha, hg, hr, hf, hm, hc, hl⟩ := h
  have ha : a = [ρ 0, ρ 1, ρ 2, ρ 3, ρ 4, ρ 5, ρ 6, ρ 7, ρ 8, ρ 9, ρ 10, ρ 11, ρ 12, ρ 13, ρ 14, ρ 15, ρ 16, ρ 17, ρ 18, ρ 19, ρ 20, ρ 21] := ha
  subst ha
  subst hg
  have hJ : jn144 [ρ 0, ρ 1, ρ 2, ρ 3, ρ 4, ρ 5, ρ 6, ρ 7, ρ 8, ρ 9, ρ 10, ρ 11, ρ 12, ρ 13, ρ 14, ρ 15, ρ 16, ρ 17, ρ 18, ρ 19, ρ 20, ρ 21] (γ 0) 0 [ρ 0, ρ 1, ρ 2, ρ 3, ρ 4, ρ 5, ρ 6, ρ 7, ρ 8, ρ 9, ρ 10, ρ 11, ρ 12, ρ 13, ρ 14, ρ 15, ρ 16, ρ 17, ρ 18, ρ 19, ρ 20, ρ 21, ρ 22, ρ 23, ρ 24, ρ 25, ρ 26, ρ 27, ρ 28, ρ 29, ρ 30, ρ 31, ρ 32, ρ 33, ρ 34, ρ 35, ρ 36] (γ 1) := hJ
  have r22 : (4 : Int) ≤ ρ 22 ∧ ρ 22 ≤ 4 := zRnA hr 22
  have r37 : (0 : Int) ≤ ρ 37 ∧ ρ 37 ≤ 255 := zRnA hr 37
  obtain ⟨w_0, w_1⟩ : (ρ 22 ≥ 4) ∧ ((0 : Int) ≤ ρ 37) := ⟨by omega, by omega⟩
  have m0 : γ 0 1 0 10 = ρ 0 := zAllA hm 0
  have m1 : γ 0 40 0 (ρ 0) = ρ 1 := zAllA hm 1
  have m13 : γ 0 2 0 5 = ρ 13 := zAllA hm 13
  have m35 : γ 1 10 (9 * ρ 1) 9 = ρ 34 := zAllA hm 35
  have m38 : γ 2 2 0 6 = ρ 38 := zAllA hm 38
  have l0 : sn114 [ρ 23, ρ 4] (γ 1) 0 (ρ 37) (γ 2) := hS114 _ _ _ _ _ (zAllA hl 0)
  have l1 : sn109 [ρ 38, ρ 12] (γ 2) 0 0 (γ 3) := hS109 _ _ _ _ _ (zAllA hl 1)
  show sn144 [ρ 0, ρ 1, ρ 2, ρ 3, ρ 4, ρ 5, ρ 6, ρ 7, ρ 8, ρ 9, ρ 10, ρ 11, ρ 12, ρ 13, ρ 14, ρ 15, ρ 16, ρ 17, ρ 18, ρ 19, ρ 20, ρ 21] (γ 0) 0 0 (γ 3)
  have hD : en144 (γ 0) (0, [ρ 22], γ 1) = .inr (0, 0, γ 3) := by
    unfold en144
    refine zIP (show (0 : Nat) = 0 by decide) (zLV (γ 1) rfl (zLV (ρ 22) rfl (zLE m0 (zLE m1 (zLE m13 (zLE m35 (zIP w_0 ?_)))))))
    refine zLE (show fn114 [] (γ 1) = (0, ρ 37, γ 2) from l0.symm) (zLV (γ 2) rfl (zIP w_1 (zLE m38 (zLE (show fn109 [ρ 38] (γ 2) = (0, 0, γ 3) from l1.symm) (zLV (γ 3) rfl ?_)))))
    rfl
  exact zGoo_aend hJ hD
theorem vn144a0_2 {S : Nat → zSpc} (hS102 : zIm S 102 sn102) (hS109 : zIm S 109 sn109) (hS114 : zIm S 114 sn114) (hS133 : zIm S 133 sn133) (hS141 : zIm S 141 sn141) (hS143 : zIm S 143 sn143) {a : List Int} {g : rHp} : ∀ (ρ : Nat → Int) (γ : Nat → rHp), jn144 a g 0 (zAg (zNA a144_ 0) ρ) (γ 1) → zO 22 S a g q144a0_2 ρ γ → zGl (fun i vs g1 => jn144 a g i vs g1) (sn144 a g) q144a0_2 ρ γ := by
  intro ρ γ hJ h
  obtain ⟨ha, hg, hr, hf, hm, hc, hl⟩ := h
  have ha : a = [ρ 0, ρ 1, ρ 2, ρ 3, ρ 4, ρ 5, ρ 6, ρ 7, ρ 8, ρ 9, ρ 10, ρ 11, ρ 12, ρ 13, ρ 14, ρ 15, ρ 16, ρ 17, ρ 18, ρ 19, ρ 20, ρ 21] := ha
  subst ha
  subst hg
  have hJ : jn144 [ρ 0, ρ 1, ρ 2, ρ 3, ρ 4, ρ 5, ρ 6, ρ 7, ρ 8, ρ 9, ρ 10, ρ 11, ρ 12, ρ 13, ρ 14, ρ 15, ρ 16, ρ 17, ρ 18, ρ 19, ρ 20, ρ 21] (γ 0) 0 [ρ 0, ρ 1, ρ 2, ρ 3, ρ 4, ρ 5, ρ 6, ρ 7, ρ 8, ρ 9, ρ 10, ρ 11, ρ 12, ρ 13, ρ 14, ρ 15, ρ 16, ρ 17, ρ 18, ρ 19, ρ 20, ρ 21, ρ 22, ρ 23, ρ 24, ρ 25, ρ 26, ρ 27, ρ 28, ρ 29, ρ 30, ρ 31, ρ 32, ρ 33, ρ 34, ρ 35, ρ 36] (γ 1) := hJ
  have r22 : (0 : Int) ≤ ρ 22 ∧ ρ 22 ≤ 3 := zRnA hr 22
  have w_0 : ¬ (ρ 22 ≥ 4) := by omega
  have m0 : γ 0 1 0 10 = ρ 0 := zAllA hm 0
  have m1 : γ 0 40 0 (ρ 0) = ρ 1 := zAllA hm 1
  have m13 : γ 0 2 0 5 = ρ 13 := zAllA hm 13
  have m35 : γ 1 10 (9 * ρ 1) 9 = ρ 34 := zAllA hm 35
  have l0 : sn141 [ρ 0, ρ 1, ρ 2, ρ 23, ρ 4, ρ 24, ρ 25, ρ 26, ρ 27, ρ 12, ρ 29, ρ 30, ρ 31, ρ 32, ρ 33, ρ 35, ρ 36] (γ 1) 0 0 (γ 2) := hS141 _ _ _ _ _ (zAllA hl 0)
  show sn144 [ρ 0, ρ 1, ρ 2, ρ 3, ρ 4, ρ 5, ρ 6, ρ 7, ρ 8, ρ 9, ρ 10, ρ 11, ρ 12, ρ 13, ρ 14, ρ 15, ρ 16, ρ 17, ρ 18, ρ 19, ρ 20, ρ 21] (γ 0) 0 0 (γ 2)
  have hD : en144 (γ 0) (0, [ρ 22], γ 1) = .inr (0, 0, γ 2) := by
    unfold en144
    refine zIP (show (0 : Nat) = 0 by decide) (zLV (γ 1) rfl (zLV (ρ 22) rfl (zLE m0 (zLE m1 (zLE m13 (zLE m35 (zIN w_0 ?_)))))))
    refine zLE (show fn141 [] (γ 1) = (0, 0, γ 2) from l0.symm) (zLV (γ 2) rfl (zIN zQ0_ ?_))
    rfl
  exact zGoo_aend hJ hD
theorem vn144a0_3 {S : Nat → zSpc} (hS102 : zIm S 102 sn102) (hS109 : zIm S 109 sn109) (hS114 : zIm S 114 sn114) (hS133 : zIm S 133 sn133) (hS141 : zIm S 141 sn141) (hS143 : zIm S 143 sn143) {a : List Int} {g : rHp} : ∀ (ρ : Nat → Int) (γ : Nat → rHp), jn144 a g 0 (zAg (zNA a144_ 0) ρ) (γ 1) → zO 22 S a g q144a0_3 ρ γ → zGl (fun i vs g1 => jn144 a g i vs g1) (sn144 a g) q144a0_3 ρ γ := by
  intro ρ γ hJ h
  obtain ⟨ha, hg, hr, hf, hm, hc, hl⟩ := h
  have ha : a = [ρ 0, ρ 1, ρ 2, ρ 3, ρ 4, ρ 5, ρ 6, ρ 7, ρ 8, ρ 9, ρ 10, ρ 11, ρ 12, ρ 13, ρ 14, ρ 15, ρ 16, ρ 17, ρ 18, ρ 19, ρ 20, ρ 21] := ha
  subst ha
  subst hg
  have hJ : jn144 [ρ 0, ρ 1, ρ 2, ρ 3, ρ 4, ρ 5, ρ 6, ρ 7, ρ 8, ρ 9, ρ 10, ρ 11, ρ 12, ρ 13, ρ 14, ρ 15, ρ 16, ρ 17, ρ 18, ρ 19, ρ 20, ρ 21] (γ 0) 0 [ρ 0, ρ 1, ρ 2, ρ 3, ρ 4, ρ 5, ρ 6, ρ 7, ρ 8, ρ 9, ρ 10, ρ 11, ρ 12, ρ 13, ρ 14, ρ 15, ρ 16, ρ 17, ρ 18, ρ 19, ρ 20, ρ 21, ρ 22, ρ 23, ρ 24, ρ 25, ρ 26, ρ 27, ρ 28, ρ 29, ρ 30, ρ 31, ρ 32, ρ 33, ρ 34, ρ 35, ρ 36] (γ 1) := hJ
  have r22 : (0 : Int) ≤ ρ 22 ∧ ρ 22 ≤ 3 := zRnA hr 22
  have r34 : (0 : Int) ≤ ρ 34 ∧ ρ 34 ≤ 3 := zRnA hr 34
  obtain ⟨w_0, w_1⟩ : (¬ (ρ 22 ≥ 4)) ∧ (ρ 34 ≥ 0) := ⟨by omega, by omega⟩
  have m0 : γ 0 1 0 10 = ρ 0 := zAllA hm 0
  have m1 : γ 0 40 0 (ρ 0) = ρ 1 := zAllA hm 1
  have m13 : γ 0 2 0 5 = ρ 13 := zAllA hm 13
  have m35 : γ 1 10 (9 * ρ 1) 9 = ρ 34 := zAllA hm 35
  have m50 : γ 3 2 0 6 = ρ 48 := zAllA hm 50
  have l0 : sn141 [ρ 0, ρ 1, ρ 2, ρ 23, ρ 4, ρ 24, ρ 25, ρ 26, ρ 27, ρ 12, ρ 29, ρ 30, ρ 31, ρ 32, ρ 33, ρ 35, ρ 36] (γ 1) 0 1 (γ 2) := hS141 _ _ _ _ _ (zAllA hl 0)
  have l1 : sn114 [ρ 37, ρ 4] (γ 2) 0 (-1) (γ 3) := hS114 _ _ _ _ _ (zAllA hl 1)
  have l2 : sn109 [ρ 48, ρ 12] (γ 3) 0 0 (γ 4) := hS109 _ _ _ _ _ (zAllA hl 2)
  show sn144 [ρ 0, ρ 1, ρ 2, ρ 3, ρ 4, ρ 5, ρ 6, ρ 7, ρ 8, ρ 9, ρ 10, ρ 11, ρ 12, ρ 13, ρ 14, ρ 15, ρ 16, ρ 17, ρ 18, ρ 19, ρ 20, ρ 21] (γ 0) 0 0 (γ 4)
  have hD : en144 (γ 0) (0, [ρ 22], γ 1) = .inr (0, 0, γ 4) := by
    unfold en144
    refine zIP (show (0 : Nat) = 0 by decide) (zLV (γ 1) rfl (zLV (ρ 22) rfl (zLE m0 (zLE m1 (zLE m13 (zLE m35 (zIN w_0 ?_)))))))
    refine zLE (show fn141 [] (γ 1) = (0, 1, γ 2) from l0.symm) (zLV (γ 2) rfl (zIP zQ1_ (zIP w_1 (zLE (show fn114 [] (γ 2) = (0, (-1), γ 3) from l1.symm) (zLV (γ 3) rfl (zIN zQ2_ (zLE m50 ?_)))))))
    refine zLE (show fn109 [ρ 48] (γ 3) = (0, 0, γ 4) from l2.symm) (zLV (γ 4) rfl ?_)
    rfl
  exact zGoo_aend hJ hD
theorem vn144a0_4 {S : Nat → zSpc} (hS102 : zIm S 102 sn102) (hS109 : zIm S 109 sn109) (hS114 : zIm S 114 sn114) (hS133 : zIm S 133 sn133) (hS141 : zIm S 141 sn141) (hS143 : zIm S 143 sn143) {a : List Int} {g : rHp} : ∀ (ρ : Nat → Int) (γ : Nat → rHp), jn144 a g 0 (zAg (zNA a144_ 0) ρ) (γ 1) → zO 22 S a g q144a0_4 ρ γ → zGl (fun i vs g1 => jn144 a g i vs g1) (sn144 a g) q144a0_4 ρ γ := by
  intro ρ γ hJ h
  obtain ⟨ha, hg, hr, hf, hm, hc, hl⟩ := h
  have ha : a = [ρ 0, ρ 1, ρ 2, ρ 3, ρ 4, ρ 5, ρ 6, ρ 7, ρ 8, ρ 9, ρ 10, ρ 11, ρ 12, ρ 13, ρ 14, ρ 15, ρ 16, ρ 17, ρ 18, ρ 19, ρ 20, ρ 21] := ha
  subst ha
  subst hg
  have hJ : jn144 [ρ 0, ρ 1, ρ 2, ρ 3, ρ 4, ρ 5, ρ 6, ρ 7, ρ 8, ρ 9, ρ 10, ρ 11, ρ 12, ρ 13, ρ 14, ρ 15, ρ 16, ρ 17, ρ 18, ρ 19, ρ 20, ρ 21] (γ 0) 0 [ρ 0, ρ 1, ρ 2, ρ 3, ρ 4, ρ 5, ρ 6, ρ 7, ρ 8, ρ 9, ρ 10, ρ 11, ρ 12, ρ 13, ρ 14, ρ 15, ρ 16, ρ 17, ρ 18, ρ 19, ρ 20, ρ 21, ρ 22, ρ 23, ρ 24, ρ 25, ρ 26, ρ 27, ρ 28, ρ 29, ρ 30, ρ 31, ρ 32, ρ 33, ρ 34, ρ 35, ρ 36] (γ 1) := hJ
  have r22 : (0 : Int) ≤ ρ 22 ∧ ρ 22 ≤ 3 := zRnA hr 22
  have r34 : (0 : Int) ≤ ρ 34 ∧ ρ 34 ≤ 3 := zRnA hr 34
  have r48 : (41 : Int) ≤ ρ 48 ∧ ρ 48 ≤ 41 := zRnA hr 48
  obtain ⟨w_0, w_1, w_2, w_3⟩ : (¬ (ρ 22 ≥ 4)) ∧ (ρ 34 ≥ 0) ∧ ((0 : Int) ≤ ρ 48) ∧ (ρ 48 = 41) := ⟨by omega, by omega, by omega, by omega⟩
  have m0 : γ 0 1 0 10 = ρ 0 := zAllA hm 0
  have m1 : γ 0 40 0 (ρ 0) = ρ 1 := zAllA hm 1
  have m13 : γ 0 2 0 5 = ρ 13 := zAllA hm 13
  have m35 : γ 1 10 (9 * ρ 1) 9 = ρ 34 := zAllA hm 35
  have m50 : γ 3 2 0 6 = ρ 49 := zAllA hm 50
  have c4 : γ 4 = rUp (γ 3) 2 0 6 (ρ 49 + 1) := And.right (zChA hc 1)
  have l0 : sn141 [ρ 0, ρ 1, ρ 2, ρ 23, ρ 4, ρ 24, ρ 25, ρ 26, ρ 27, ρ 12, ρ 29, ρ 30, ρ 31, ρ 32, ρ 33, ρ 35, ρ 36] (γ 1) 0 1 (γ 2) := hS141 _ _ _ _ _ (zAllA hl 0)
  have l1 : sn114 [ρ 37, ρ 4] (γ 2) 0 (ρ 48) (γ 3) := hS114 _ _ _ _ _ (zAllA hl 1)
  have l2 : sn133 [ρ 0, ρ 1, ρ 2, ρ 9, ρ 28, ρ 11, ρ 12, ρ 38, ρ 14] (γ 4) 0 0 (γ 5) := hS133 _ _ _ _ _ (zAllA hl 2)
  show sn144 [ρ 0, ρ 1, ρ 2, ρ 3, ρ 4, ρ 5, ρ 6, ρ 7, ρ 8, ρ 9, ρ 10, ρ 11, ρ 12, ρ 13, ρ 14, ρ 15, ρ 16, ρ 17, ρ 18, ρ 19, ρ 20, ρ 21] (γ 0) 0 0 (γ 5)
  have hD : en144 (γ 0) (0, [ρ 22], γ 1) = .inr (0, 0, γ 5) := by
    unfold en144
    refine zIP (show (0 : Nat) = 0 by decide) (zLV (γ 1) rfl (zLV (ρ 22) rfl (zLE m0 (zLE m1 (zLE m13 (zLE m35 (zIN w_0 ?_)))))))
    refine zLE (show fn141 [] (γ 1) = (0, 1, γ 2) from l0.symm) (zLV (γ 2) rfl (zIP zQ1_ (zIP w_1 (zLE (show fn114 [] (γ 2) = (0, ρ 48, γ 3) from l1.symm) (zLV (γ 3) rfl (zIP w_2 (zLV (ρ 48) rfl ?_)))))))
    refine zLE m50 (zIP w_3 (zLE c4.symm (zLE (show fn133 [] (γ 4) = (0, 0, γ 5) from l2.symm) (zLV (γ 5) rfl (zIN zQ0_ ?_)))))
    rfl
  exact zGoo_aend hJ hD
theorem vn144a0_5 {S : Nat → zSpc} (hS102 : zIm S 102 sn102) (hS109 : zIm S 109 sn109) (hS114 : zIm S 114 sn114) (hS133 : zIm S 133 sn133) (hS141 : zIm S 141 sn141) (hS143 : zIm S 143 sn143) {a : List Int} {g : rHp} : ∀ (ρ : Nat → Int) (γ : Nat → rHp), jn144 a g 0 (zAg (zNA a144_ 0) ρ) (γ 1) → zO 22 S a g q144a0_5 ρ γ → zGl (fun i vs g1 => jn144 a g i vs g1) (sn144 a g) q144a0_5 ρ γ := by
  intro ρ γ hJ h
  obtain ⟨ha, hg, hr, hf, hm, hc, hl⟩ := h
  have ha : a = [ρ 0, ρ 1, ρ 2, ρ 3, ρ 4, ρ 5, ρ 6, ρ 7, ρ 8, ρ 9, ρ 10, ρ 11, ρ 12, ρ 13, ρ 14, ρ 15, ρ 16, ρ 17, ρ 18, ρ 19, ρ 20, ρ 21] := ha
  subst ha
  subst hg
  have hJ : jn144 [ρ 0, ρ 1, ρ 2, ρ 3, ρ 4, ρ 5, ρ 6, ρ 7, ρ 8, ρ 9, ρ 10, ρ 11, ρ 12, ρ 13, ρ 14, ρ 15, ρ 16, ρ 17, ρ 18, ρ 19, ρ 20, ρ 21] (γ 0) 0 [ρ 0, ρ 1, ρ 2, ρ 3, ρ 4, ρ 5, ρ 6, ρ 7, ρ 8, ρ 9, ρ 10, ρ 11, ρ 12, ρ 13, ρ 14, ρ 15, ρ 16, ρ 17, ρ 18, ρ 19, ρ 20, ρ 21, ρ 22, ρ 23, ρ 24, ρ 25, ρ 26, ρ 27, ρ 28, ρ 29, ρ 30, ρ 31, ρ 32, ρ 33, ρ 34, ρ 35, ρ 36] (γ 1) := hJ
  have r22 : (0 : Int) ≤ ρ 22 ∧ ρ 22 ≤ 3 := zRnA hr 22
  have r34 : (0 : Int) ≤ ρ 34 ∧ ρ 34 ≤ 3 := zRnA hr 34
  have r48 : (41 : Int) ≤ ρ 48 ∧ ρ 48 ≤ 41 := zRnA hr 48
  obtain ⟨w_0, w_1, w_2, w_3⟩ : (¬ (ρ 22 ≥ 4)) ∧ (ρ 34 ≥ 0) ∧ ((0 : Int) ≤ ρ 48) ∧ (ρ 48 = 41) := ⟨by omega, by omega, by omega, by omega⟩
  have m0 : γ 0 1 0 10 = ρ 0 := zAllA hm 0
  have m1 : γ 0 40 0 (ρ 0) = ρ 1 := zAllA hm 1
  have m13 : γ 0 2 0 5 = ρ 13 := zAllA hm 13
  have m35 : γ 1 10 (9 * ρ 1) 9 = ρ 34 := zAllA hm 35
  have m50 : γ 3 2 0 6 = ρ 49 := zAllA hm 50
  have c4 : γ 4 = rUp (γ 3) 2 0 6 (ρ 49 + 1) := And.right (zChA hc 1)
  have l0 : sn141 [ρ 0, ρ 1, ρ 2, ρ 23, ρ 4, ρ 24, ρ 25, ρ 26, ρ 27, ρ 12, ρ 29, ρ 30, ρ 31, ρ 32, ρ 33, ρ 35, ρ 36] (γ 1) 0 1 (γ 2) := hS141 _ _ _ _ _ (zAllA hl 0)
  have l1 : sn114 [ρ 37, ρ 4] (γ 2) 0 (ρ 48) (γ 3) := hS114 _ _ _ _ _ (zAllA hl 1)
  have l2 : sn133 [ρ 0, ρ 1, ρ 2, ρ 9, ρ 28, ρ 11, ρ 12, ρ 38, ρ 14] (γ 4) 0 1 (γ 5) := hS133 _ _ _ _ _ (zAllA hl 2)
  show sn144 [ρ 0, ρ 1, ρ 2, ρ 3, ρ 4, ρ 5, ρ 6, ρ 7, ρ 8, ρ 9, ρ 10, ρ 11, ρ 12, ρ 13, ρ 14, ρ 15, ρ 16, ρ 17, ρ 18, ρ 19, ρ 20, ρ 21] (γ 0) 0 1 (γ 5)
  have hD : en144 (γ 0) (0, [ρ 22], γ 1) = .inr (0, 1, γ 5) := by
    unfold en144
    refine zIP (show (0 : Nat) = 0 by decide) (zLV (γ 1) rfl (zLV (ρ 22) rfl (zLE m0 (zLE m1 (zLE m13 (zLE m35 (zIN w_0 ?_)))))))
    refine zLE (show fn141 [] (γ 1) = (0, 1, γ 2) from l0.symm) (zLV (γ 2) rfl (zIP zQ1_ (zIP w_1 (zLE (show fn114 [] (γ 2) = (0, ρ 48, γ 3) from l1.symm) (zLV (γ 3) rfl (zIP w_2 (zLV (ρ 48) rfl ?_)))))))
    refine zLE m50 (zIP w_3 (zLE c4.symm (zLE (show fn133 [] (γ 4) = (0, 1, γ 5) from l2.symm) (zLV (γ 5) rfl (zIP zQ1_ ?_)))))
    rfl
  exact zGoo_aend hJ hD
theorem vn144a0_6 {S : Nat → zSpc} (hS102 : zIm S 102 sn102) (hS109 : zIm S 109 sn109) (hS114 : zIm S 114 sn114) (hS133 : zIm S 133 sn133) (hS141 : zIm S 141 sn141) (hS143 : zIm S 143 sn143) {a : List Int} {g : rHp} : ∀ (ρ : Nat → Int) (γ : Nat → rHp), jn144 a g 0 (zAg (zNA a144_ 0) ρ) (γ 1) → zO 22 S a g q144a0_6 ρ γ → zGl (fun i vs g1 => jn144 a g i vs g1) (sn144 a g) q144a0_6 ρ γ := by
  intro ρ γ hJ h
  obtain ⟨ha, hg, hr, hf, hm, hc, hl⟩ := h
  have ha : a = [ρ 0, ρ 1, ρ 2, ρ 3, ρ 4, ρ 5, ρ 6, ρ 7, ρ 8, ρ 9, ρ 10, ρ 11, ρ 12, ρ 13, ρ 14, ρ 15, ρ 16, ρ 17, ρ 18, ρ 19, ρ 20, ρ 21] := ha
  subst ha
  subst hg
  have hJ : jn144 [ρ 0, ρ 1, ρ 2, ρ 3, ρ 4, ρ 5, ρ 6, ρ 7, ρ 8, ρ 9, ρ 10, ρ 11, ρ 12, ρ 13, ρ 14, ρ 15, ρ 16, ρ 17, ρ 18, ρ 19, ρ 20, ρ 21] (γ 0) 0 [ρ 0, ρ 1, ρ 2, ρ 3, ρ 4, ρ 5, ρ 6, ρ 7, ρ 8, ρ 9, ρ 10, ρ 11, ρ 12, ρ 13, ρ 14, ρ 15, ρ 16, ρ 17, ρ 18, ρ 19, ρ 20, ρ 21, ρ 22, ρ 23, ρ 24, ρ 25, ρ 26, ρ 27, ρ 28, ρ 29, ρ 30, ρ 31, ρ 32, ρ 33, ρ 34, ρ 35, ρ 36] (γ 1) := hJ
  have r22 : (0 : Int) ≤ ρ 22 ∧ ρ 22 ≤ 3 := zRnA hr 22
  have r34 : (0 : Int) ≤ ρ 34 ∧ ρ 34 ≤ 3 := zRnA hr 34
  have r48 : (41 : Int) ≤ ρ 48 ∧ ρ 48 ≤ 41 := zRnA hr 48
  obtain ⟨w_0, w_1, w_2, w_3⟩ : (¬ (ρ 22 ≥ 4)) ∧ (ρ 34 ≥ 0) ∧ ((0 : Int) ≤ ρ 48) ∧ (ρ 48 = 41) := ⟨by omega, by omega, by omega, by omega⟩
  have m0 : γ 0 1 0 10 = ρ 0 := zAllA hm 0
  have m1 : γ 0 40 0 (ρ 0) = ρ 1 := zAllA hm 1
  have m13 : γ 0 2 0 5 = ρ 13 := zAllA hm 13
  have m35 : γ 1 10 (9 * ρ 1) 9 = ρ 34 := zAllA hm 35
  have m50 : γ 3 2 0 6 = ρ 49 := zAllA hm 50
  have c4 : γ 4 = rUp (γ 3) 2 0 6 (ρ 49 + 1) := And.right (zChA hc 1)
  have l0 : sn141 [ρ 0, ρ 1, ρ 2, ρ 23, ρ 4, ρ 24, ρ 25, ρ 26, ρ 27, ρ 12, ρ 29, ρ 30, ρ 31, ρ 32, ρ 33, ρ 35, ρ 36] (γ 1) 0 1 (γ 2) := hS141 _ _ _ _ _ (zAllA hl 0)
  have l1 : sn114 [ρ 37, ρ 4] (γ 2) 0 (ρ 48) (γ 3) := hS114 _ _ _ _ _ (zAllA hl 1)
  have l2 : sn133 [ρ 0, ρ 1, ρ 2, ρ 9, ρ 28, ρ 11, ρ 12, ρ 38, ρ 14] (γ 4) 0 1 (γ 5) := hS133 _ _ _ _ _ (zAllA hl 2)
  show sn144 [ρ 0, ρ 1, ρ 2, ρ 3, ρ 4, ρ 5, ρ 6, ρ 7, ρ 8, ρ 9, ρ 10, ρ 11, ρ 12, ρ 13, ρ 14, ρ 15, ρ 16, ρ 17, ρ 18, ρ 19, ρ 20, ρ 21] (γ 0) 0 1 (γ 5)
  have hD : en144 (γ 0) (0, [ρ 22], γ 1) = .inr (0, 1, γ 5) := by
    unfold en144
    refine zIP (show (0 : Nat) = 0 by decide) (zLV (γ 1) rfl (zLV (ρ 22) rfl (zLE m0 (zLE m1 (zLE m13 (zLE m35 (zIN w_0 ?_)))))))
    refine zLE (show fn141 [] (γ 1) = (0, 1, γ 2) from l0.symm) (zLV (γ 2) rfl (zIP zQ1_ (zIP w_1 (zLE (show fn114 [] (γ 2) = (0, ρ 48, γ 3) from l1.symm) (zLV (γ 3) rfl (zIP w_2 (zLV (ρ 48) rfl ?_)))))))
    refine zLE m50 (zIP w_3 (zLE c4.symm (zLE (show fn133 [] (γ 4) = (0, 1, γ 5) from l2.symm) (zLV (γ 5) rfl (zIP zQ1_ ?_)))))
    rfl
  exact zGoo_aend hJ hD
theorem vn144a0_7 {S : Nat → zSpc} (hS102 : zIm S 102 sn102) (hS109 : zIm S 109 sn109) (hS114 : zIm S 114 sn114) (hS133 : zIm S 133 sn133) (hS141 : zIm S 141 sn141) (hS143 : zIm S 143 sn143) {a : List Int} {g : rHp} : ∀ (ρ : Nat → Int) (γ : Nat → rHp), jn144 a g 0 (zAg (zNA a144_ 0) ρ) (γ 1) → zO 22 S a g q144a0_7 ρ γ → zGl (fun i vs g1 => jn144 a g i vs g1) (sn144 a g) q144a0_7 ρ γ := by
  intro ρ γ hJ h
  obtain ⟨ha, hg, hr, hf, hm, hc, hl⟩ := h
  have ha : a = [ρ 0, ρ 1, ρ 2, ρ 3, ρ 4, ρ 5, ρ 6, ρ 7, ρ 8, ρ 9, ρ 10, ρ 11, ρ 12, ρ 13, ρ 14, ρ 15, ρ 16, ρ 17, ρ 18, ρ 19, ρ 20, ρ 21] := ha
  subst ha
  subst hg
  have hJ : jn144 [ρ 0, ρ 1, ρ 2, ρ 3, ρ 4, ρ 5, ρ 6, ρ 7, ρ 8, ρ 9, ρ 10, ρ 11, ρ 12, ρ 13, ρ 14, ρ 15, ρ 16, ρ 17, ρ 18, ρ 19, ρ 20, ρ 21] (γ 0) 0 [ρ 0, ρ 1, ρ 2, ρ 3, ρ 4, ρ 5, ρ 6, ρ 7, ρ 8, ρ 9, ρ 10, ρ 11, ρ 12, ρ 13, ρ 14, ρ 15, ρ 16, ρ 17, ρ 18, ρ 19, ρ 20, ρ 21, ρ 22, ρ 23, ρ 24, ρ 25, ρ 26, ρ 27, ρ 28, ρ 29, ρ 30, ρ 31, ρ 32, ρ 33, ρ 34, ρ 35, ρ 36] (γ 1) := hJ
  have r22 : (0 : Int) ≤ ρ 22 ∧ ρ 22 ≤ 3 := zRnA hr 22
  have r34 : (0 : Int) ≤ ρ 34 ∧ ρ 34 ≤ 3 := zRnA hr 34
  have r48 : (44 : Int) ≤ ρ 48 ∧ ρ 48 ≤ 44 := zRnA hr 48
  obtain ⟨w_0, w_1, w_2, w_3, w_4⟩ : (¬ (ρ 22 ≥ 4)) ∧ (ρ 34 ≥ 0) ∧ ((0 : Int) ≤ ρ 48) ∧ (¬ (ρ 48 = 41)) ∧ (ρ 48 = 44) := ⟨by omega, by omega, by omega, by omega, by omega⟩
  have m0 : γ 0 1 0 10 = ρ 0 := zAllA hm 0
  have m1 : γ 0 40 0 (ρ 0) = ρ 1 := zAllA hm 1
  have m13 : γ 0 2 0 5 = ρ 13 := zAllA hm 13
  have m35 : γ 1 10 (9 * ρ 1) 9 = ρ 34 := zAllA hm 35
  have m50 : γ 3 2 0 6 = ρ 49 := zAllA hm 50
  have c4 : γ 4 = rUp (γ 3) 2 0 6 (ρ 49 + 1) := And.right (zChA hc 0)
  have l0 : sn141 [ρ 0, ρ 1, ρ 2, ρ 23, ρ 4, ρ 24, ρ 25, ρ 26, ρ 27, ρ 12, ρ 29, ρ 30, ρ 31, ρ 32, ρ 33, ρ 35, ρ 36] (γ 1) 0 1 (γ 2) := hS141 _ _ _ _ _ (zAllA hl 0)
  have l1 : sn114 [ρ 37, ρ 4] (γ 2) 0 (ρ 48) (γ 3) := hS114 _ _ _ _ _ (zAllA hl 1)
  have l2 : ρ 48 ≠ 41 := zAllA hl 2
  show jn144 [ρ 0, ρ 1, ρ 2, ρ 3, ρ 4, ρ 5, ρ 6, ρ 7, ρ 8, ρ 9, ρ 10, ρ 11, ρ 12, ρ 13, ρ 14, ρ 15, ρ 16, ρ 17, ρ 18, ρ 19, ρ 20, ρ 21] (γ 0) 0 [ρ 0, ρ 1, ρ 2, ρ 3, ρ 4, ρ 5, ρ 6, ρ 7, ρ 8, ρ 9, ρ 10, ρ 11, ρ 12, ρ 13, ρ 14, ρ 15, ρ 16, ρ 17, ρ 18, ρ 19, ρ 20, ρ 21, ρ 22 + 1, ρ 49 + 1, ρ 38, ρ 39, ρ 40, ρ 27, ρ 28, ρ 41, ρ 42, ρ 43, ρ 44, ρ 45, ρ 34, ρ 46, ρ 47] (γ 4)
  have hD : en144 (γ 0) (0, [ρ 22], γ 1) = .inl (0, [ρ 22 + 1], γ 4) := by
    unfold en144
    refine zIP (show (0 : Nat) = 0 by decide) (zLV (γ 1) rfl (zLV (ρ 22) rfl (zLE m0 (zLE m1 (zLE m13 (zLE m35 (zIN w_0 ?_)))))))
    refine zLE (show fn141 [] (γ 1) = (0, 1, γ 2) from l0.symm) (zLV (γ 2) rfl (zIP zQ1_ (zIP w_1 (zLE (show fn114 [] (γ 2) = (0, ρ 48, γ 3) from l1.symm) (zLV (γ 3) rfl (zIP w_2 (zLV (ρ 48) rfl ?_)))))))
    refine zLE m50 (zIN w_3 (zIP w_4 (zLE c4.symm ?_)))
    rfl
  exact zGoo_ato hJ hD
theorem vn144a0_8 {S : Nat → zSpc} (hS102 : zIm S 102 sn102) (hS109 : zIm S 109 sn109) (hS114 : zIm S 114 sn114) (hS133 : zIm S 133 sn133) (hS141 : zIm S 141 sn141) (hS143 : zIm S 143 sn143) {a : List Int} {g : rHp} : ∀ (ρ : Nat → Int) (γ : Nat → rHp), jn144 a g 0 (zAg (zNA a144_ 0) ρ) (γ 1) → zO 22 S a g q144a0_8 ρ γ → zGl (fun i vs g1 => jn144 a g i vs g1) (sn144 a g) q144a0_8 ρ γ := by
  intro ρ γ hJ h
  obtain ⟨ha, hg, hr, hf, hm, hc, hl⟩ := h
  have ha : a = [ρ 0, ρ 1, ρ 2, ρ 3, ρ 4, ρ 5, ρ 6, ρ 7, ρ 8, ρ 9, ρ 10, ρ 11, ρ 12, ρ 13, ρ 14, ρ 15, ρ 16, ρ 17, ρ 18, ρ 19, ρ 20, ρ 21] := ha
  subst ha
  subst hg
  have hJ : jn144 [ρ 0, ρ 1, ρ 2, ρ 3, ρ 4, ρ 5, ρ 6, ρ 7, ρ 8, ρ 9, ρ 10, ρ 11, ρ 12, ρ 13, ρ 14, ρ 15, ρ 16, ρ 17, ρ 18, ρ 19, ρ 20, ρ 21] (γ 0) 0 [ρ 0, ρ 1, ρ 2, ρ 3, ρ 4, ρ 5, ρ 6, ρ 7, ρ 8, ρ 9, ρ 10, ρ 11, ρ 12, ρ 13, ρ 14, ρ 15, ρ 16, ρ 17, ρ 18, ρ 19, ρ 20, ρ 21, ρ 22, ρ 23, ρ 24, ρ 25, ρ 26, ρ 27, ρ 28, ρ 29, ρ 30, ρ 31, ρ 32, ρ 33, ρ 34, ρ 35, ρ 36] (γ 1) := hJ
  have r22 : (0 : Int) ≤ ρ 22 ∧ ρ 22 ≤ 3 := zRnA hr 22
  have r34 : (0 : Int) ≤ ρ 34 ∧ ρ 34 ≤ 3 := zRnA hr 34
  have r48 : (0 : Int) ≤ ρ 48 ∧ ρ 48 ≤ 255 := zRnA hr 48
  obtain ⟨w_0, w_1, w_2⟩ : (¬ (ρ 22 ≥ 4)) ∧ (ρ 34 ≥ 0) ∧ ((0 : Int) ≤ ρ 48) := ⟨by omega, by omega, by omega⟩
  have m0 : γ 0 1 0 10 = ρ 0 := zAllA hm 0
  have m1 : γ 0 40 0 (ρ 0) = ρ 1 := zAllA hm 1
  have m13 : γ 0 2 0 5 = ρ 13 := zAllA hm 13
  have m35 : γ 1 10 (9 * ρ 1) 9 = ρ 34 := zAllA hm 35
  have m50 : γ 3 2 0 6 = ρ 49 := zAllA hm 50
  have l0 : sn141 [ρ 0, ρ 1, ρ 2, ρ 23, ρ 4, ρ 24, ρ 25, ρ 26, ρ 27, ρ 12, ρ 29, ρ 30, ρ 31, ρ 32, ρ 33, ρ 35, ρ 36] (γ 1) 0 1 (γ 2) := hS141 _ _ _ _ _ (zAllA hl 0)
  have l1 : sn114 [ρ 37, ρ 4] (γ 2) 0 (ρ 48) (γ 3) := hS114 _ _ _ _ _ (zAllA hl 1)
  have l2 : ρ 48 ≠ 41 := zAllA hl 2
  have l3 : ρ 48 ≠ 44 := zAllA hl 3
  have l4 : sn109 [ρ 49, ρ 12] (γ 3) 0 0 (γ 4) := hS109 _ _ _ _ _ (zAllA hl 4)
  obtain ⟨wl_0, wl_1⟩ : (¬ (ρ 48 = 41)) ∧ (¬ (ρ 48 = 44)) := ⟨by omega, by omega⟩
  show sn144 [ρ 0, ρ 1, ρ 2, ρ 3, ρ 4, ρ 5, ρ 6, ρ 7, ρ 8, ρ 9, ρ 10, ρ 11, ρ 12, ρ 13, ρ 14, ρ 15, ρ 16, ρ 17, ρ 18, ρ 19, ρ 20, ρ 21] (γ 0) 0 0 (γ 4)
  have hD : en144 (γ 0) (0, [ρ 22], γ 1) = .inr (0, 0, γ 4) := by
    unfold en144
    refine zIP (show (0 : Nat) = 0 by decide) (zLV (γ 1) rfl (zLV (ρ 22) rfl (zLE m0 (zLE m1 (zLE m13 (zLE m35 (zIN w_0 ?_)))))))
    refine zLE (show fn141 [] (γ 1) = (0, 1, γ 2) from l0.symm) (zLV (γ 2) rfl (zIP zQ1_ (zIP w_1 (zLE (show fn114 [] (γ 2) = (0, ρ 48, γ 3) from l1.symm) (zLV (γ 3) rfl (zIP w_2 (zLV (ρ 48) rfl ?_)))))))
    refine zLE m50 (zIN wl_0 (zIN wl_1 (zLE (show fn109 [ρ 49] (γ 3) = (0, 0, γ 4) from l4.symm) (zLV (γ 4) rfl ?_))))
    rfl
  exact zGoo_aend hJ hD
theorem vn144a0_9 {S : Nat → zSpc} (hS102 : zIm S 102 sn102) (hS109 : zIm S 109 sn109) (hS114 : zIm S 114 sn114) (hS133 : zIm S 133 sn133) (hS141 : zIm S 141 sn141) (hS143 : zIm S 143 sn143) {a : List Int} {g : rHp} : ∀ (ρ : Nat → Int) (γ : Nat → rHp), jn144 a g 0 (zAg (zNA a144_ 0) ρ) (γ 1) → zO 22 S a g q144a0_9 ρ γ → zGl (fun i vs g1 => jn144 a g i vs g1) (sn144 a g) q144a0_9 ρ γ := by
  intro ρ γ hJ h
  obtain ⟨ha, hg, hr, hf, hm, hc, hl⟩ := h
  have ha : a = [ρ 0, ρ 1, ρ 2, ρ 3, ρ 4, ρ 5, ρ 6, ρ 7, ρ 8, ρ 9, ρ 10, ρ 11, ρ 12, ρ 13, ρ 14, ρ 15, ρ 16, ρ 17, ρ 18, ρ 19, ρ 20, ρ 21] := ha
  subst ha
  subst hg
  have hJ : jn144 [ρ 0, ρ 1, ρ 2, ρ 3, ρ 4, ρ 5, ρ 6, ρ 7, ρ 8, ρ 9, ρ 10, ρ 11, ρ 12, ρ 13, ρ 14, ρ 15, ρ 16, ρ 17, ρ 18, ρ 19, ρ 20, ρ 21] (γ 0) 0 [ρ 0, ρ 1, ρ 2, ρ 3, ρ 4, ρ 5, ρ 6, ρ 7, ρ 8, ρ 9, ρ 10, ρ 11, ρ 12, ρ 13, ρ 14, ρ 15, ρ 16, ρ 17, ρ 18, ρ 19, ρ 20, ρ 21, ρ 22, ρ 23, ρ 24, ρ 25, ρ 26, ρ 27, ρ 28, ρ 29, ρ 30, ρ 31, ρ 32, ρ 33, ρ 34, ρ 35, ρ 36] (γ 1) := hJ
  have r22 : (0 : Int) ≤ ρ 22 ∧ ρ 22 ≤ 3 := zRnA hr 22
  have r34 : ((-1) : Int) ≤ ρ 34 ∧ ρ 34 ≤ (-1) := zRnA hr 34
  obtain ⟨w_0, w_1⟩ : (¬ (ρ 22 ≥ 4)) ∧ (¬ (ρ 34 ≥ 0)) := ⟨by omega, by omega⟩
  have m0 : γ 0 1 0 10 = ρ 0 := zAllA hm 0
  have m1 : γ 0 40 0 (ρ 0) = ρ 1 := zAllA hm 1
  have m13 : γ 0 2 0 5 = ρ 13 := zAllA hm 13
  have m35 : γ 1 10 (9 * ρ 1) 9 = ρ 34 := zAllA hm 35
  have m50 : γ 4 2 0 6 = ρ 48 := zAllA hm 50
  have l0 : sn141 [ρ 0, ρ 1, ρ 2, ρ 23, ρ 4, ρ 24, ρ 25, ρ 26, ρ 27, ρ 12, ρ 29, ρ 30, ρ 31, ρ 32, ρ 33, ρ 35, ρ 36] (γ 1) 0 1 (γ 2) := hS141 _ _ _ _ _ (zAllA hl 0)
  have l1 : sn143 [9 * ρ 1, ρ 22, ρ 13] (γ 2) 0 0 (γ 3) := hS143 _ _ _ _ _ (zAllA hl 1)
  have l2 : sn114 [ρ 37, ρ 4] (γ 3) 0 (-1) (γ 4) := hS114 _ _ _ _ _ (zAllA hl 2)
  have l3 : sn109 [ρ 48, ρ 12] (γ 4) 0 0 (γ 5) := hS109 _ _ _ _ _ (zAllA hl 3)
  show sn144 [ρ 0, ρ 1, ρ 2, ρ 3, ρ 4, ρ 5, ρ 6, ρ 7, ρ 8, ρ 9, ρ 10, ρ 11, ρ 12, ρ 13, ρ 14, ρ 15, ρ 16, ρ 17, ρ 18, ρ 19, ρ 20, ρ 21] (γ 0) 0 0 (γ 5)
  have hD : en144 (γ 0) (0, [ρ 22], γ 1) = .inr (0, 0, γ 5) := by
    unfold en144
    refine zIP (show (0 : Nat) = 0 by decide) (zLV (γ 1) rfl (zLV (ρ 22) rfl (zLE m0 (zLE m1 (zLE m13 (zLE m35 (zIN w_0 ?_)))))))
    refine zLE (show fn141 [] (γ 1) = (0, 1, γ 2) from l0.symm) (zLV (γ 2) rfl (zIP zQ1_ (zIN w_1 (zLE (show fn143 [9 * ρ 1, ρ 22, ρ 13] (γ 2) = (0, 0, γ 3) from l1.symm) (zLV (γ 3) rfl (zIN zQ0_ (zLE (show fn114 [] (γ 3) = (0, (-1), γ 4) from l2.symm) ?_)))))))
    refine zLV (γ 4) rfl (zIN zQ2_ (zLE m50 (zLE (show fn109 [ρ 48] (γ 4) = (0, 0, γ 5) from l3.symm) (zLV (γ 5) rfl ?_))))
    rfl
  exact zGoo_aend hJ hD
theorem vn144a0_10 {S : Nat → zSpc} (hS102 : zIm S 102 sn102) (hS109 : zIm S 109 sn109) (hS114 : zIm S 114 sn114) (hS133 : zIm S 133 sn133) (hS141 : zIm S 141 sn141) (hS143 : zIm S 143 sn143) {a : List Int} {g : rHp} : ∀ (ρ : Nat → Int) (γ : Nat → rHp), jn144 a g 0 (zAg (zNA a144_ 0) ρ) (γ 1) → zO 22 S a g q144a0_10 ρ γ → zGl (fun i vs g1 => jn144 a g i vs g1) (sn144 a g) q144a0_10 ρ γ := by
  intro ρ γ hJ h
  obtain ⟨ha, hg, hr, hf, hm, hc, hl⟩ := h
  have ha : a = [ρ 0, ρ 1, ρ 2, ρ 3, ρ 4, ρ 5, ρ 6, ρ 7, ρ 8, ρ 9, ρ 10, ρ 11, ρ 12, ρ 13, ρ 14, ρ 15, ρ 16, ρ 17, ρ 18, ρ 19, ρ 20, ρ 21] := ha
  subst ha
  subst hg
  have hJ : jn144 [ρ 0, ρ 1, ρ 2, ρ 3, ρ 4, ρ 5, ρ 6, ρ 7, ρ 8, ρ 9, ρ 10, ρ 11, ρ 12, ρ 13, ρ 14, ρ 15, ρ 16, ρ 17, ρ 18, ρ 19, ρ 20, ρ 21] (γ 0) 0 [ρ 0, ρ 1, ρ 2, ρ 3, ρ 4, ρ 5, ρ 6, ρ 7, ρ 8, ρ 9, ρ 10, ρ 11, ρ 12, ρ 13, ρ 14, ρ 15, ρ 16, ρ 17, ρ 18, ρ 19, ρ 20, ρ 21, ρ 22, ρ 23, ρ 24, ρ 25, ρ 26, ρ 27, ρ 28, ρ 29, ρ 30, ρ 31, ρ 32, ρ 33, ρ 34, ρ 35, ρ 36] (γ 1) := hJ
  have r22 : (0 : Int) ≤ ρ 22 ∧ ρ 22 ≤ 3 := zRnA hr 22
  have r34 : ((-1) : Int) ≤ ρ 34 ∧ ρ 34 ≤ (-1) := zRnA hr 34
  have r48 : (41 : Int) ≤ ρ 48 ∧ ρ 48 ≤ 41 := zRnA hr 48
  obtain ⟨w_0, w_1, w_2, w_3⟩ : (¬ (ρ 22 ≥ 4)) ∧ (¬ (ρ 34 ≥ 0)) ∧ ((0 : Int) ≤ ρ 48) ∧ (ρ 48 = 41) := ⟨by omega, by omega, by omega, by omega⟩
  have m0 : γ 0 1 0 10 = ρ 0 := zAllA hm 0
  have m1 : γ 0 40 0 (ρ 0) = ρ 1 := zAllA hm 1
  have m13 : γ 0 2 0 5 = ρ 13 := zAllA hm 13
  have m35 : γ 1 10 (9 * ρ 1) 9 = ρ 34 := zAllA hm 35
  have m50 : γ 4 2 0 6 = ρ 49 := zAllA hm 50
  have c5 : γ 5 = rUp (γ 4) 2 0 6 (ρ 49 + 1) := And.right (zChA hc 1)
  have l0 : sn141 [ρ 0, ρ 1, ρ 2, ρ 23, ρ 4, ρ 24, ρ 25, ρ 26, ρ 27, ρ 12, ρ 29, ρ 30, ρ 31, ρ 32, ρ 33, ρ 35, ρ 36] (γ 1) 0 1 (γ 2) := hS141 _ _ _ _ _ (zAllA hl 0)
  have l1 : sn143 [9 * ρ 1, ρ 22, ρ 13] (γ 2) 0 0 (γ 3) := hS143 _ _ _ _ _ (zAllA hl 1)
  have l2 : sn114 [ρ 37, ρ 4] (γ 3) 0 (ρ 48) (γ 4) := hS114 _ _ _ _ _ (zAllA hl 2)
  have l3 : sn133 [ρ 0, ρ 1, ρ 2, ρ 9, ρ 28, ρ 11, ρ 12, ρ 38, ρ 14] (γ 5) 0 0 (γ 6) := hS133 _ _ _ _ _ (zAllA hl 3)
  show sn144 [ρ 0, ρ 1, ρ 2, ρ 3, ρ 4, ρ 5, ρ 6, ρ 7, ρ 8, ρ 9, ρ 10, ρ 11, ρ 12, ρ 13, ρ 14, ρ 15, ρ 16, ρ 17, ρ 18, ρ 19, ρ 20, ρ 21] (γ 0) 0 0 (γ 6)
  have hD : en144 (γ 0) (0, [ρ 22], γ 1) = .inr (0, 0, γ 6) := by
    unfold en144
    refine zIP (show (0 : Nat) = 0 by decide) (zLV (γ 1) rfl (zLV (ρ 22) rfl (zLE m0 (zLE m1 (zLE m13 (zLE m35 (zIN w_0 ?_)))))))
    refine zLE (show fn141 [] (γ 1) = (0, 1, γ 2) from l0.symm) (zLV (γ 2) rfl (zIP zQ1_ (zIN w_1 (zLE (show fn143 [9 * ρ 1, ρ 22, ρ 13] (γ 2) = (0, 0, γ 3) from l1.symm) (zLV (γ 3) rfl (zIN zQ0_ (zLE (show fn114 [] (γ 3) = (0, ρ 48, γ 4) from l2.symm) ?_)))))))
    refine zLV (γ 4) rfl (zIP w_2 (zLV (ρ 48) rfl (zLE m50 (zIP w_3 (zLE c5.symm (zLE (show fn133 [] (γ 5) = (0, 0, γ 6) from l3.symm) (zLV (γ 6) rfl ?_)))))))
    refine zIN zQ0_ ?_
    rfl
  exact zGoo_aend hJ hD
theorem vn144a0_11 {S : Nat → zSpc} (hS102 : zIm S 102 sn102) (hS109 : zIm S 109 sn109) (hS114 : zIm S 114 sn114) (hS133 : zIm S 133 sn133) (hS141 : zIm S 141 sn141) (hS143 : zIm S 143 sn143) {a : List Int} {g : rHp} : ∀ (ρ : Nat → Int) (γ : Nat → rHp), jn144 a g 0 (zAg (zNA a144_ 0) ρ) (γ 1) → zO 22 S a g q144a0_11 ρ γ → zGl (fun i vs g1 => jn144 a g i vs g1) (sn144 a g) q144a0_11 ρ γ := by
  intro ρ γ hJ h
  obtain ⟨ha, hg, hr, hf, hm, hc, hl⟩ := h
  have ha : a = [ρ 0, ρ 1, ρ 2, ρ 3, ρ 4, ρ 5, ρ 6, ρ 7, ρ 8, ρ 9, ρ 10, ρ 11, ρ 12, ρ 13, ρ 14, ρ 15, ρ 16, ρ 17, ρ 18, ρ 19, ρ 20, ρ 21] := ha
  subst ha
  subst hg
  have hJ : jn144 [ρ 0, ρ 1, ρ 2, ρ 3, ρ 4, ρ 5, ρ 6, ρ 7, ρ 8, ρ 9, ρ 10, ρ 11, ρ 12, ρ 13, ρ 14, ρ 15, ρ 16, ρ 17, ρ 18, ρ 19, ρ 20, ρ 21] (γ 0) 0 [ρ 0, ρ 1, ρ 2, ρ 3, ρ 4, ρ 5, ρ 6, ρ 7, ρ 8, ρ 9, ρ 10, ρ 11, ρ 12, ρ 13, ρ 14, ρ 15, ρ 16, ρ 17, ρ 18, ρ 19, ρ 20, ρ 21, ρ 22, ρ 23, ρ 24, ρ 25, ρ 26, ρ 27, ρ 28, ρ 29, ρ 30, ρ 31, ρ 32, ρ 33, ρ 34, ρ 35, ρ 36] (γ 1) := hJ
  have r22 : (0 : Int) ≤ ρ 22 ∧ ρ 22 ≤ 3 := zRnA hr 22
  have r34 : ((-1) : Int) ≤ ρ 34 ∧ ρ 34 ≤ (-1) := zRnA hr 34
  have r48 : (41 : Int) ≤ ρ 48 ∧ ρ 48 ≤ 41 := zRnA hr 48
  obtain ⟨w_0, w_1, w_2, w_3⟩ : (¬ (ρ 22 ≥ 4)) ∧ (¬ (ρ 34 ≥ 0)) ∧ ((0 : Int) ≤ ρ 48) ∧ (ρ 48 = 41) := ⟨by omega, by omega, by omega, by omega⟩
  have m0 : γ 0 1 0 10 = ρ 0 := zAllA hm 0
  have m1 : γ 0 40 0 (ρ 0) = ρ 1 := zAllA hm 1
  have m13 : γ 0 2 0 5 = ρ 13 := zAllA hm 13
  have m35 : γ 1 10 (9 * ρ 1) 9 = ρ 34 := zAllA hm 35
  have m50 : γ 4 2 0 6 = ρ 49 := zAllA hm 50
  have c5 : γ 5 = rUp (γ 4) 2 0 6 (ρ 49 + 1) := And.right (zChA hc 1)
  have l0 : sn141 [ρ 0, ρ 1, ρ 2, ρ 23, ρ 4, ρ 24, ρ 25, ρ 26, ρ 27, ρ 12, ρ 29, ρ 30, ρ 31, ρ 32, ρ 33, ρ 35, ρ 36] (γ 1) 0 1 (γ 2) := hS141 _ _ _ _ _ (zAllA hl 0)
  have l1 : sn143 [9 * ρ 1, ρ 22, ρ 13] (γ 2) 0 0 (γ 3) := hS143 _ _ _ _ _ (zAllA hl 1)
  have l2 : sn114 [ρ 37, ρ 4] (γ 3) 0 (ρ 48) (γ 4) := hS114 _ _ _ _ _ (zAllA hl 2)
  have l3 : sn133 [ρ 0, ρ 1, ρ 2, ρ 9, ρ 28, ρ 11, ρ 12, ρ 38, ρ 14] (γ 5) 0 1 (γ 6) := hS133 _ _ _ _ _ (zAllA hl 3)
  show sn144 [ρ 0, ρ 1, ρ 2, ρ 3, ρ 4, ρ 5, ρ 6, ρ 7, ρ 8, ρ 9, ρ 10, ρ 11, ρ 12, ρ 13, ρ 14, ρ 15, ρ 16, ρ 17, ρ 18, ρ 19, ρ 20, ρ 21] (γ 0) 0 1 (γ 6)
  have hD : en144 (γ 0) (0, [ρ 22], γ 1) = .inr (0, 1, γ 6) := by
    unfold en144
    refine zIP (show (0 : Nat) = 0 by decide) (zLV (γ 1) rfl (zLV (ρ 22) rfl (zLE m0 (zLE m1 (zLE m13 (zLE m35 (zIN w_0 ?_)))))))
    refine zLE (show fn141 [] (γ 1) = (0, 1, γ 2) from l0.symm) (zLV (γ 2) rfl (zIP zQ1_ (zIN w_1 (zLE (show fn143 [9 * ρ 1, ρ 22, ρ 13] (γ 2) = (0, 0, γ 3) from l1.symm) (zLV (γ 3) rfl (zIN zQ0_ (zLE (show fn114 [] (γ 3) = (0, ρ 48, γ 4) from l2.symm) ?_)))))))
    refine zLV (γ 4) rfl (zIP w_2 (zLV (ρ 48) rfl (zLE m50 (zIP w_3 (zLE c5.symm (zLE (show fn133 [] (γ 5) = (0, 1, γ 6) from l3.symm) (zLV (γ 6) rfl ?_)))))))
    refine zIP zQ1_ ?_
    rfl
  exact zGoo_aend hJ hD
theorem vn144a0_12 {S : Nat → zSpc} (hS102 : zIm S 102 sn102) (hS109 : zIm S 109 sn109) (hS114 : zIm S 114 sn114) (hS133 : zIm S 133 sn133) (hS141 : zIm S 141 sn141) (hS143 : zIm S 143 sn143) {a : List Int} {g : rHp} : ∀ (ρ : Nat → Int) (γ : Nat → rHp), jn144 a g 0 (zAg (zNA a144_ 0) ρ) (γ 1) → zO 22 S a g q144a0_12 ρ γ → zGl (fun i vs g1 => jn144 a g i vs g1) (sn144 a g) q144a0_12 ρ γ := by
  intro ρ γ hJ h
  obtain ⟨ha, hg, hr, hf, hm, hc, hl⟩ := h
  have ha : a = [ρ 0, ρ 1, ρ 2, ρ 3, ρ 4, ρ 5, ρ 6, ρ 7, ρ 8, ρ 9, ρ 10, ρ 11, ρ 12, ρ 13, ρ 14, ρ 15, ρ 16, ρ 17, ρ 18, ρ 19, ρ 20, ρ 21] := ha
  subst ha
  subst hg
  have hJ : jn144 [ρ 0, ρ 1, ρ 2, ρ 3, ρ 4, ρ 5, ρ 6, ρ 7, ρ 8, ρ 9, ρ 10, ρ 11, ρ 12, ρ 13, ρ 14, ρ 15, ρ 16, ρ 17, ρ 18, ρ 19, ρ 20, ρ 21] (γ 0) 0 [ρ 0, ρ 1, ρ 2, ρ 3, ρ 4, ρ 5, ρ 6, ρ 7, ρ 8, ρ 9, ρ 10, ρ 11, ρ 12, ρ 13, ρ 14, ρ 15, ρ 16, ρ 17, ρ 18, ρ 19, ρ 20, ρ 21, ρ 22, ρ 23, ρ 24, ρ 25, ρ 26, ρ 27, ρ 28, ρ 29, ρ 30, ρ 31, ρ 32, ρ 33, ρ 34, ρ 35, ρ 36] (γ 1) := hJ
  have r22 : (0 : Int) ≤ ρ 22 ∧ ρ 22 ≤ 3 := zRnA hr 22
  have r34 : ((-1) : Int) ≤ ρ 34 ∧ ρ 34 ≤ (-1) := zRnA hr 34
  have r48 : (41 : Int) ≤ ρ 48 ∧ ρ 48 ≤ 41 := zRnA hr 48
  obtain ⟨w_0, w_1, w_2, w_3⟩ : (¬ (ρ 22 ≥ 4)) ∧ (¬ (ρ 34 ≥ 0)) ∧ ((0 : Int) ≤ ρ 48) ∧ (ρ 48 = 41) := ⟨by omega, by omega, by omega, by omega⟩
  have m0 : γ 0 1 0 10 = ρ 0 := zAllA hm 0
  have m1 : γ 0 40 0 (ρ 0) = ρ 1 := zAllA hm 1
  have m13 : γ 0 2 0 5 = ρ 13 := zAllA hm 13
  have m35 : γ 1 10 (9 * ρ 1) 9 = ρ 34 := zAllA hm 35
  have m50 : γ 4 2 0 6 = ρ 49 := zAllA hm 50
  have c5 : γ 5 = rUp (γ 4) 2 0 6 (ρ 49 + 1) := And.right (zChA hc 1)
  have l0 : sn141 [ρ 0, ρ 1, ρ 2, ρ 23, ρ 4, ρ 24, ρ 25, ρ 26, ρ 27, ρ 12, ρ 29, ρ 30, ρ 31, ρ 32, ρ 33, ρ 35, ρ 36] (γ 1) 0 1 (γ 2) := hS141 _ _ _ _ _ (zAllA hl 0)
  have l1 : sn143 [9 * ρ 1, ρ 22, ρ 13] (γ 2) 0 0 (γ 3) := hS143 _ _ _ _ _ (zAllA hl 1)
  have l2 : sn114 [ρ 37, ρ 4] (γ 3) 0 (ρ 48) (γ 4) := hS114 _ _ _ _ _ (zAllA hl 2)
  have l3 : sn133 [ρ 0, ρ 1, ρ 2, ρ 9, ρ 28, ρ 11, ρ 12, ρ 38, ρ 14] (γ 5) 0 1 (γ 6) := hS133 _ _ _ _ _ (zAllA hl 3)
  show sn144 [ρ 0, ρ 1, ρ 2, ρ 3, ρ 4, ρ 5, ρ 6, ρ 7, ρ 8, ρ 9, ρ 10, ρ 11, ρ 12, ρ 13, ρ 14, ρ 15, ρ 16, ρ 17, ρ 18, ρ 19, ρ 20, ρ 21] (γ 0) 0 1 (γ 6)
  have hD : en144 (γ 0) (0, [ρ 22], γ 1) = .inr (0, 1, γ 6) := by
    unfold en144
    refine zIP (show (0 : Nat) = 0 by decide) (zLV (γ 1) rfl (zLV (ρ 22) rfl (zLE m0 (zLE m1 (zLE m13 (zLE m35 (zIN w_0 ?_)))))))
    refine zLE (show fn141 [] (γ 1) = (0, 1, γ 2) from l0.symm) (zLV (γ 2) rfl (zIP zQ1_ (zIN w_1 (zLE (show fn143 [9 * ρ 1, ρ 22, ρ 13] (γ 2) = (0, 0, γ 3) from l1.symm) (zLV (γ 3) rfl (zIN zQ0_ (zLE (show fn114 [] (γ 3) = (0, ρ 48, γ 4) from l2.symm) ?_)))))))
    refine zLV (γ 4) rfl (zIP w_2 (zLV (ρ 48) rfl (zLE m50 (zIP w_3 (zLE c5.symm (zLE (show fn133 [] (γ 5) = (0, 1, γ 6) from l3.symm) (zLV (γ 6) rfl ?_)))))))
    refine zIP zQ1_ ?_
    rfl
  exact zGoo_aend hJ hD
theorem vn144a0_13 {S : Nat → zSpc} (hS102 : zIm S 102 sn102) (hS109 : zIm S 109 sn109) (hS114 : zIm S 114 sn114) (hS133 : zIm S 133 sn133) (hS141 : zIm S 141 sn141) (hS143 : zIm S 143 sn143) {a : List Int} {g : rHp} : ∀ (ρ : Nat → Int) (γ : Nat → rHp), jn144 a g 0 (zAg (zNA a144_ 0) ρ) (γ 1) → zO 22 S a g q144a0_13 ρ γ → zGl (fun i vs g1 => jn144 a g i vs g1) (sn144 a g) q144a0_13 ρ γ := by
  intro ρ γ hJ h
  obtain ⟨ha, hg, hr, hf, hm, hc, hl⟩ := h
  have ha : a = [ρ 0, ρ 1, ρ 2, ρ 3, ρ 4, ρ 5, ρ 6, ρ 7, ρ 8, ρ 9, ρ 10, ρ 11, ρ 12, ρ 13, ρ 14, ρ 15, ρ 16, ρ 17, ρ 18, ρ 19, ρ 20, ρ 21] := ha
  subst ha
  subst hg
  have hJ : jn144 [ρ 0, ρ 1, ρ 2, ρ 3, ρ 4, ρ 5, ρ 6, ρ 7, ρ 8, ρ 9, ρ 10, ρ 11, ρ 12, ρ 13, ρ 14, ρ 15, ρ 16, ρ 17, ρ 18, ρ 19, ρ 20, ρ 21] (γ 0) 0 [ρ 0, ρ 1, ρ 2, ρ 3, ρ 4, ρ 5, ρ 6, ρ 7, ρ 8, ρ 9, ρ 10, ρ 11, ρ 12, ρ 13, ρ 14, ρ 15, ρ 16, ρ 17, ρ 18, ρ 19, ρ 20, ρ 21, ρ 22, ρ 23, ρ 24, ρ 25, ρ 26, ρ 27, ρ 28, ρ 29, ρ 30, ρ 31, ρ 32, ρ 33, ρ 34, ρ 35, ρ 36] (γ 1) := hJ
  have r22 : (0 : Int) ≤ ρ 22 ∧ ρ 22 ≤ 3 := zRnA hr 22
  have r34 : ((-1) : Int) ≤ ρ 34 ∧ ρ 34 ≤ (-1) := zRnA hr 34
  have r48 : (44 : Int) ≤ ρ 48 ∧ ρ 48 ≤ 44 := zRnA hr 48
  obtain ⟨w_0, w_1, w_2, w_3, w_4⟩ : (¬ (ρ 22 ≥ 4)) ∧ (¬ (ρ 34 ≥ 0)) ∧ ((0 : Int) ≤ ρ 48) ∧ (¬ (ρ 48 = 41)) ∧ (ρ 48 = 44) := ⟨by omega, by omega, by omega, by omega, by omega⟩
  have m0 : γ 0 1 0 10 = ρ 0 := zAllA hm 0
  have m1 : γ 0 40 0 (ρ 0) = ρ 1 := zAllA hm 1
  have m13 : γ 0 2 0 5 = ρ 13 := zAllA hm 13
  have m35 : γ 1 10 (9 * ρ 1) 9 = ρ 34 := zAllA hm 35
  have m50 : γ 4 2 0 6 = ρ 49 := zAllA hm 50
  have c5 : γ 5 = rUp (γ 4) 2 0 6 (ρ 49 + 1) := And.right (zChA hc 0)
  have l0 : sn141 [ρ 0, ρ 1, ρ 2, ρ 23, ρ 4, ρ 24, ρ 25, ρ 26, ρ 27, ρ 12, ρ 29, ρ 30, ρ 31, ρ 32, ρ 33, ρ 35, ρ 36] (γ 1) 0 1 (γ 2) := hS141 _ _ _ _ _ (zAllA hl 0)
  have l1 : sn143 [9 * ρ 1, ρ 22, ρ 13] (γ 2) 0 0 (γ 3) := hS143 _ _ _ _ _ (zAllA hl 1)
  have l2 : sn114 [ρ 37, ρ 4] (γ 3) 0 (ρ 48) (γ 4) := hS114 _ _ _ _ _ (zAllA hl 2)
  have l3 : ρ 48 ≠ 41 := zAllA hl 3
  show jn144 [ρ 0, ρ 1, ρ 2, ρ 3, ρ 4, ρ 5, ρ 6, ρ 7, ρ 8, ρ 9, ρ 10, ρ 11, ρ 12, ρ 13, ρ 14, ρ 15, ρ 16, ρ 17, ρ 18, ρ 19, ρ 20, ρ 21] (γ 0) 0 [ρ 0, ρ 1, ρ 2, ρ 3, ρ 4, ρ 5, ρ 6, ρ 7, ρ 8, ρ 9, ρ 10, ρ 11, ρ 12, ρ 13, ρ 14, ρ 15, ρ 16, ρ 17, ρ 18, ρ 19, ρ 20, ρ 21, ρ 22 + 1, ρ 49 + 1, ρ 38, ρ 39, ρ 40, ρ 27, ρ 28, ρ 41, ρ 42, ρ 43, ρ 44, ρ 45, ρ 34, ρ 46, ρ 47] (γ 5)
  have hD : en144 (γ 0) (0, [ρ 22], γ 1) = .inl (0, [ρ 22 + 1], γ 5) := by
    unfold en144
    refine zIP (show (0 : Nat) = 0 by decide) (zLV (γ 1) rfl (zLV (ρ 22) rfl (zLE m0 (zLE m1 (zLE m13 (zLE m35 (zIN w_0 ?_)))))))
    refine zLE (show fn141 [] (γ 1) = (0, 1, γ 2) from l0.symm) (zLV (γ 2) rfl (zIP zQ1_ (zIN w_1 (zLE (show fn143 [9 * ρ 1, ρ 22, ρ 13] (γ 2) = (0, 0, γ 3) from l1.symm) (zLV (γ 3) rfl (zIN zQ0_ (zLE (show fn114 [] (γ 3) = (0, ρ 48, γ 4) from l2.symm) ?_)))))))
    refine zLV (γ 4) rfl (zIP w_2 (zLV (ρ 48) rfl (zLE m50 (zIN w_3 (zIP w_4 (zLE c5.symm ?_))))))
    rfl
  exact zGoo_ato hJ hD
theorem vn144a0_14 {S : Nat → zSpc} (hS102 : zIm S 102 sn102) (hS109 : zIm S 109 sn109) (hS114 : zIm S 114 sn114) (hS133 : zIm S 133 sn133) (hS141 : zIm S 141 sn141) (hS143 : zIm S 143 sn143) {a : List Int} {g : rHp} : ∀ (ρ : Nat → Int) (γ : Nat → rHp), jn144 a g 0 (zAg (zNA a144_ 0) ρ) (γ 1) → zO 22 S a g q144a0_14 ρ γ → zGl (fun i vs g1 => jn144 a g i vs g1) (sn144 a g) q144a0_14 ρ γ := by
  intro ρ γ hJ h
  obtain ⟨ha, hg, hr, hf, hm, hc, hl⟩ := h
  have ha : a = [ρ 0, ρ 1, ρ 2, ρ 3, ρ 4, ρ 5, ρ 6, ρ 7, ρ 8, ρ 9, ρ 10, ρ 11, ρ 12, ρ 13, ρ 14, ρ 15, ρ 16, ρ 17, ρ 18, ρ 19, ρ 20, ρ 21] := ha
  subst ha
  subst hg
  have hJ : jn144 [ρ 0, ρ 1, ρ 2, ρ 3, ρ 4, ρ 5, ρ 6, ρ 7, ρ 8, ρ 9, ρ 10, ρ 11, ρ 12, ρ 13, ρ 14, ρ 15, ρ 16, ρ 17, ρ 18, ρ 19, ρ 20, ρ 21] (γ 0) 0 [ρ 0, ρ 1, ρ 2, ρ 3, ρ 4, ρ 5, ρ 6, ρ 7, ρ 8, ρ 9, ρ 10, ρ 11, ρ 12, ρ 13, ρ 14, ρ 15, ρ 16, ρ 17, ρ 18, ρ 19, ρ 20, ρ 21, ρ 22, ρ 23, ρ 24, ρ 25, ρ 26, ρ 27, ρ 28, ρ 29, ρ 30, ρ 31, ρ 32, ρ 33, ρ 34, ρ 35, ρ 36] (γ 1) := hJ
  have r22 : (0 : Int) ≤ ρ 22 ∧ ρ 22 ≤ 3 := zRnA hr 22
  have r34 : ((-1) : Int) ≤ ρ 34 ∧ ρ 34 ≤ (-1) := zRnA hr 34
  have r48 : (0 : Int) ≤ ρ 48 ∧ ρ 48 ≤ 255 := zRnA hr 48
  obtain ⟨w_0, w_1, w_2⟩ : (¬ (ρ 22 ≥ 4)) ∧ (¬ (ρ 34 ≥ 0)) ∧ ((0 : Int) ≤ ρ 48) := ⟨by omega, by omega, by omega⟩
  have m0 : γ 0 1 0 10 = ρ 0 := zAllA hm 0
  have m1 : γ 0 40 0 (ρ 0) = ρ 1 := zAllA hm 1
  have m13 : γ 0 2 0 5 = ρ 13 := zAllA hm 13
  have m35 : γ 1 10 (9 * ρ 1) 9 = ρ 34 := zAllA hm 35
  have m50 : γ 4 2 0 6 = ρ 49 := zAllA hm 50
  have l0 : sn141 [ρ 0, ρ 1, ρ 2, ρ 23, ρ 4, ρ 24, ρ 25, ρ 26, ρ 27, ρ 12, ρ 29, ρ 30, ρ 31, ρ 32, ρ 33, ρ 35, ρ 36] (γ 1) 0 1 (γ 2) := hS141 _ _ _ _ _ (zAllA hl 0)
  have l1 : sn143 [9 * ρ 1, ρ 22, ρ 13] (γ 2) 0 0 (γ 3) := hS143 _ _ _ _ _ (zAllA hl 1)
  have l2 : sn114 [ρ 37, ρ 4] (γ 3) 0 (ρ 48) (γ 4) := hS114 _ _ _ _ _ (zAllA hl 2)
  have l3 : ρ 48 ≠ 41 := zAllA hl 3
  have l4 : ρ 48 ≠ 44 := zAllA hl 4
  have l5 : sn109 [ρ 49, ρ 12] (γ 4) 0 0 (γ 5) := hS109 _ _ _ _ _ (zAllA hl 5)
  obtain ⟨wl_0, wl_1⟩ : (¬ (ρ 48 = 41)) ∧ (¬ (ρ 48 = 44)) := ⟨by omega, by omega⟩
  show sn144 [ρ 0, ρ 1, ρ 2, ρ 3, ρ 4, ρ 5, ρ 6, ρ 7, ρ 8, ρ 9, ρ 10, ρ 11, ρ 12, ρ 13, ρ 14, ρ 15, ρ 16, ρ 17, ρ 18, ρ 19, ρ 20, ρ 21] (γ 0) 0 0 (γ 5)
  have hD : en144 (γ 0) (0, [ρ 22], γ 1) = .inr (0, 0, γ 5) := by
    unfold en144
    refine zIP (show (0 : Nat) = 0 by decide) (zLV (γ 1) rfl (zLV (ρ 22) rfl (zLE m0 (zLE m1 (zLE m13 (zLE m35 (zIN w_0 ?_)))))))
    refine zLE (show fn141 [] (γ 1) = (0, 1, γ 2) from l0.symm) (zLV (γ 2) rfl (zIP zQ1_ (zIN w_1 (zLE (show fn143 [9 * ρ 1, ρ 22, ρ 13] (γ 2) = (0, 0, γ 3) from l1.symm) (zLV (γ 3) rfl (zIN zQ0_ (zLE (show fn114 [] (γ 3) = (0, ρ 48, γ 4) from l2.symm) ?_)))))))
    refine zLV (γ 4) rfl (zIP w_2 (zLV (ρ 48) rfl (zLE m50 (zIN wl_0 (zIN wl_1 (zLE (show fn109 [ρ 49] (γ 4) = (0, 0, γ 5) from l5.symm) (zLV (γ 5) rfl ?_)))))))
    rfl
  exact zGoo_aend hJ hD
theorem vn144a0_15 {S : Nat → zSpc} (hS102 : zIm S 102 sn102) (hS109 : zIm S 109 sn109) (hS114 : zIm S 114 sn114) (hS133 : zIm S 133 sn133) (hS141 : zIm S 141 sn141) (hS143 : zIm S 143 sn143) {a : List Int} {g : rHp} : ∀ (ρ : Nat → Int) (γ : Nat → rHp), jn144 a g 0 (zAg (zNA a144_ 0) ρ) (γ 1) → zO 22 S a g q144a0_15 ρ γ → zGl (fun i vs g1 => jn144 a g i vs g1) (sn144 a g) q144a0_15 ρ γ := by
  intro ρ γ hJ h
  obtain ⟨ha, hg, hr, hf, hm, hc, hl⟩ := h
  have ha : a = [ρ 0, ρ 1, ρ 2, ρ 3, ρ 4, ρ 5, ρ 6, ρ 7, ρ 8, ρ 9, ρ 10, ρ 11, ρ 12, ρ 13, ρ 14, ρ 15, ρ 16, ρ 17, ρ 18, ρ 19, ρ 20, ρ 21] := ha
  subst ha
  subst hg
  have hJ : jn144 [ρ 0, ρ 1, ρ 2, ρ 3, ρ 4, ρ 5, ρ 6, ρ 7, ρ 8, ρ 9, ρ 10, ρ 11, ρ 12, ρ 13, ρ 14, ρ 15, ρ 16, ρ 17, ρ 18, ρ 19, ρ 20, ρ 21] (γ 0) 0 [ρ 0, ρ 1, ρ 2, ρ 3, ρ 4, ρ 5, ρ 6, ρ 7, ρ 8, ρ 9, ρ 10, ρ 11, ρ 12, ρ 13, ρ 14, ρ 15, ρ 16, ρ 17, ρ 18, ρ 19, ρ 20, ρ 21, ρ 22, ρ 23, ρ 24, ρ 25, ρ 26, ρ 27, ρ 28, ρ 29, ρ 30, ρ 31, ρ 32, ρ 33, ρ 34, ρ 35, ρ 36] (γ 1) := hJ
  have r22 : (0 : Int) ≤ ρ 22 ∧ ρ 22 ≤ 3 := zRnA hr 22
  have r34 : ((-1) : Int) ≤ ρ 34 ∧ ρ 34 ≤ (-1) := zRnA hr 34
  obtain ⟨w_0, w_1⟩ : (¬ (ρ 22 ≥ 4)) ∧ (¬ (ρ 34 ≥ 0)) := ⟨by omega, by omega⟩
  have m0 : γ 0 1 0 10 = ρ 0 := zAllA hm 0
  have m1 : γ 0 40 0 (ρ 0) = ρ 1 := zAllA hm 1
  have m13 : γ 0 2 0 5 = ρ 13 := zAllA hm 13
  have m35 : γ 1 10 (9 * ρ 1) 9 = ρ 34 := zAllA hm 35
  have m50 : γ 5 2 0 6 = ρ 48 := zAllA hm 50
  have c4 : γ 4 = rUp (γ 3) 10 (9 * ρ 1) 9 (ρ 22) := And.right (zChA hc 2)
  have l0 : sn141 [ρ 0, ρ 1, ρ 2, ρ 23, ρ 4, ρ 24, ρ 25, ρ 26, ρ 27, ρ 12, ρ 29, ρ 30, ρ 31, ρ 32, ρ 33, ρ 35, ρ 36] (γ 1) 0 1 (γ 2) := hS141 _ _ _ _ _ (zAllA hl 0)
  have l1 : sn143 [9 * ρ 1, ρ 22, ρ 13] (γ 2) 0 1 (γ 3) := hS143 _ _ _ _ _ (zAllA hl 1)
  have l2 : sn114 [ρ 37, ρ 4] (γ 4) 0 (-1) (γ 5) := hS114 _ _ _ _ _ (zAllA hl 2)
  have l3 : sn109 [ρ 48, ρ 12] (γ 5) 0 0 (γ 6) := hS109 _ _ _ _ _ (zAllA hl 3)
  show sn144 [ρ 0, ρ 1, ρ 2, ρ 3, ρ 4, ρ 5, ρ 6, ρ 7, ρ 8, ρ 9, ρ 10, ρ 11, ρ 12, ρ 13, ρ 14, ρ 15, ρ 16, ρ 17, ρ 18, ρ 19, ρ 20, ρ 21] (γ 0) 0 0 (γ 6)
  have hD : en144 (γ 0) (0, [ρ 22], γ 1) = .inr (0, 0, γ 6) := by
    unfold en144
    refine zIP (show (0 : Nat) = 0 by decide) (zLV (γ 1) rfl (zLV (ρ 22) rfl (zLE m0 (zLE m1 (zLE m13 (zLE m35 (zIN w_0 ?_)))))))
    refine zLE (show fn141 [] (γ 1) = (0, 1, γ 2) from l0.symm) (zLV (γ 2) rfl (zIP zQ1_ (zIN w_1 (zLE (show fn143 [9 * ρ 1, ρ 22, ρ 13] (γ 2) = (0, 1, γ 3) from l1.symm) (zLV (γ 3) rfl (zIP zQ1_ (zLE c4.symm ?_)))))))
    refine zLE (show fn114 [] (γ 4) = (0, (-1), γ 5) from l2.symm) (zLV (γ 5) rfl (zIN zQ2_ (zLE m50 (zLE (show fn109 [ρ 48] (γ 5) = (0, 0, γ 6) from l3.symm) (zLV (γ 6) rfl ?_)))))
    rfl
  exact zGoo_aend hJ hD
theorem vn144a0_16 {S : Nat → zSpc} (hS102 : zIm S 102 sn102) (hS109 : zIm S 109 sn109) (hS114 : zIm S 114 sn114) (hS133 : zIm S 133 sn133) (hS141 : zIm S 141 sn141) (hS143 : zIm S 143 sn143) {a : List Int} {g : rHp} : ∀ (ρ : Nat → Int) (γ : Nat → rHp), jn144 a g 0 (zAg (zNA a144_ 0) ρ) (γ 1) → zO 22 S a g q144a0_16 ρ γ → zGl (fun i vs g1 => jn144 a g i vs g1) (sn144 a g) q144a0_16 ρ γ := by
  intro ρ γ hJ h
  obtain ⟨ha, hg, hr, hf, hm, hc, hl⟩ := h
  have ha : a = [ρ 0, ρ 1, ρ 2, ρ 3, ρ 4, ρ 5, ρ 6, ρ 7, ρ 8, ρ 9, ρ 10, ρ 11, ρ 12, ρ 13, ρ 14, ρ 15, ρ 16, ρ 17, ρ 18, ρ 19, ρ 20, ρ 21] := ha
  subst ha
  subst hg
  have hJ : jn144 [ρ 0, ρ 1, ρ 2, ρ 3, ρ 4, ρ 5, ρ 6, ρ 7, ρ 8, ρ 9, ρ 10, ρ 11, ρ 12, ρ 13, ρ 14, ρ 15, ρ 16, ρ 17, ρ 18, ρ 19, ρ 20, ρ 21] (γ 0) 0 [ρ 0, ρ 1, ρ 2, ρ 3, ρ 4, ρ 5, ρ 6, ρ 7, ρ 8, ρ 9, ρ 10, ρ 11, ρ 12, ρ 13, ρ 14, ρ 15, ρ 16, ρ 17, ρ 18, ρ 19, ρ 20, ρ 21, ρ 22, ρ 23, ρ 24, ρ 25, ρ 26, ρ 27, ρ 28, ρ 29, ρ 30, ρ 31, ρ 32, ρ 33, ρ 34, ρ 35, ρ 36] (γ 1) := hJ
  have r22 : (0 : Int) ≤ ρ 22 ∧ ρ 22 ≤ 3 := zRnA hr 22
  have r34 : ((-1) : Int) ≤ ρ 34 ∧ ρ 34 ≤ (-1) := zRnA hr 34
  have r48 : (41 : Int) ≤ ρ 48 ∧ ρ 48 ≤ 41 := zRnA hr 48
  obtain ⟨w_0, w_1, w_2, w_3⟩ : (¬ (ρ 22 ≥ 4)) ∧ (¬ (ρ 34 ≥ 0)) ∧ ((0 : Int) ≤ ρ 48) ∧ (ρ 48 = 41) := ⟨by omega, by omega, by omega, by omega⟩
  have m0 : γ 0 1 0 10 = ρ 0 := zAllA hm 0
  have m1 : γ 0 40 0 (ρ 0) = ρ 1 := zAllA hm 1
  have m13 : γ 0 2 0 5 = ρ 13 := zAllA hm 13
  have m35 : γ 1 10 (9 * ρ 1) 9 = ρ 34 := zAllA hm 35
  have m50 : γ 5 2 0 6 = ρ 49 := zAllA hm 50
  have c4 : γ 4 = rUp (γ 3) 10 (9 * ρ 1) 9 (ρ 22) := And.right (zChA hc 3)
  have c6 : γ 6 = rUp (γ 5) 2 0 6 (ρ 49 + 1) := And.right (zChA hc 1)
  have l0 : sn141 [ρ 0, ρ 1, ρ 2, ρ 23, ρ 4, ρ 24, ρ 25, ρ 26, ρ 27, ρ 12, ρ 29, ρ 30, ρ 31, ρ 32, ρ 33, ρ 35, ρ 36] (γ 1) 0 1 (γ 2) := hS141 _ _ _ _ _ (zAllA hl 0)
  have l1 : sn143 [9 * ρ 1, ρ 22, ρ 13] (γ 2) 0 1 (γ 3) := hS143 _ _ _ _ _ (zAllA hl 1)
  have l2 : sn114 [ρ 37, ρ 4] (γ 4) 0 (ρ 48) (γ 5) := hS114 _ _ _ _ _ (zAllA hl 2)
  have l3 : sn133 [ρ 0, ρ 1, ρ 2, ρ 9, ρ 28, ρ 11, ρ 12, ρ 38, ρ 14] (γ 6) 0 0 (γ 7) := hS133 _ _ _ _ _ (zAllA hl 3)
  show sn144 [ρ 0, ρ 1, ρ 2, ρ 3, ρ 4, ρ 5, ρ 6, ρ 7, ρ 8, ρ 9, ρ 10, ρ 11, ρ 12, ρ 13, ρ 14, ρ 15, ρ 16, ρ 17, ρ 18, ρ 19, ρ 20, ρ 21] (γ 0) 0 0 (γ 7)
  have hD : en144 (γ 0) (0, [ρ 22], γ 1) = .inr (0, 0, γ 7) := by
    unfold en144
    refine zIP (show (0 : Nat) = 0 by decide) (zLV (γ 1) rfl (zLV (ρ 22) rfl (zLE m0 (zLE m1 (zLE m13 (zLE m35 (zIN w_0 ?_)))))))
    refine zLE (show fn141 [] (γ 1) = (0, 1, γ 2) from l0.symm) (zLV (γ 2) rfl (zIP zQ1_ (zIN w_1 (zLE (show fn143 [9 * ρ 1, ρ 22, ρ 13] (γ 2) = (0, 1, γ 3) from l1.symm) (zLV (γ 3) rfl (zIP zQ1_ (zLE c4.symm ?_)))))))
    refine zLE (show fn114 [] (γ 4) = (0, ρ 48, γ 5) from l2.symm) (zLV (γ 5) rfl (zIP w_2 (zLV (ρ 48) rfl (zLE m50 (zIP w_3 (zLE c6.symm (zLE (show fn133 [] (γ 6) = (0, 0, γ 7) from l3.symm) ?_)))))))
    refine zLV (γ 7) rfl (zIN zQ0_ ?_)
    rfl
  exact zGoo_aend hJ hD
theorem vn144a0_17 {S : Nat → zSpc} (hS102 : zIm S 102 sn102) (hS109 : zIm S 109 sn109) (hS114 : zIm S 114 sn114) (hS133 : zIm S 133 sn133) (hS141 : zIm S 141 sn141) (hS143 : zIm S 143 sn143) {a : List Int} {g : rHp} : ∀ (ρ : Nat → Int) (γ : Nat → rHp), jn144 a g 0 (zAg (zNA a144_ 0) ρ) (γ 1) → zO 22 S a g q144a0_17 ρ γ → zGl (fun i vs g1 => jn144 a g i vs g1) (sn144 a g) q144a0_17 ρ γ := by
  intro ρ γ hJ h
  obtain ⟨ha, hg, hr, hf, hm, hc, hl⟩ := h
  have ha : a = [ρ 0, ρ 1, ρ 2, ρ 3, ρ 4, ρ 5, ρ 6, ρ 7, ρ 8, ρ 9, ρ 10, ρ 11, ρ 12, ρ 13, ρ 14, ρ 15, ρ 16, ρ 17, ρ 18, ρ 19, ρ 20, ρ 21] := ha
  subst ha
  subst hg
  have hJ : jn144 [ρ 0, ρ 1, ρ 2, ρ 3, ρ 4, ρ 5, ρ 6, ρ 7, ρ 8, ρ 9, ρ 10, ρ 11, ρ 12, ρ 13, ρ 14, ρ 15, ρ 16, ρ 17, ρ 18, ρ 19, ρ 20, ρ 21] (γ 0) 0 [ρ 0, ρ 1, ρ 2, ρ 3, ρ 4, ρ 5, ρ 6, ρ 7, ρ 8, ρ 9, ρ 10, ρ 11, ρ 12, ρ 13, ρ 14, ρ 15, ρ 16, ρ 17, ρ 18, ρ 19, ρ 20, ρ 21, ρ 22, ρ 23, ρ 24, ρ 25, ρ 26, ρ 27, ρ 28, ρ 29, ρ 30, ρ 31, ρ 32, ρ 33, ρ 34, ρ 35, ρ 36] (γ 1) := hJ
  have r22 : (0 : Int) ≤ ρ 22 ∧ ρ 22 ≤ 3 := zRnA hr 22
  have r34 : ((-1) : Int) ≤ ρ 34 ∧ ρ 34 ≤ (-1) := zRnA hr 34
  have r48 : (41 : Int) ≤ ρ 48 ∧ ρ 48 ≤ 41 := zRnA hr 48
  obtain ⟨w_0, w_1, w_2, w_3⟩ : (¬ (ρ 22 ≥ 4)) ∧ (¬ (ρ 34 ≥ 0)) ∧ ((0 : Int) ≤ ρ 48) ∧ (ρ 48 = 41) := ⟨by omega, by omega, by omega, by omega⟩
  have m0 : γ 0 1 0 10 = ρ 0 := zAllA hm 0
  have m1 : γ 0 40 0 (ρ 0) = ρ 1 := zAllA hm 1
  have m13 : γ 0 2 0 5 = ρ 13 := zAllA hm 13
  have m35 : γ 1 10 (9 * ρ 1) 9 = ρ 34 := zAllA hm 35
  have m50 : γ 5 2 0 6 = ρ 49 := zAllA hm 50
  have c4 : γ 4 = rUp (γ 3) 10 (9 * ρ 1) 9 (ρ 22) := And.right (zChA hc 3)
  have c6 : γ 6 = rUp (γ 5) 2 0 6 (ρ 49 + 1) := And.right (zChA hc 1)
  have l0 : sn141 [ρ 0, ρ 1, ρ 2, ρ 23, ρ 4, ρ 24, ρ 25, ρ 26, ρ 27, ρ 12, ρ 29, ρ 30, ρ 31, ρ 32, ρ 33, ρ 35, ρ 36] (γ 1) 0 1 (γ 2) := hS141 _ _ _ _ _ (zAllA hl 0)
  have l1 : sn143 [9 * ρ 1, ρ 22, ρ 13] (γ 2) 0 1 (γ 3) := hS143 _ _ _ _ _ (zAllA hl 1)
  have l2 : sn114 [ρ 37, ρ 4] (γ 4) 0 (ρ 48) (γ 5) := hS114 _ _ _ _ _ (zAllA hl 2)
  have l3 : sn133 [ρ 0, ρ 1, ρ 2, ρ 9, ρ 28, ρ 11, ρ 12, ρ 38, ρ 14] (γ 6) 0 1 (γ 7) := hS133 _ _ _ _ _ (zAllA hl 3)
  show sn144 [ρ 0, ρ 1, ρ 2, ρ 3, ρ 4, ρ 5, ρ 6, ρ 7, ρ 8, ρ 9, ρ 10, ρ 11, ρ 12, ρ 13, ρ 14, ρ 15, ρ 16, ρ 17, ρ 18, ρ 19, ρ 20, ρ 21] (γ 0) 0 1 (γ 7)
  have hD : en144 (γ 0) (0, [ρ 22], γ 1) = .inr (0, 1, γ 7) := by
    unfold en144
    refine zIP (show (0 : Nat) = 0 by decide) (zLV (γ 1) rfl (zLV (ρ 22) rfl (zLE m0 (zLE m1 (zLE m13 (zLE m35 (zIN w_0 ?_)))))))
    refine zLE (show fn141 [] (γ 1) = (0, 1, γ 2) from l0.symm) (zLV (γ 2) rfl (zIP zQ1_ (zIN w_1 (zLE (show fn143 [9 * ρ 1, ρ 22, ρ 13] (γ 2) = (0, 1, γ 3) from l1.symm) (zLV (γ 3) rfl (zIP zQ1_ (zLE c4.symm ?_)))))))
    refine zLE (show fn114 [] (γ 4) = (0, ρ 48, γ 5) from l2.symm) (zLV (γ 5) rfl (zIP w_2 (zLV (ρ 48) rfl (zLE m50 (zIP w_3 (zLE c6.symm (zLE (show fn133 [] (γ 6) = (0, 1, γ 7) from l3.symm) ?_)))))))
    refine zLV (γ 7) rfl (zIP zQ1_ ?_)
    rfl
  exact zGoo_aend hJ hD
theorem vn144a0_18 {S : Nat → zSpc} (hS102 : zIm S 102 sn102) (hS109 : zIm S 109 sn109) (hS114 : zIm S 114 sn114) (hS133 : zIm S 133 sn133) (hS141 : zIm S 141 sn141) (hS143 : zIm S 143 sn143) {a : List Int} {g : rHp} : ∀ (ρ : Nat → Int) (γ : Nat → rHp), jn144 a g 0 (zAg (zNA a144_ 0) ρ) (γ 1) → zO 22 S a g q144a0_18 ρ γ → zGl (fun i vs g1 => jn144 a g i vs g1) (sn144 a g) q144a0_18 ρ γ := by
  intro ρ γ hJ h
  obtain ⟨ha, hg, hr, hf, hm, hc, hl⟩ := h
  have ha : a = [ρ 0, ρ 1, ρ 2, ρ 3, ρ 4, ρ 5, ρ 6, ρ 7, ρ 8, ρ 9, ρ 10, ρ 11, ρ 12, ρ 13, ρ 14, ρ 15, ρ 16, ρ 17, ρ 18, ρ 19, ρ 20, ρ 21] := ha
  subst ha
  subst hg
  have hJ : jn144 [ρ 0, ρ 1, ρ 2, ρ 3, ρ 4, ρ 5, ρ 6, ρ 7, ρ 8, ρ 9, ρ 10, ρ 11, ρ 12, ρ 13, ρ 14, ρ 15, ρ 16, ρ 17, ρ 18, ρ 19, ρ 20, ρ 21] (γ 0) 0 [ρ 0, ρ 1, ρ 2, ρ 3, ρ 4, ρ 5, ρ 6, ρ 7, ρ 8, ρ 9, ρ 10, ρ 11, ρ 12, ρ 13, ρ 14, ρ 15, ρ 16, ρ 17, ρ 18, ρ 19, ρ 20, ρ 21, ρ 22, ρ 23, ρ 24, ρ 25, ρ 26, ρ 27, ρ 28, ρ 29, ρ 30, ρ 31, ρ 32, ρ 33, ρ 34, ρ 35, ρ 36] (γ 1) := hJ
  have r22 : (0 : Int) ≤ ρ 22 ∧ ρ 22 ≤ 3 := zRnA hr 22
  have r34 : ((-1) : Int) ≤ ρ 34 ∧ ρ 34 ≤ (-1) := zRnA hr 34
  have r48 : (41 : Int) ≤ ρ 48 ∧ ρ 48 ≤ 41 := zRnA hr 48
  obtain ⟨w_0, w_1, w_2, w_3⟩ : (¬ (ρ 22 ≥ 4)) ∧ (¬ (ρ 34 ≥ 0)) ∧ ((0 : Int) ≤ ρ 48) ∧ (ρ 48 = 41) := ⟨by omega, by omega, by omega, by omega⟩
  have m0 : γ 0 1 0 10 = ρ 0 := zAllA hm 0
  have m1 : γ 0 40 0 (ρ 0) = ρ 1 := zAllA hm 1
  have m13 : γ 0 2 0 5 = ρ 13 := zAllA hm 13
  have m35 : γ 1 10 (9 * ρ 1) 9 = ρ 34 := zAllA hm 35
  have m50 : γ 5 2 0 6 = ρ 49 := zAllA hm 50
  have c4 : γ 4 = rUp (γ 3) 10 (9 * ρ 1) 9 (ρ 22) := And.right (zChA hc 3)
  have c6 : γ 6 = rUp (γ 5) 2 0 6 (ρ 49 + 1) := And.right (zChA hc 1)
  have l0 : sn141 [ρ 0, ρ 1, ρ 2, ρ 23, ρ 4, ρ 24, ρ 25, ρ 26, ρ 27, ρ 12, ρ 29, ρ 30, ρ 31, ρ 32, ρ 33, ρ 35, ρ 36] (γ 1) 0 1 (γ 2) := hS141 _ _ _ _ _ (zAllA hl 0)
  have l1 : sn143 [9 * ρ 1, ρ 22, ρ 13] (γ 2) 0 1 (γ 3) := hS143 _ _ _ _ _ (zAllA hl 1)
  have l2 : sn114 [ρ 37, ρ 4] (γ 4) 0 (ρ 48) (γ 5) := hS114 _ _ _ _ _ (zAllA hl 2)
  have l3 : sn133 [ρ 0, ρ 1, ρ 2, ρ 9, ρ 28, ρ 11, ρ 12, ρ 38, ρ 14] (γ 6) 0 1 (γ 7) := hS133 _ _ _ _ _ (zAllA hl 3)
  show sn144 [ρ 0, ρ 1, ρ 2, ρ 3, ρ 4, ρ 5, ρ 6, ρ 7, ρ 8, ρ 9, ρ 10, ρ 11, ρ 12, ρ 13, ρ 14, ρ 15, ρ 16, ρ 17, ρ 18, ρ 19, ρ 20, ρ 21] (γ 0) 0 1 (γ 7)
  have hD : en144 (γ 0) (0, [ρ 22], γ 1) = .inr (0, 1, γ 7) := by
    unfold en144
    refine zIP (show (0 : Nat) = 0 by decide) (zLV (γ 1) rfl (zLV (ρ 22) rfl (zLE m0 (zLE m1 (zLE m13 (zLE m35 (zIN w_0 ?_)))))))
    refine zLE (show fn141 [] (γ 1) = (0, 1, γ 2) from l0.symm) (zLV (γ 2) rfl (zIP zQ1_ (zIN w_1 (zLE (show fn143 [9 * ρ 1, ρ 22, ρ 13] (γ 2) = (0, 1, γ 3) from l1.symm) (zLV (γ 3) rfl (zIP zQ1_ (zLE c4.symm ?_)))))))
    refine zLE (show fn114 [] (γ 4) = (0, ρ 48, γ 5) from l2.symm) (zLV (γ 5) rfl (zIP w_2 (zLV (ρ 48) rfl (zLE m50 (zIP w_3 (zLE c6.symm (zLE (show fn133 [] (γ 6) = (0, 1, γ 7) from l3.symm) ?_)))))))
    refine zLV (γ 7) rfl (zIP zQ1_ ?_)
    rfl
  exact zGoo_aend hJ hD
theorem vn144a0_19 {S : Nat → zSpc} (hS102 : zIm S 102 sn102) (hS109 : zIm S 109 sn109) (hS114 : zIm S 114 sn114) (hS133 : zIm S 133 sn133) (hS141 : zIm S 141 sn141) (hS143 : zIm S 143 sn143) {a : List Int} {g : rHp} : ∀ (ρ : Nat → Int) (γ : Nat → rHp), jn144 a g 0 (zAg (zNA a144_ 0) ρ) (γ 1) → zO 22 S a g q144a0_19 ρ γ → zGl (fun i vs g1 => jn144 a g i vs g1) (sn144 a g) q144a0_19 ρ γ := by
  intro ρ γ hJ h
  obtain ⟨ha, hg, hr, hf, hm, hc, hl⟩ := h
  have ha : a = [ρ 0, ρ 1, ρ 2, ρ 3, ρ 4, ρ 5, ρ 6, ρ 7, ρ 8, ρ 9, ρ 10, ρ 11, ρ 12, ρ 13, ρ 14, ρ 15, ρ 16, ρ 17, ρ 18, ρ 19, ρ 20, ρ 21] := ha
  subst ha
  subst hg
  have hJ : jn144 [ρ 0, ρ 1, ρ 2, ρ 3, ρ 4, ρ 5, ρ 6, ρ 7, ρ 8, ρ 9, ρ 10, ρ 11, ρ 12, ρ 13, ρ 14, ρ 15, ρ 16, ρ 17, ρ 18, ρ 19, ρ 20, ρ 21] (γ 0) 0 [ρ 0, ρ 1, ρ 2, ρ 3, ρ 4, ρ 5, ρ 6, ρ 7, ρ 8, ρ 9, ρ 10, ρ 11, ρ 12, ρ 13, ρ 14, ρ 15, ρ 16, ρ 17, ρ 18, ρ 19, ρ 20, ρ 21, ρ 22, ρ 23, ρ 24, ρ 25, ρ 26, ρ 27, ρ 28, ρ 29, ρ 30, ρ 31, ρ 32, ρ 33, ρ 34, ρ 35, ρ 36] (γ 1) := hJ
  have r22 : (0 : Int) ≤ ρ 22 ∧ ρ 22 ≤ 3 := zRnA hr 22
  have r34 : ((-1) : Int) ≤ ρ 34 ∧ ρ 34 ≤ (-1) := zRnA hr 34
  have r48 : (44 : Int) ≤ ρ 48 ∧ ρ 48 ≤ 44 := zRnA hr 48
  obtain ⟨w_0, w_1, w_2, w_3, w_4⟩ : (¬ (ρ 22 ≥ 4)) ∧ (¬ (ρ 34 ≥ 0)) ∧ ((0 : Int) ≤ ρ 48) ∧ (¬ (ρ 48 = 41)) ∧ (ρ 48 = 44) := ⟨by omega, by omega, by omega, by omega, by omega⟩
  have m0 : γ 0 1 0 10 = ρ 0 := zAllA hm 0
  have m1 : γ 0 40 0 (ρ 0) = ρ 1 := zAllA hm 1
  have m13 : γ 0 2 0 5 = ρ 13 := zAllA hm 13
  have m35 : γ 1 10 (9 * ρ 1) 9 = ρ 34 := zAllA hm 35
  have m50 : γ 5 2 0 6 = ρ 49 := zAllA hm 50
  have c4 : γ 4 = rUp (γ 3) 10 (9 * ρ 1) 9 (ρ 22) := And.right (zChA hc 2)
  have c6 : γ 6 = rUp (γ 5) 2 0 6 (ρ 49 + 1) := And.right (zChA hc 0)
  have l0 : sn141 [ρ 0, ρ 1, ρ 2, ρ 23, ρ 4, ρ 24, ρ 25, ρ 26, ρ 27, ρ 12, ρ 29, ρ 30, ρ 31, ρ 32, ρ 33, ρ 35, ρ 36] (γ 1) 0 1 (γ 2) := hS141 _ _ _ _ _ (zAllA hl 0)
  have l1 : sn143 [9 * ρ 1, ρ 22, ρ 13] (γ 2) 0 1 (γ 3) := hS143 _ _ _ _ _ (zAllA hl 1)
  have l2 : sn114 [ρ 37, ρ 4] (γ 4) 0 (ρ 48) (γ 5) := hS114 _ _ _ _ _ (zAllA hl 2)
  have l3 : ρ 48 ≠ 41 := zAllA hl 3
  show jn144 [ρ 0, ρ 1, ρ 2, ρ 3, ρ 4, ρ 5, ρ 6, ρ 7, ρ 8, ρ 9, ρ 10, ρ 11, ρ 12, ρ 13, ρ 14, ρ 15, ρ 16, ρ 17, ρ 18, ρ 19, ρ 20, ρ 21] (γ 0) 0 [ρ 0, ρ 1, ρ 2, ρ 3, ρ 4, ρ 5, ρ 6, ρ 7, ρ 8, ρ 9, ρ 10, ρ 11, ρ 12, ρ 13, ρ 14, ρ 15, ρ 16, ρ 17, ρ 18, ρ 19, ρ 20, ρ 21, ρ 22 + 1, ρ 49 + 1, ρ 38, ρ 39, ρ 40, ρ 27, ρ 28, ρ 41, ρ 42, ρ 43, ρ 44, ρ 45, ρ 22, ρ 46, ρ 47] (γ 6)
  have hD : en144 (γ 0) (0, [ρ 22], γ 1) = .inl (0, [ρ 22 + 1], γ 6) := by
    unfold en144
    refine zIP (show (0 : Nat) = 0 by decide) (zLV (γ 1) rfl (zLV (ρ 22) rfl (zLE m0 (zLE m1 (zLE m13 (zLE m35 (zIN w_0 ?_)))))))
    refine zLE (show fn141 [] (γ 1) = (0, 1, γ 2) from l0.symm) (zLV (γ 2) rfl (zIP zQ1_ (zIN w_1 (zLE (show fn143 [9 * ρ 1, ρ 22, ρ 13] (γ 2) = (0, 1, γ 3) from l1.symm) (zLV (γ 3) rfl (zIP zQ1_ (zLE c4.symm ?_)))))))
    refine zLE (show fn114 [] (γ 4) = (0, ρ 48, γ 5) from l2.symm) (zLV (γ 5) rfl (zIP w_2 (zLV (ρ 48) rfl (zLE m50 (zIN w_3 (zIP w_4 (zLE c6.symm ?_)))))))
    rfl
  exact zGoo_ato hJ hD
theorem vn144a0_20 {S : Nat → zSpc} (hS102 : zIm S 102 sn102) (hS109 : zIm S 109 sn109) (hS114 : zIm S 114 sn114) (hS133 : zIm S 133 sn133) (hS141 : zIm S 141 sn141) (hS143 : zIm S 143 sn143) {a : List Int} {g : rHp} : ∀ (ρ : Nat → Int) (γ : Nat → rHp), jn144 a g 0 (zAg (zNA a144_ 0) ρ) (γ 1) → zO 22 S a g q144a0_20 ρ γ → zGl (fun i vs g1 => jn144 a g i vs g1) (sn144 a g) q144a0_20 ρ γ := by
  intro ρ γ hJ h
  obtain ⟨ha, hg, hr, hf, hm, hc, hl⟩ := h
  have ha : a = [ρ 0, ρ 1, ρ 2, ρ 3, ρ 4, ρ 5, ρ 6, ρ 7, ρ 8, ρ 9, ρ 10, ρ 11, ρ 12, ρ 13, ρ 14, ρ 15, ρ 16, ρ 17, ρ 18, ρ 19, ρ 20, ρ 21] := ha
  subst ha
  subst hg
  have hJ : jn144 [ρ 0, ρ 1, ρ 2, ρ 3, ρ 4, ρ 5, ρ 6, ρ 7, ρ 8, ρ 9, ρ 10, ρ 11, ρ 12, ρ 13, ρ 14, ρ 15, ρ 16, ρ 17, ρ 18, ρ 19, ρ 20, ρ 21] (γ 0) 0 [ρ 0, ρ 1, ρ 2, ρ 3, ρ 4, ρ 5, ρ 6, ρ 7, ρ 8, ρ 9, ρ 10, ρ 11, ρ 12, ρ 13, ρ 14, ρ 15, ρ 16, ρ 17, ρ 18, ρ 19, ρ 20, ρ 21, ρ 22, ρ 23, ρ 24, ρ 25, ρ 26, ρ 27, ρ 28, ρ 29, ρ 30, ρ 31, ρ 32, ρ 33, ρ 34, ρ 35, ρ 36] (γ 1) := hJ
  have r22 : (0 : Int) ≤ ρ 22 ∧ ρ 22 ≤ 3 := zRnA hr 22
  have r34 : ((-1) : Int) ≤ ρ 34 ∧ ρ 34 ≤ (-1) := zRnA hr 34
  have r48 : (0 : Int) ≤ ρ 48 ∧ ρ 48 ≤ 255 := zRnA hr 48
  obtain ⟨w_0, w_1, w_2⟩ : (¬ (ρ 22 ≥ 4)) ∧ (¬ (ρ 34 ≥ 0)) ∧ ((0 : Int) ≤ ρ 48) := ⟨by omega, by omega, by omega⟩
  have m0 : γ 0 1 0 10 = ρ 0 := zAllA hm 0
  have m1 : γ 0 40 0 (ρ 0) = ρ 1 := zAllA hm 1
  have m13 : γ 0 2 0 5 = ρ 13 := zAllA hm 13
  have m35 : γ 1 10 (9 * ρ 1) 9 = ρ 34 := zAllA hm 35
  have m50 : γ 5 2 0 6 = ρ 49 := zAllA hm 50
  have c4 : γ 4 = rUp (γ 3) 10 (9 * ρ 1) 9 (ρ 22) := And.right (zChA hc 2)
  have l0 : sn141 [ρ 0, ρ 1, ρ 2, ρ 23, ρ 4, ρ 24, ρ 25, ρ 26, ρ 27, ρ 12, ρ 29, ρ 30, ρ 31, ρ 32, ρ 33, ρ 35, ρ 36] (γ 1) 0 1 (γ 2) := hS141 _ _ _ _ _ (zAllA hl 0)
  have l1 : sn143 [9 * ρ 1, ρ 22, ρ 13] (γ 2) 0 1 (γ 3) := hS143 _ _ _ _ _ (zAllA hl 1)
  have l2 : sn114 [ρ 37, ρ 4] (γ 4) 0 (ρ 48) (γ 5) := hS114 _ _ _ _ _ (zAllA hl 2)
  have l3 : ρ 48 ≠ 41 := zAllA hl 3
  have l4 : ρ 48 ≠ 44 := zAllA hl 4
  have l5 : sn109 [ρ 49, ρ 12] (γ 5) 0 0 (γ 6) := hS109 _ _ _ _ _ (zAllA hl 5)
  obtain ⟨wl_0, wl_1⟩ : (¬ (ρ 48 = 41)) ∧ (¬ (ρ 48 = 44)) := ⟨by omega, by omega⟩
  show sn144 [ρ 0, ρ 1, ρ 2, ρ 3, ρ 4, ρ 5, ρ 6, ρ 7, ρ 8, ρ 9, ρ 10, ρ 11, ρ 12, ρ 13, ρ 14, ρ 15, ρ 16, ρ 17, ρ 18, ρ 19, ρ 20, ρ 21] (γ 0) 0 0 (γ 6)
  have hD : en144 (γ 0) (0, [ρ 22], γ 1) = .inr (0, 0, γ 6) := by
    unfold en144
    refine zIP (show (0 : Nat) = 0 by decide) (zLV (γ 1) rfl (zLV (ρ 22) rfl (zLE m0 (zLE m1 (zLE m13 (zLE m35 (zIN w_0 ?_)))))))
    refine zLE (show fn141 [] (γ 1) = (0, 1, γ 2) from l0.symm) (zLV (γ 2) rfl (zIP zQ1_ (zIN w_1 (zLE (show fn143 [9 * ρ 1, ρ 22, ρ 13] (γ 2) = (0, 1, γ 3) from l1.symm) (zLV (γ 3) rfl (zIP zQ1_ (zLE c4.symm ?_)))))))
    refine zLE (show fn114 [] (γ 4) = (0, ρ 48, γ 5) from l2.symm) (zLV (γ 5) rfl (zIP w_2 (zLV (ρ 48) rfl (zLE m50 (zIN wl_0 (zIN wl_1 (zLE (show fn109 [ρ 49] (γ 5) = (0, 0, γ 6) from l5.symm) ?_)))))))
    refine zLV (γ 6) rfl ?_
    rfl
  exact zGoo_aend hJ hD
theorem yn144 {S : Nat → zSpc} (hS102 : zIm S 102 sn102) (hS109 : zIm S 109 sn109) (hS114 : zIm S 114 sn114) (hS133 : zIm S 133 sn133) (hS141 : zIm S 141 sn141) (hS143 : zIm S 143 sn143) : ∀ x g o v gz, zSem uW uT w144_.2.2.2.1 w144_.2.2.1.1.length S q144 (fun i => q144a.getD i []) (zNA a144_) x g o v gz → sn144 x g o v gz := by
  intro a g o v gz h
  exact zSem_all (l0 := q144) (las := q144a) (S := S) (J := (fun i vs g1 => jn144 a g i vs g1)) (P := sn144 a g) (fun _ => (show zAll _ [q144_0, q144_1, q144_2] from (zAll_c (vn144_0 hS102 hS109 hS114 hS133 hS141 hS143) (zAll_c (vn144_1 hS102 hS109 hS114 hS133 hS141 hS143) (zAll_c (vn144_2 hS102 hS109 hS114 hS133 hS141 hS143) zAll_n))))) (fun _ => (show zAllI _ 0 [q144a0] from ⟨(show zAll _ [q144a0_0, q144a0_1, q144a0_2, q144a0_3, q144a0_4, q144a0_5, q144a0_6, q144a0_7, q144a0_8, q144a0_9, q144a0_10, q144a0_11, q144a0_12, q144a0_13, q144a0_14, q144a0_15, q144a0_16, q144a0_17, q144a0_18, q144a0_19, q144a0_20] from (zAll_c (vn144a0_0 hS102 hS109 hS114 hS133 hS141 hS143) (zAll_c (vn144a0_1 hS102 hS109 hS114 hS133 hS141 hS143) (zAll_c (vn144a0_2 hS102 hS109 hS114 hS133 hS141 hS143) (zAll_c (vn144a0_3 hS102 hS109 hS114 hS133 hS141 hS143) (zAll_c (vn144a0_4 hS102 hS109 hS114 hS133 hS141 hS143) (zAll_c (vn144a0_5 hS102 hS109 hS114 hS133 hS141 hS143) (zAll_c (vn144a0_6 hS102 hS109 hS114 hS133 hS141 hS143) (zAll_c (vn144a0_7 hS102 hS109 hS114 hS133 hS141 hS143) (zAll_c (vn144a0_8 hS102 hS109 hS114 hS133 hS141 hS143) (zAll_c (vn144a0_9 hS102 hS109 hS114 hS133 hS141 hS143) (zAll_c (vn144a0_10 hS102 hS109 hS114 hS133 hS141 hS143) (zAll_c (vn144a0_11 hS102 hS109 hS114 hS133 hS141 hS143) (zAll_c (vn144a0_12 hS102 hS109 hS114 hS133 hS141 hS143) (zAll_c (vn144a0_13 hS102 hS109 hS114 hS133 hS141 hS143) (zAll_c (vn144a0_14 hS102 hS109 hS114 hS133 hS141 hS143) (zAll_c (vn144a0_15 hS102 hS109 hS114 hS133 hS141 hS143) (zAll_c (vn144a0_16 hS102 hS109 hS114 hS133 hS141 hS143) (zAll_c (vn144a0_17 hS102 hS109 hS114 hS133 hS141 hS143) (zAll_c (vn144a0_18 hS102 hS109 hS114 hS133 hS141 hS143) (zAll_c (vn144a0_19 hS102 hS109 hS114 hS133 hS141 hS143) (zAll_c (vn144a0_20 hS102 hS109 hS114 hS133 hS141 hS143) zAll_n)))))))))))))))))))))), trivial⟩)) h
