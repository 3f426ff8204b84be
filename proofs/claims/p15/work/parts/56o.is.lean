/-! ===== the runs are the functions ===== -/
theorem vn156_0 {S : Nat → zSpc} (hS103 : zIm S 103 sn103) (hS109 : zIm S 109 sn109) (hS114 : zIm S 114 sn114) (hS115 : zIm S 115 sn115) (hS117 : zIm S 117 sn117) (hS120 : zIm S 120 sn120) (hS139 : zIm S 139 sn139) {a : List Int} {g : rHp} : ∀ (ρ : Nat → Int) (γ : Nat → rHp), zO 21 S a g q156_0 ρ γ → zGl (fun _ _ _ => True) (sn156 a g) q156_0 ρ γ := by
  intro ρ γ h
  obtain ⟨ha, hg, hr, hf, hm, hc, hl⟩ := h
  have ha : a = [ρ 0, ρ 1, ρ 2, ρ 3, ρ 4, ρ 5, ρ 6, ρ 7, ρ 8, ρ 9, ρ 10, ρ 11, ρ 12, ρ 13, ρ 14, ρ 15, ρ 16, ρ 17, ρ 18, ρ 19, ρ 20] := ha
  subst ha
  subst hg
  have m0 : γ 0 1 0 10 = ρ 2 := zAllA hm 0
  have m1 : γ 0 40 0 (ρ 2) = ρ 3 := zAllA hm 1
  have m2 : γ 0 9 (ρ 3) 2 = ρ 4 := zAllA hm 2
  have m3 : γ 0 2 0 6 = ρ 5 := zAllA hm 3
  have m10 : γ 0 2 0 5 = ρ 12 := zAllA hm 10
  have l0 : sn115 [ρ 5, ρ 6, ρ 11, ρ 13] (γ 0) 0 0 (γ 1) := hS115 _ _ _ _ _ (zAllA hl 0)
  show sn156 [ρ 0, ρ 1, ρ 2, ρ 3, ρ 4, ρ 5, ρ 6, ρ 7, ρ 8, ρ 9, ρ 10, ρ 11, ρ 12, ρ 13, ρ 14, ρ 15, ρ 16, ρ 17, ρ 18, ρ 19, ρ 20] (γ 0) 0 0 (γ 1)
  refine Eq.symm ?_
  show fn156 [ρ 0, ρ 1] (γ 0) = _
  unfold fn156
  refine zLV (ρ 0) rfl (zLV (ρ 1) rfl (zLE m0 (zLE m1 (zLE m2 (zLE m3 (zLE m10 (zLE (show fn115 [] (γ 0) = (0, 0, γ 1) from l0.symm) ?_)))))))
  refine zLV (γ 1) rfl (zIN zQ0_ ?_)
  rfl
theorem vn156_1 {S : Nat → zSpc} (hS103 : zIm S 103 sn103) (hS109 : zIm S 109 sn109) (hS114 : zIm S 114 sn114) (hS115 : zIm S 115 sn115) (hS117 : zIm S 117 sn117) (hS120 : zIm S 120 sn120) (hS139 : zIm S 139 sn139) {a : List Int} {g : rHp} : ∀ (ρ : Nat → Int) (γ : Nat → rHp), zO 21 S a g q156_1 ρ γ → zGl (fun _ _ _ => True) (sn156 a g) q156_1 ρ γ := by
  intro ρ γ h
  obtain ⟨ha, hg, hr, hf, hm, hc, hl⟩ := h
  have ha : a = [ρ 0, ρ 1, ρ 2, ρ 3, ρ 4, ρ 5, ρ 6, ρ 7, ρ 8, ρ 9, ρ 10, ρ 11, ρ 12, ρ 13, ρ 14, ρ 15, ρ 16, ρ 17, ρ 18, ρ 19, ρ 20] := ha
  subst ha
  subst hg
  have r22 : (361 : Int) ≤ ρ 22 ∧ ρ 22 ≤ 361 := zRnA hr 22
  have r23 : ((-1) : Int) ≤ ρ 23 ∧ ρ 23 ≤ (-1) := zRnA hr 23
  obtain ⟨w_0, w_1⟩ : (ρ 22 = 361) ∧ (ρ 23 < 0) := ⟨by omega, by omega⟩
  have m0 : γ 0 1 0 10 = ρ 2 := zAllA hm 0
  have m1 : γ 0 40 0 (ρ 2) = ρ 3 := zAllA hm 1
  have m2 : γ 0 9 (ρ 3) 2 = ρ 4 := zAllA hm 2
  have m3 : γ 0 2 0 6 = ρ 5 := zAllA hm 3
  have m10 : γ 0 2 0 5 = ρ 12 := zAllA hm 10
  have m22 : γ 1 2 0 8 = ρ 22 := zAllA hm 22
  have c4 : γ 4 = rUp (γ 3) 10 (ρ 4 + 9 * ρ 3 + 1) 11 (ρ 23) := And.right (zChA hc 1)
  have l0 : sn115 [ρ 5, ρ 6, ρ 11, ρ 13] (γ 0) 0 1 (γ 1) := hS115 _ _ _ _ _ (zAllA hl 0)
  have l1 : sn103 [6, 0, ρ 1, ρ 2, ρ 3, ρ 4, ρ 9, ρ 10, ρ 7, ρ 16, ρ 17, ρ 18, ρ 19, ρ 20] (γ 1) 0 0 (γ 2) := hS103 _ _ _ _ _ (zAllA hl 1)
  have l2 : sn120 [ρ 0, ρ 14] (γ 2) 0 (ρ 23) (γ 3) := hS120 _ _ _ _ _ (zAllA hl 2)
  have l3 : sn109 [ρ 1, ρ 11] (γ 4) 0 0 (γ 5) := hS109 _ _ _ _ _ (zAllA hl 3)
  show sn156 [ρ 0, ρ 1, ρ 2, ρ 3, ρ 4, ρ 5, ρ 6, ρ 7, ρ 8, ρ 9, ρ 10, ρ 11, ρ 12, ρ 13, ρ 14, ρ 15, ρ 16, ρ 17, ρ 18, ρ 19, ρ 20] (γ 0) 0 0 (γ 5)
  refine Eq.symm ?_
  show fn156 [ρ 0, ρ 1] (γ 0) = _
  unfold fn156
  refine zLV (ρ 0) rfl (zLV (ρ 1) rfl (zLE m0 (zLE m1 (zLE m2 (zLE m3 (zLE m10 (zLE (show fn115 [] (γ 0) = (0, 1, γ 1) from l0.symm) ?_)))))))
  refine zLV (γ 1) rfl (zIP zQ1_ (zLE m22 (zIP w_0 (zLE (show fn103 [6, 0, ρ 1] (γ 1) = (0, 0, γ 2) from l1.symm) (zLV (γ 2) rfl (zLE (show fn120 [ρ 0] (γ 2) = (0, ρ 23, γ 3) from l2.symm) (zLV (γ 3) rfl ?_)))))))
  refine zLV (ρ 23) rfl (zLE c4.symm (zIP w_1 (zLE (show fn109 [ρ 1] (γ 4) = (0, 0, γ 5) from l3.symm) (zLV (γ 5) rfl ?_))))
  rfl
theorem vn156_2 {S : Nat → zSpc} (hS103 : zIm S 103 sn103) (hS109 : zIm S 109 sn109) (hS114 : zIm S 114 sn114) (hS115 : zIm S 115 sn115) (hS117 : zIm S 117 sn117) (hS120 : zIm S 120 sn120) (hS139 : zIm S 139 sn139) {a : List Int} {g : rHp} : ∀ (ρ : Nat → Int) (γ : Nat → rHp), zO 21 S a g q156_2 ρ γ → zGl (fun _ _ _ => True) (sn156 a g) q156_2 ρ γ := by
  intro ρ γ h
  obtain ⟨ha, hg, hr, hf, hm, hc, hl⟩ := h
  have ha : a = [ρ 0, ρ 1, ρ 2, ρ 3, ρ 4, ρ 5, ρ 6, ρ 7, ρ 8, ρ 9, ρ 10, ρ 11, ρ 12, ρ 13, ρ 14, ρ 15, ρ 16, ρ 17, ρ 18, ρ 19, ρ 20] := ha
  subst ha
  subst hg
  have r22 : (361 : Int) ≤ ρ 22 ∧ ρ 22 ≤ 361 := zRnA hr 22
  have r23 : (0 : Int) ≤ ρ 23 ∧ ρ 23 ≤ 7 := zRnA hr 23
  obtain ⟨w_0, w_1⟩ : (ρ 22 = 361) ∧ (¬ (ρ 23 < 0)) := ⟨by omega, by omega⟩
  have m0 : γ 0 1 0 10 = ρ 2 := zAllA hm 0
  have m1 : γ 0 40 0 (ρ 2) = ρ 3 := zAllA hm 1
  have m2 : γ 0 9 (ρ 3) 2 = ρ 4 := zAllA hm 2
  have m3 : γ 0 2 0 6 = ρ 5 := zAllA hm 3
  have m10 : γ 0 2 0 5 = ρ 12 := zAllA hm 10
  have m22 : γ 1 2 0 8 = ρ 22 := zAllA hm 22
  have c4 : γ 4 = rUp (γ 3) 10 (ρ 4 + 9 * ρ 3 + 1) 11 (ρ 23) := And.right (zChA hc 2)
  have l0 : sn115 [ρ 5, ρ 6, ρ 11, ρ 13] (γ 0) 0 1 (γ 1) := hS115 _ _ _ _ _ (zAllA hl 0)
  have l1 : sn103 [6, 0, ρ 1, ρ 2, ρ 3, ρ 4, ρ 9, ρ 10, ρ 7, ρ 16, ρ 17, ρ 18, ρ 19, ρ 20] (γ 1) 0 0 (γ 2) := hS103 _ _ _ _ _ (zAllA hl 1)
  have l2 : sn120 [ρ 0, ρ 14] (γ 2) 0 (ρ 23) (γ 3) := hS120 _ _ _ _ _ (zAllA hl 2)
  have l3 : sn117 [ρ 23, ρ 12] (γ 4) 0 0 (γ 5) := hS117 _ _ _ _ _ (zAllA hl 3)
  have l4 : sn139 [ρ 4 + 9 * ρ 3 + 1, ρ 21, ρ 6, 0, ρ 11, ρ 12, ρ 5, ρ 24, ρ 15] (γ 5) 0 0 (γ 6) := hS139 _ _ _ _ _ (zAllA hl 4)
  show sn156 [ρ 0, ρ 1, ρ 2, ρ 3, ρ 4, ρ 5, ρ 6, ρ 7, ρ 8, ρ 9, ρ 10, ρ 11, ρ 12, ρ 13, ρ 14, ρ 15, ρ 16, ρ 17, ρ 18, ρ 19, ρ 20] (γ 0) 0 0 (γ 6)
  refine Eq.symm ?_
  show fn156 [ρ 0, ρ 1] (γ 0) = _
  unfold fn156
  refine zLV (ρ 0) rfl (zLV (ρ 1) rfl (zLE m0 (zLE m1 (zLE m2 (zLE m3 (zLE m10 (zLE (show fn115 [] (γ 0) = (0, 1, γ 1) from l0.symm) ?_)))))))
  refine zLV (γ 1) rfl (zIP zQ1_ (zLE m22 (zIP w_0 (zLE (show fn103 [6, 0, ρ 1] (γ 1) = (0, 0, γ 2) from l1.symm) (zLV (γ 2) rfl (zLE (show fn120 [ρ 0] (γ 2) = (0, ρ 23, γ 3) from l2.symm) (zLV (γ 3) rfl ?_)))))))
  refine zLV (ρ 23) rfl (zLE c4.symm (zIN w_1 (zLE (show fn117 [ρ 23] (γ 4) = (0, 0, γ 5) from l3.symm) (zLV (γ 5) rfl (zIN zQ0_ (zLE (show fn139 [ρ 4 + 9 * ρ 3 + 1] (γ 5) = (0, 0, γ 6) from l4.symm) (zLV (γ 6) rfl ?_)))))))
  refine zIN zQ0_ ?_
  rfl
theorem vn156_3 {S : Nat → zSpc} (hS103 : zIm S 103 sn103) (hS109 : zIm S 109 sn109) (hS114 : zIm S 114 sn114) (hS115 : zIm S 115 sn115) (hS117 : zIm S 117 sn117) (hS120 : zIm S 120 sn120) (hS139 : zIm S 139 sn139) {a : List Int} {g : rHp} : ∀ (ρ : Nat → Int) (γ : Nat → rHp), zO 21 S a g q156_3 ρ γ → zGl (fun _ _ _ => True) (sn156 a g) q156_3 ρ γ := by
  intro ρ γ h
  obtain ⟨ha, hg, hr, hf, hm, hc, hl⟩ := h
  have ha : a = [ρ 0, ρ 1, ρ 2, ρ 3, ρ 4, ρ 5, ρ 6, ρ 7, ρ 8, ρ 9, ρ 10, ρ 11, ρ 12, ρ 13, ρ 14, ρ 15, ρ 16, ρ 17, ρ 18, ρ 19, ρ 20] := ha
  subst ha
  subst hg
  have r22 : (361 : Int) ≤ ρ 22 ∧ ρ 22 ≤ 361 := zRnA hr 22
  have r23 : (0 : Int) ≤ ρ 23 ∧ ρ 23 ≤ 7 := zRnA hr 23
  obtain ⟨w_0, w_1⟩ : (ρ 22 = 361) ∧ (¬ (ρ 23 < 0)) := ⟨by omega, by omega⟩
  have m0 : γ 0 1 0 10 = ρ 2 := zAllA hm 0
  have m1 : γ 0 40 0 (ρ 2) = ρ 3 := zAllA hm 1
  have m2 : γ 0 9 (ρ 3) 2 = ρ 4 := zAllA hm 2
  have m3 : γ 0 2 0 6 = ρ 5 := zAllA hm 3
  have m10 : γ 0 2 0 5 = ρ 12 := zAllA hm 10
  have m22 : γ 1 2 0 8 = ρ 22 := zAllA hm 22
  have m37 : γ 7 2 0 6 = ρ 29 := zAllA hm 37
  have c4 : γ 4 = rUp (γ 3) 10 (ρ 4 + 9 * ρ 3 + 1) 11 (ρ 23) := And.right (zChA hc 4)
  have l0 : sn115 [ρ 5, ρ 6, ρ 11, ρ 13] (γ 0) 0 1 (γ 1) := hS115 _ _ _ _ _ (zAllA hl 0)
  have l1 : sn103 [6, 0, ρ 1, ρ 2, ρ 3, ρ 4, ρ 9, ρ 10, ρ 7, ρ 16, ρ 17, ρ 18, ρ 19, ρ 20] (γ 1) 0 0 (γ 2) := hS103 _ _ _ _ _ (zAllA hl 1)
  have l2 : sn120 [ρ 0, ρ 14] (γ 2) 0 (ρ 23) (γ 3) := hS120 _ _ _ _ _ (zAllA hl 2)
  have l3 : sn117 [ρ 23, ρ 12] (γ 4) 0 0 (γ 5) := hS117 _ _ _ _ _ (zAllA hl 3)
  have l4 : sn139 [ρ 4 + 9 * ρ 3 + 1, ρ 21, ρ 6, 0, ρ 11, ρ 12, ρ 5, ρ 24, ρ 15] (γ 5) 0 1 (γ 6) := hS139 _ _ _ _ _ (zAllA hl 4)
  have l5 : sn114 [ρ 25, ρ 6] (γ 6) 0 (-1) (γ 7) := hS114 _ _ _ _ _ (zAllA hl 5)
  have l6 : sn109 [ρ 29, ρ 11] (γ 7) 0 0 (γ 8) := hS109 _ _ _ _ _ (zAllA hl 6)
  show sn156 [ρ 0, ρ 1, ρ 2, ρ 3, ρ 4, ρ 5, ρ 6, ρ 7, ρ 8, ρ 9, ρ 10, ρ 11, ρ 12, ρ 13, ρ 14, ρ 15, ρ 16, ρ 17, ρ 18, ρ 19, ρ 20] (γ 0) 0 0 (γ 8)
  refine Eq.symm ?_
  show fn156 [ρ 0, ρ 1] (γ 0) = _
  unfold fn156
  refine zLV (ρ 0) rfl (zLV (ρ 1) rfl (zLE m0 (zLE m1 (zLE m2 (zLE m3 (zLE m10 (zLE (show fn115 [] (γ 0) = (0, 1, γ 1) from l0.symm) ?_)))))))
  refine zLV (γ 1) rfl (zIP zQ1_ (zLE m22 (zIP w_0 (zLE (show fn103 [6, 0, ρ 1] (γ 1) = (0, 0, γ 2) from l1.symm) (zLV (γ 2) rfl (zLE (show fn120 [ρ 0] (γ 2) = (0, ρ 23, γ 3) from l2.symm) (zLV (γ 3) rfl ?_)))))))
  refine zLV (ρ 23) rfl (zLE c4.symm (zIN w_1 (zLE (show fn117 [ρ 23] (γ 4) = (0, 0, γ 5) from l3.symm) (zLV (γ 5) rfl (zIN zQ0_ (zLE (show fn139 [ρ 4 + 9 * ρ 3 + 1] (γ 5) = (0, 1, γ 6) from l4.symm) (zLV (γ 6) rfl ?_)))))))
  refine zIP zQ1_ (zLE (show fn114 [] (γ 6) = (0, (-1), γ 7) from l5.symm) (zLV (γ 7) rfl (zIN zQ2_ (zLE m37 (zLE (show fn109 [ρ 29] (γ 7) = (0, 0, γ 8) from l6.symm) (zLV (γ 8) rfl ?_))))))
  rfl
theorem vn156_4 {S : Nat → zSpc} (hS103 : zIm S 103 sn103) (hS109 : zIm S 109 sn109) (hS114 : zIm S 114 sn114) (hS115 : zIm S 115 sn115) (hS117 : zIm S 117 sn117) (hS120 : zIm S 120 sn120) (hS139 : zIm S 139 sn139) {a : List Int} {g : rHp} : ∀ (ρ : Nat → Int) (γ : Nat → rHp), zO 21 S a g q156_4 ρ γ → zGl (fun _ _ _ => True) (sn156 a g) q156_4 ρ γ := by
  intro ρ γ h
  obtain ⟨ha, hg, hr, hf, hm, hc, hl⟩ := h
  have ha : a = [ρ 0, ρ 1, ρ 2, ρ 3, ρ 4, ρ 5, ρ 6, ρ 7, ρ 8, ρ 9, ρ 10, ρ 11, ρ 12, ρ 13, ρ 14, ρ 15, ρ 16, ρ 17, ρ 18, ρ 19, ρ 20] := ha
  subst ha
  subst hg
  have r22 : (361 : Int) ≤ ρ 22 ∧ ρ 22 ≤ 361 := zRnA hr 22
  have r23 : (0 : Int) ≤ ρ 23 ∧ ρ 23 ≤ 7 := zRnA hr 23
  have r29 : (43 : Int) ≤ ρ 29 ∧ ρ 29 ≤ 43 := zRnA hr 29
  obtain ⟨w_0, w_1, w_2, w_3⟩ : (ρ 22 = 361) ∧ (¬ (ρ 23 < 0)) ∧ ((0 : Int) ≤ ρ 29) ∧ (ρ 29 = 43) := ⟨by omega, by omega, by omega, by omega⟩
  have m0 : γ 0 1 0 10 = ρ 2 := zAllA hm 0
  have m1 : γ 0 40 0 (ρ 2) = ρ 3 := zAllA hm 1
  have m2 : γ 0 9 (ρ 3) 2 = ρ 4 := zAllA hm 2
  have m3 : γ 0 2 0 6 = ρ 5 := zAllA hm 3
  have m10 : γ 0 2 0 5 = ρ 12 := zAllA hm 10
  have m22 : γ 1 2 0 8 = ρ 22 := zAllA hm 22
  have m37 : γ 7 2 0 6 = ρ 30 := zAllA hm 37
  have c4 : γ 4 = rUp (γ 3) 10 (ρ 4 + 9 * ρ 3 + 1) 11 (ρ 23) := And.right (zChA hc 6)
  have c8 : γ 8 = rUp (γ 7) 2 0 6 (ρ 30 + 1) := And.right (zChA hc 2)
  have c9 : γ 9 = rUp (γ 8) 10 (ρ 4 + 9 * ρ 3 + 1) 4 6 := And.right (zChA hc 1)
  have l0 : sn115 [ρ 5, ρ 6, ρ 11, ρ 13] (γ 0) 0 1 (γ 1) := hS115 _ _ _ _ _ (zAllA hl 0)
  have l1 : sn103 [6, 0, ρ 1, ρ 2, ρ 3, ρ 4, ρ 9, ρ 10, ρ 7, ρ 16, ρ 17, ρ 18, ρ 19, ρ 20] (γ 1) 0 0 (γ 2) := hS103 _ _ _ _ _ (zAllA hl 1)
  have l2 : sn120 [ρ 0, ρ 14] (γ 2) 0 (ρ 23) (γ 3) := hS120 _ _ _ _ _ (zAllA hl 2)
  have l3 : sn117 [ρ 23, ρ 12] (γ 4) 0 0 (γ 5) := hS117 _ _ _ _ _ (zAllA hl 3)
  have l4 : sn139 [ρ 4 + 9 * ρ 3 + 1, ρ 21, ρ 6, 0, ρ 11, ρ 12, ρ 5, ρ 24, ρ 15] (γ 5) 0 1 (γ 6) := hS139 _ _ _ _ _ (zAllA hl 4)
  have l5 : sn114 [ρ 25, ρ 6] (γ 6) 0 (ρ 29) (γ 7) := hS114 _ _ _ _ _ (zAllA hl 5)
  have l6 : sn139 [ρ 4 + 9 * ρ 3 + 1, ρ 30 + 1, ρ 6, ρ 26, ρ 11, ρ 12, ρ 27, ρ 24, ρ 28] (γ 9) 0 0 (γ 10) := hS139 _ _ _ _ _ (zAllA hl 6)
  show sn156 [ρ 0, ρ 1, ρ 2, ρ 3, ρ 4, ρ 5, ρ 6, ρ 7, ρ 8, ρ 9, ρ 10, ρ 11, ρ 12, ρ 13, ρ 14, ρ 15, ρ 16, ρ 17, ρ 18, ρ 19, ρ 20] (γ 0) 0 0 (γ 10)
  refine Eq.symm ?_
  show fn156 [ρ 0, ρ 1] (γ 0) = _
  unfold fn156
  refine zLV (ρ 0) rfl (zLV (ρ 1) rfl (zLE m0 (zLE m1 (zLE m2 (zLE m3 (zLE m10 (zLE (show fn115 [] (γ 0) = (0, 1, γ 1) from l0.symm) ?_)))))))
  refine zLV (γ 1) rfl (zIP zQ1_ (zLE m22 (zIP w_0 (zLE (show fn103 [6, 0, ρ 1] (γ 1) = (0, 0, γ 2) from l1.symm) (zLV (γ 2) rfl (zLE (show fn120 [ρ 0] (γ 2) = (0, ρ 23, γ 3) from l2.symm) (zLV (γ 3) rfl ?_)))))))
  refine zLV (ρ 23) rfl (zLE c4.symm (zIN w_1 (zLE (show fn117 [ρ 23] (γ 4) = (0, 0, γ 5) from l3.symm) (zLV (γ 5) rfl (zIN zQ0_ (zLE (show fn139 [ρ 4 + 9 * ρ 3 + 1] (γ 5) = (0, 1, γ 6) from l4.symm) (zLV (γ 6) rfl ?_)))))))
  refine zIP zQ1_ (zLE (show fn114 [] (γ 6) = (0, ρ 29, γ 7) from l5.symm) (zLV (γ 7) rfl (zIP w_2 (zLV (ρ 29) rfl (zLE m37 (zIP w_3 (zLE c8.symm ?_)))))))
  refine zLE c9.symm (zLE (show fn139 [ρ 4 + 9 * ρ 3 + 1] (γ 9) = (0, 0, γ 10) from l6.symm) (zLV (γ 10) rfl (zIN zQ0_ ?_)))
  rfl
theorem vn156_5 {S : Nat → zSpc} (hS103 : zIm S 103 sn103) (hS109 : zIm S 109 sn109) (hS114 : zIm S 114 sn114) (hS115 : zIm S 115 sn115) (hS117 : zIm S 117 sn117) (hS120 : zIm S 120 sn120) (hS139 : zIm S 139 sn139) {a : List Int} {g : rHp} : ∀ (ρ : Nat → Int) (γ : Nat → rHp), zO 21 S a g q156_5 ρ γ → zGl (fun _ _ _ => True) (sn156 a g) q156_5 ρ γ := by
  intro ρ γ h
  obtain ⟨ha, hg, hr, hf, hm, hc, hl⟩ := h
  have ha : a = [ρ 0, ρ 1, ρ 2, ρ 3, ρ 4, ρ 5, ρ 6, ρ 7, ρ 8, ρ 9, ρ 10, ρ 11, ρ 12, ρ 13, ρ 14, ρ 15, ρ 16, ρ 17, ρ 18, ρ 19, ρ 20] := ha
  subst ha
  subst hg
  have r22 : (361 : Int) ≤ ρ 22 ∧ ρ 22 ≤ 361 := zRnA hr 22
  have r23 : (0 : Int) ≤ ρ 23 ∧ ρ 23 ≤ 7 := zRnA hr 23
  have r29 : (43 : Int) ≤ ρ 29 ∧ ρ 29 ≤ 43 := zRnA hr 29
  obtain ⟨w_0, w_1, w_2, w_3⟩ : (ρ 22 = 361) ∧ (¬ (ρ 23 < 0)) ∧ ((0 : Int) ≤ ρ 29) ∧ (ρ 29 = 43) := ⟨by omega, by omega, by omega, by omega⟩
  have m0 : γ 0 1 0 10 = ρ 2 := zAllA hm 0
  have m1 : γ 0 40 0 (ρ 2) = ρ 3 := zAllA hm 1
  have m2 : γ 0 9 (ρ 3) 2 = ρ 4 := zAllA hm 2
  have m3 : γ 0 2 0 6 = ρ 5 := zAllA hm 3
  have m10 : γ 0 2 0 5 = ρ 12 := zAllA hm 10
  have m22 : γ 1 2 0 8 = ρ 22 := zAllA hm 22
  have m37 : γ 7 2 0 6 = ρ 30 := zAllA hm 37
  have c4 : γ 4 = rUp (γ 3) 10 (ρ 4 + 9 * ρ 3 + 1) 11 (ρ 23) := And.right (zChA hc 7)
  have c8 : γ 8 = rUp (γ 7) 2 0 6 (ρ 30 + 1) := And.right (zChA hc 3)
  have c9 : γ 9 = rUp (γ 8) 10 (ρ 4 + 9 * ρ 3 + 1) 4 6 := And.right (zChA hc 2)
  have c11 : γ 11 = rUp (γ 10) 2 0 5 (ρ 36) := And.right (zChA hc 0)
  have l0 : sn115 [ρ 5, ρ 6, ρ 11, ρ 13] (γ 0) 0 1 (γ 1) := hS115 _ _ _ _ _ (zAllA hl 0)
  have l1 : sn103 [6, 0, ρ 1, ρ 2, ρ 3, ρ 4, ρ 9, ρ 10, ρ 7, ρ 16, ρ 17, ρ 18, ρ 19, ρ 20] (γ 1) 0 0 (γ 2) := hS103 _ _ _ _ _ (zAllA hl 1)
  have l2 : sn120 [ρ 0, ρ 14] (γ 2) 0 (ρ 23) (γ 3) := hS120 _ _ _ _ _ (zAllA hl 2)
  have l3 : sn117 [ρ 23, ρ 12] (γ 4) 0 0 (γ 5) := hS117 _ _ _ _ _ (zAllA hl 3)
  have l4 : sn139 [ρ 4 + 9 * ρ 3 + 1, ρ 21, ρ 6, 0, ρ 11, ρ 12, ρ 5, ρ 24, ρ 15] (γ 5) 0 1 (γ 6) := hS139 _ _ _ _ _ (zAllA hl 4)
  have l5 : sn114 [ρ 25, ρ 6] (γ 6) 0 (ρ 29) (γ 7) := hS114 _ _ _ _ _ (zAllA hl 5)
  have l6 : sn139 [ρ 4 + 9 * ρ 3 + 1, ρ 30 + 1, ρ 6, ρ 26, ρ 11, ρ 12, ρ 27, ρ 24, ρ 28] (γ 9) 0 1 (γ 10) := hS139 _ _ _ _ _ (zAllA hl 6)
  have l7 : zOpP (.ishl) (γ 0) (γ 1) [1, ρ 23] (ρ 35) := zAllA hl 7
  have l8 : zOpP (.ior) (γ 0) (γ 1) [ρ 12, ρ 35] (ρ 36) := zAllA hl 8
  show sn156 [ρ 0, ρ 1, ρ 2, ρ 3, ρ 4, ρ 5, ρ 6, ρ 7, ρ 8, ρ 9, ρ 10, ρ 11, ρ 12, ρ 13, ρ 14, ρ 15, ρ 16, ρ 17, ρ 18, ρ 19, ρ 20] (γ 0) 0 1 (γ 11)
  refine Eq.symm ?_
  show fn156 [ρ 0, ρ 1] (γ 0) = _
  unfold fn156
  refine zLV (ρ 0) rfl (zLV (ρ 1) rfl (zLE m0 (zLE m1 (zLE m2 (zLE m3 (zLE m10 (zLE (show fn115 [] (γ 0) = (0, 1, γ 1) from l0.symm) ?_)))))))
  refine zLV (γ 1) rfl (zIP zQ1_ (zLE m22 (zIP w_0 (zLE (show fn103 [6, 0, ρ 1] (γ 1) = (0, 0, γ 2) from l1.symm) (zLV (γ 2) rfl (zLE (show fn120 [ρ 0] (γ 2) = (0, ρ 23, γ 3) from l2.symm) (zLV (γ 3) rfl ?_)))))))
  refine zLV (ρ 23) rfl (zLE c4.symm (zIN w_1 (zLE (show fn117 [ρ 23] (γ 4) = (0, 0, γ 5) from l3.symm) (zLV (γ 5) rfl (zIN zQ0_ (zLE (show fn139 [ρ 4 + 9 * ρ 3 + 1] (γ 5) = (0, 1, γ 6) from l4.symm) (zLV (γ 6) rfl ?_)))))))
  refine zIP zQ1_ (zLE (show fn114 [] (γ 6) = (0, ρ 29, γ 7) from l5.symm) (zLV (γ 7) rfl (zIP w_2 (zLV (ρ 29) rfl (zLE m37 (zIP w_3 (zLE c8.symm ?_)))))))
  refine zLE c9.symm (zLE (show fn139 [ρ 4 + 9 * ρ 3 + 1] (γ 9) = (0, 1, γ 10) from l6.symm) (zLV (γ 10) rfl (zIP zQ1_ (zLE (zF2_ok l7) (zLE (zF2_ok l8) (zLE c11.symm ?_))))))
  rfl
theorem vn156_6 {S : Nat → zSpc} (hS103 : zIm S 103 sn103) (hS109 : zIm S 109 sn109) (hS114 : zIm S 114 sn114) (hS115 : zIm S 115 sn115) (hS117 : zIm S 117 sn117) (hS120 : zIm S 120 sn120) (hS139 : zIm S 139 sn139) {a : List Int} {g : rHp} : ∀ (ρ : Nat → Int) (γ : Nat → rHp), zO 21 S a g q156_6 ρ γ → zGl (fun _ _ _ => True) (sn156 a g) q156_6 ρ γ := by
  intro ρ γ h
  obtain ⟨ha, hg, hr, hf, hm, hc, hl⟩ := h
  have ha : a = [ρ 0, ρ 1, ρ 2, ρ 3, ρ 4, ρ 5, ρ 6, ρ 7, ρ 8, ρ 9, ρ 10, ρ 11, ρ 12, ρ 13, ρ 14, ρ 15, ρ 16, ρ 17, ρ 18, ρ 19, ρ 20] := ha
  subst ha
  subst hg
  have r22 : (361 : Int) ≤ ρ 22 ∧ ρ 22 ≤ 361 := zRnA hr 22
  have r23 : (0 : Int) ≤ ρ 23 ∧ ρ 23 ≤ 7 := zRnA hr 23
  have r29 : (45 : Int) ≤ ρ 29 ∧ ρ 29 ≤ 45 := zRnA hr 29
  obtain ⟨w_0, w_1, w_2, w_3, w_4⟩ : (ρ 22 = 361) ∧ (¬ (ρ 23 < 0)) ∧ ((0 : Int) ≤ ρ 29) ∧ (¬ (ρ 29 = 43)) ∧ (ρ 29 = 45) := ⟨by omega, by omega, by omega, by omega, by omega⟩
  have m0 : γ 0 1 0 10 = ρ 2 := zAllA hm 0
  have m1 : γ 0 40 0 (ρ 2) = ρ 3 := zAllA hm 1
  have m2 : γ 0 9 (ρ 3) 2 = ρ 4 := zAllA hm 2
  have m3 : γ 0 2 0 6 = ρ 5 := zAllA hm 3
  have m10 : γ 0 2 0 5 = ρ 12 := zAllA hm 10
  have m22 : γ 1 2 0 8 = ρ 22 := zAllA hm 22
  have m37 : γ 7 2 0 6 = ρ 30 := zAllA hm 37
  have c4 : γ 4 = rUp (γ 3) 10 (ρ 4 + 9 * ρ 3 + 1) 11 (ρ 23) := And.right (zChA hc 6)
  have c8 : γ 8 = rUp (γ 7) 2 0 6 (ρ 30 + 1) := And.right (zChA hc 2)
  have c9 : γ 9 = rUp (γ 8) 10 (ρ 4 + 9 * ρ 3 + 1) 4 7 := And.right (zChA hc 1)
  have l0 : sn115 [ρ 5, ρ 6, ρ 11, ρ 13] (γ 0) 0 1 (γ 1) := hS115 _ _ _ _ _ (zAllA hl 0)
  have l1 : sn103 [6, 0, ρ 1, ρ 2, ρ 3, ρ 4, ρ 9, ρ 10, ρ 7, ρ 16, ρ 17, ρ 18, ρ 19, ρ 20] (γ 1) 0 0 (γ 2) := hS103 _ _ _ _ _ (zAllA hl 1)
  have l2 : sn120 [ρ 0, ρ 14] (γ 2) 0 (ρ 23) (γ 3) := hS120 _ _ _ _ _ (zAllA hl 2)
  have l3 : sn117 [ρ 23, ρ 12] (γ 4) 0 0 (γ 5) := hS117 _ _ _ _ _ (zAllA hl 3)
  have l4 : sn139 [ρ 4 + 9 * ρ 3 + 1, ρ 21, ρ 6, 0, ρ 11, ρ 12, ρ 5, ρ 24, ρ 15] (γ 5) 0 1 (γ 6) := hS139 _ _ _ _ _ (zAllA hl 4)
  have l5 : sn114 [ρ 25, ρ 6] (γ 6) 0 (ρ 29) (γ 7) := hS114 _ _ _ _ _ (zAllA hl 5)
  have l6 : ρ 29 ≠ 43 := zAllA hl 6
  have l7 : sn139 [ρ 4 + 9 * ρ 3 + 1, ρ 30 + 1, ρ 6, ρ 26, ρ 11, ρ 12, ρ 27, ρ 24, ρ 28] (γ 9) 0 0 (γ 10) := hS139 _ _ _ _ _ (zAllA hl 7)
  show sn156 [ρ 0, ρ 1, ρ 2, ρ 3, ρ 4, ρ 5, ρ 6, ρ 7, ρ 8, ρ 9, ρ 10, ρ 11, ρ 12, ρ 13, ρ 14, ρ 15, ρ 16, ρ 17, ρ 18, ρ 19, ρ 20] (γ 0) 0 0 (γ 10)
  refine Eq.symm ?_
  show fn156 [ρ 0, ρ 1] (γ 0) = _
  unfold fn156
  refine zLV (ρ 0) rfl (zLV (ρ 1) rfl (zLE m0 (zLE m1 (zLE m2 (zLE m3 (zLE m10 (zLE (show fn115 [] (γ 0) = (0, 1, γ 1) from l0.symm) ?_)))))))
  refine zLV (γ 1) rfl (zIP zQ1_ (zLE m22 (zIP w_0 (zLE (show fn103 [6, 0, ρ 1] (γ 1) = (0, 0, γ 2) from l1.symm) (zLV (γ 2) rfl (zLE (show fn120 [ρ 0] (γ 2) = (0, ρ 23, γ 3) from l2.symm) (zLV (γ 3) rfl ?_)))))))
  refine zLV (ρ 23) rfl (zLE c4.symm (zIN w_1 (zLE (show fn117 [ρ 23] (γ 4) = (0, 0, γ 5) from l3.symm) (zLV (γ 5) rfl (zIN zQ0_ (zLE (show fn139 [ρ 4 + 9 * ρ 3 + 1] (γ 5) = (0, 1, γ 6) from l4.symm) (zLV (γ 6) rfl ?_)))))))
  refine zIP zQ1_ (zLE (show fn114 [] (γ 6) = (0, ρ 29, γ 7) from l5.symm) (zLV (γ 7) rfl (zIP w_2 (zLV (ρ 29) rfl (zLE m37 (zIN w_3 (zIP w_4 ?_)))))))
  refine zLE c8.symm (zLE c9.symm (zLE (show fn139 [ρ 4 + 9 * ρ 3 + 1] (γ 9) = (0, 0, γ 10) from l7.symm) (zLV (γ 10) rfl (zIN zQ0_ ?_))))
  rfl
theorem vn156_7 {S : Nat → zSpc} (hS103 : zIm S 103 sn103) (hS109 : zIm S 109 sn109) (hS114 : zIm S 114 sn114) (hS115 : zIm S 115 sn115) (hS117 : zIm S 117 sn117) (hS120 : zIm S 120 sn120) (hS139 : zIm S 139 sn139) {a : List Int} {g : rHp} : ∀ (ρ : Nat → Int) (γ : Nat → rHp), zO 21 S a g q156_7 ρ γ → zGl (fun _ _ _ => True) (sn156 a g) q156_7 ρ γ := by
  intro ρ γ h
  obtain ⟨ha, hg, hr, hf, hm, hc, hl⟩ := h
  have ha : a = [ρ 0, ρ 1, ρ 2, ρ 3, ρ 4, ρ 5, ρ 6, ρ 7, ρ 8, ρ 9, ρ 10, ρ 11, ρ 12, ρ 13, ρ 14, ρ 15, ρ 16, ρ 17, ρ 18, ρ 19, ρ 20] := ha
  subst ha
  subst hg
  have r22 : (361 : Int) ≤ ρ 22 ∧ ρ 22 ≤ 361 := zRnA hr 22
  have r23 : (0 : Int) ≤ ρ 23 ∧ ρ 23 ≤ 7 := zRnA hr 23
  have r29 : (45 : Int) ≤ ρ 29 ∧ ρ 29 ≤ 45 := zRnA hr 29
  obtain ⟨w_0, w_1, w_2, w_3, w_4⟩ : (ρ 22 = 361) ∧ (¬ (ρ 23 < 0)) ∧ ((0 : Int) ≤ ρ 29) ∧ (¬ (ρ 29 = 43)) ∧ (ρ 29 = 45) := ⟨by omega, by omega, by omega, by omega, by omega⟩
  have m0 : γ 0 1 0 10 = ρ 2 := zAllA hm 0
  have m1 : γ 0 40 0 (ρ 2) = ρ 3 := zAllA hm 1
  have m2 : γ 0 9 (ρ 3) 2 = ρ 4 := zAllA hm 2
  have m3 : γ 0 2 0 6 = ρ 5 := zAllA hm 3
  have m10 : γ 0 2 0 5 = ρ 12 := zAllA hm 10
  have m22 : γ 1 2 0 8 = ρ 22 := zAllA hm 22
  have m37 : γ 7 2 0 6 = ρ 30 := zAllA hm 37
  have c4 : γ 4 = rUp (γ 3) 10 (ρ 4 + 9 * ρ 3 + 1) 11 (ρ 23) := And.right (zChA hc 7)
  have c8 : γ 8 = rUp (γ 7) 2 0 6 (ρ 30 + 1) := And.right (zChA hc 3)
  have c9 : γ 9 = rUp (γ 8) 10 (ρ 4 + 9 * ρ 3 + 1) 4 7 := And.right (zChA hc 2)
  have c11 : γ 11 = rUp (γ 10) 2 0 5 (ρ 36) := And.right (zChA hc 0)
  have l0 : sn115 [ρ 5, ρ 6, ρ 11, ρ 13] (γ 0) 0 1 (γ 1) := hS115 _ _ _ _ _ (zAllA hl 0)
  have l1 : sn103 [6, 0, ρ 1, ρ 2, ρ 3, ρ 4, ρ 9, ρ 10, ρ 7, ρ 16, ρ 17, ρ 18, ρ 19, ρ 20] (γ 1) 0 0 (γ 2) := hS103 _ _ _ _ _ (zAllA hl 1)
  have l2 : sn120 [ρ 0, ρ 14] (γ 2) 0 (ρ 23) (γ 3) := hS120 _ _ _ _ _ (zAllA hl 2)
  have l3 : sn117 [ρ 23, ρ 12] (γ 4) 0 0 (γ 5) := hS117 _ _ _ _ _ (zAllA hl 3)
  have l4 : sn139 [ρ 4 + 9 * ρ 3 + 1, ρ 21, ρ 6, 0, ρ 11, ρ 12, ρ 5, ρ 24, ρ 15] (γ 5) 0 1 (γ 6) := hS139 _ _ _ _ _ (zAllA hl 4)
  have l5 : sn114 [ρ 25, ρ 6] (γ 6) 0 (ρ 29) (γ 7) := hS114 _ _ _ _ _ (zAllA hl 5)
  have l6 : ρ 29 ≠ 43 := zAllA hl 6
  have l7 : sn139 [ρ 4 + 9 * ρ 3 + 1, ρ 30 + 1, ρ 6, ρ 26, ρ 11, ρ 12, ρ 27, ρ 24, ρ 28] (γ 9) 0 1 (γ 10) := hS139 _ _ _ _ _ (zAllA hl 7)
  have l8 : zOpP (.ishl) (γ 0) (γ 1) [1, ρ 23] (ρ 35) := zAllA hl 8
  have l9 : zOpP (.ior) (γ 0) (γ 1) [ρ 12, ρ 35] (ρ 36) := zAllA hl 9
  show sn156 [ρ 0, ρ 1, ρ 2, ρ 3, ρ 4, ρ 5, ρ 6, ρ 7, ρ 8, ρ 9, ρ 10, ρ 11, ρ 12, ρ 13, ρ 14, ρ 15, ρ 16, ρ 17, ρ 18, ρ 19, ρ 20] (γ 0) 0 1 (γ 11)
  refine Eq.symm ?_
  show fn156 [ρ 0, ρ 1] (γ 0) = _
  unfold fn156
  refine zLV (ρ 0) rfl (zLV (ρ 1) rfl (zLE m0 (zLE m1 (zLE m2 (zLE m3 (zLE m10 (zLE (show fn115 [] (γ 0) = (0, 1, γ 1) from l0.symm) ?_)))))))
  refine zLV (γ 1) rfl (zIP zQ1_ (zLE m22 (zIP w_0 (zLE (show fn103 [6, 0, ρ 1] (γ 1) = (0, 0, γ 2) from l1.symm) (zLV (γ 2) rfl (zLE (show fn120 [ρ 0] (γ 2) = (0, ρ 23, γ 3) from l2.symm) (zLV (γ 3) rfl ?_)))))))
  refine zLV (ρ 23) rfl (zLE c4.symm (zIN w_1 (zLE (show fn117 [ρ 23] (γ 4) = (0, 0, γ 5) from l3.symm) (zLV (γ 5) rfl (zIN zQ0_ (zLE (show fn139 [ρ 4 + 9 * ρ 3 + 1] (γ 5) = (0, 1, γ 6) from l4.symm) (zLV (γ 6) rfl ?_)))))))
  refine zIP zQ1_ (zLE (show fn114 [] (γ 6) = (0, ρ 29, γ 7) from l5.symm) (zLV (γ 7) rfl (zIP w_2 (zLV (ρ 29) rfl (zLE m37 (zIN w_3 (zIP w_4 ?_)))))))
  refine zLE c8.symm (zLE c9.symm (zLE (show fn139 [ρ 4 + 9 * ρ 3 + 1] (γ 9) = (0, 1, γ 10) from l7.symm) (zLV (γ 10) rfl (zIP zQ1_ (zLE (zF2_ok l8) (zLE (zF2_ok l9) (zLE c11.symm ?_)))))))
  rfl
theorem vn156_8 {S : Nat → zSpc} (hS103 : zIm S 103 sn103) (hS109 : zIm S 109 sn109) (hS114 : zIm S 114 sn114) (hS115 : zIm S 115 sn115) (hS117 : zIm S 117 sn117) (hS120 : zIm S 120 sn120) (hS139 : zIm S 139 sn139) {a : List Int} {g : rHp} : ∀ (ρ : Nat → Int) (γ : Nat → rHp), zO 21 S a g q156_8 ρ γ → zGl (fun _ _ _ => True) (sn156 a g) q156_8 ρ γ := by
  intro ρ γ h
  obtain ⟨ha, hg, hr, hf, hm, hc, hl⟩ := h
  have ha : a = [ρ 0, ρ 1, ρ 2, ρ 3, ρ 4, ρ 5, ρ 6, ρ 7, ρ 8, ρ 9, ρ 10, ρ 11, ρ 12, ρ 13, ρ 14, ρ 15, ρ 16, ρ 17, ρ 18, ρ 19, ρ 20] := ha
  subst ha
  subst hg
  have r22 : (361 : Int) ≤ ρ 22 ∧ ρ 22 ≤ 361 := zRnA hr 22
  have r23 : (0 : Int) ≤ ρ 23 ∧ ρ 23 ≤ 7 := zRnA hr 23
  have r29 : (42 : Int) ≤ ρ 29 ∧ ρ 29 ≤ 42 := zRnA hr 29
  obtain ⟨w_0, w_1, w_2, w_3, w_4, w_5⟩ : (ρ 22 = 361) ∧ (¬ (ρ 23 < 0)) ∧ ((0 : Int) ≤ ρ 29) ∧ (¬ (ρ 29 = 43)) ∧ (¬ (ρ 29 = 45)) ∧ (ρ 29 = 42) := ⟨by omega, by omega, by omega, by omega, by omega, by omega⟩
  have m0 : γ 0 1 0 10 = ρ 2 := zAllA hm 0
  have m1 : γ 0 40 0 (ρ 2) = ρ 3 := zAllA hm 1
  have m2 : γ 0 9 (ρ 3) 2 = ρ 4 := zAllA hm 2
  have m3 : γ 0 2 0 6 = ρ 5 := zAllA hm 3
  have m10 : γ 0 2 0 5 = ρ 12 := zAllA hm 10
  have m22 : γ 1 2 0 8 = ρ 22 := zAllA hm 22
  have m37 : γ 7 2 0 6 = ρ 30 := zAllA hm 37
  have c4 : γ 4 = rUp (γ 3) 10 (ρ 4 + 9 * ρ 3 + 1) 11 (ρ 23) := And.right (zChA hc 6)
  have c8 : γ 8 = rUp (γ 7) 2 0 6 (ρ 30 + 1) := And.right (zChA hc 2)
  have c9 : γ 9 = rUp (γ 8) 10 (ρ 4 + 9 * ρ 3 + 1) 4 8 := And.right (zChA hc 1)
  have l0 : sn115 [ρ 5, ρ 6, ρ 11, ρ 13] (γ 0) 0 1 (γ 1) := hS115 _ _ _ _ _ (zAllA hl 0)
  have l1 : sn103 [6, 0, ρ 1, ρ 2, ρ 3, ρ 4, ρ 9, ρ 10, ρ 7, ρ 16, ρ 17, ρ 18, ρ 19, ρ 20] (γ 1) 0 0 (γ 2) := hS103 _ _ _ _ _ (zAllA hl 1)
  have l2 : sn120 [ρ 0, ρ 14] (γ 2) 0 (ρ 23) (γ 3) := hS120 _ _ _ _ _ (zAllA hl 2)
  have l3 : sn117 [ρ 23, ρ 12] (γ 4) 0 0 (γ 5) := hS117 _ _ _ _ _ (zAllA hl 3)
  have l4 : sn139 [ρ 4 + 9 * ρ 3 + 1, ρ 21, ρ 6, 0, ρ 11, ρ 12, ρ 5, ρ 24, ρ 15] (γ 5) 0 1 (γ 6) := hS139 _ _ _ _ _ (zAllA hl 4)
  have l5 : sn114 [ρ 25, ρ 6] (γ 6) 0 (ρ 29) (γ 7) := hS114 _ _ _ _ _ (zAllA hl 5)
  have l6 : ρ 29 ≠ 43 := zAllA hl 6
  have l7 : ρ 29 ≠ 45 := zAllA hl 7
  have l8 : sn139 [ρ 4 + 9 * ρ 3 + 1, ρ 30 + 1, ρ 6, ρ 26, ρ 11, ρ 12, ρ 27, ρ 24, ρ 28] (γ 9) 0 0 (γ 10) := hS139 _ _ _ _ _ (zAllA hl 8)
  show sn156 [ρ 0, ρ 1, ρ 2, ρ 3, ρ 4, ρ 5, ρ 6, ρ 7, ρ 8, ρ 9, ρ 10, ρ 11, ρ 12, ρ 13, ρ 14, ρ 15, ρ 16, ρ 17, ρ 18, ρ 19, ρ 20] (γ 0) 0 0 (γ 10)
  refine Eq.symm ?_
  show fn156 [ρ 0, ρ 1] (γ 0) = _
  unfold fn156
  refine zLV (ρ 0) rfl (zLV (ρ 1) rfl (zLE m0 (zLE m1 (zLE m2 (zLE m3 (zLE m10 (zLE (show fn115 [] (γ 0) = (0, 1, γ 1) from l0.symm) ?_)))))))
  refine zLV (γ 1) rfl (zIP zQ1_ (zLE m22 (zIP w_0 (zLE (show fn103 [6, 0, ρ 1] (γ 1) = (0, 0, γ 2) from l1.symm) (zLV (γ 2) rfl (zLE (show fn120 [ρ 0] (γ 2) = (0, ρ 23, γ 3) from l2.symm) (zLV (γ 3) rfl ?_)))))))
  refine zLV (ρ 23) rfl (zLE c4.symm (zIN w_1 (zLE (show fn117 [ρ 23] (γ 4) = (0, 0, γ 5) from l3.symm) (zLV (γ 5) rfl (zIN zQ0_ (zLE (show fn139 [ρ 4 + 9 * ρ 3 + 1] (γ 5) = (0, 1, γ 6) from l4.symm) (zLV (γ 6) rfl ?_)))))))
  refine zIP zQ1_ (zLE (show fn114 [] (γ 6) = (0, ρ 29, γ 7) from l5.symm) (zLV (γ 7) rfl (zIP w_2 (zLV (ρ 29) rfl (zLE m37 (zIN w_3 (zIN w_4 ?_)))))))
  refine zIP w_5 (zLE c8.symm (zLE c9.symm (zLE (show fn139 [ρ 4 + 9 * ρ 3 + 1] (γ 9) = (0, 0, γ 10) from l8.symm) (zLV (γ 10) rfl (zIN zQ0_ ?_)))))
  rfl
theorem vn156_9 {S : Nat → zSpc} (hS103 : zIm S 103 sn103) (hS109 : zIm S 109 sn109) (hS114 : zIm S 114 sn114) (hS115 : zIm S 115 sn115) (hS117 : zIm S 117 sn117) (hS120 : zIm S 120 sn120) (hS139 : zIm S 139 sn139) {a : List Int} {g : rHp} : ∀ (ρ : Nat → Int) (γ : Nat → rHp), zO 21 S a g q156_9 ρ γ → zGl (fun _ _ _ => True) (sn156 a g) q156_9 ρ γ := by
  intro ρ γ h
  obtain ⟨ha, hg, hr, hf, hm, hc, hl⟩ := h
  have ha : a = [ρ 0, ρ 1, ρ 2, ρ 3, ρ 4, ρ 5, ρ 6, ρ 7, ρ 8, ρ 9, ρ 10, ρ 11, ρ 12, ρ 13, ρ 14, ρ 15, ρ 16, ρ 17, ρ 18, ρ 19, ρ 20] := ha
  subst ha
  subst hg
  have r22 : (361 : Int) ≤ ρ 22 ∧ ρ 22 ≤ 361 := zRnA hr 22
  have r23 : (0 : Int) ≤ ρ 23 ∧ ρ 23 ≤ 7 := zRnA hr 23
  have r29 : (42 : Int) ≤ ρ 29 ∧ ρ 29 ≤ 42 := zRnA hr 29
  obtain ⟨w_0, w_1, w_2, w_3, w_4, w_5⟩ : (ρ 22 = 361) ∧ (¬ (ρ 23 < 0)) ∧ ((0 : Int) ≤ ρ 29) ∧ (¬ (ρ 29 = 43)) ∧ (¬ (ρ 29 = 45)) ∧ (ρ 29 = 42) := ⟨by omega, by omega, by omega, by omega, by omega, by omega⟩
  have m0 : γ 0 1 0 10 = ρ 2 := zAllA hm 0
  have m1 : γ 0 40 0 (ρ 2) = ρ 3 := zAllA hm 1
  have m2 : γ 0 9 (ρ 3) 2 = ρ 4 := zAllA hm 2
  have m3 : γ 0 2 0 6 = ρ 5 := zAllA hm 3
  have m10 : γ 0 2 0 5 = ρ 12 := zAllA hm 10
  have m22 : γ 1 2 0 8 = ρ 22 := zAllA hm 22
  have m37 : γ 7 2 0 6 = ρ 30 := zAllA hm 37
  have c4 : γ 4 = rUp (γ 3) 10 (ρ 4 + 9 * ρ 3 + 1) 11 (ρ 23) := And.right (zChA hc 7)
  have c8 : γ 8 = rUp (γ 7) 2 0 6 (ρ 30 + 1) := And.right (zChA hc 3)
  have c9 : γ 9 = rUp (γ 8) 10 (ρ 4 + 9 * ρ 3 + 1) 4 8 := And.right (zChA hc 2)
  have c11 : γ 11 = rUp (γ 10) 2 0 5 (ρ 36) := And.right (zChA hc 0)
  have l0 : sn115 [ρ 5, ρ 6, ρ 11, ρ 13] (γ 0) 0 1 (γ 1) := hS115 _ _ _ _ _ (zAllA hl 0)
  have l1 : sn103 [6, 0, ρ 1, ρ 2, ρ 3, ρ 4, ρ 9, ρ 10, ρ 7, ρ 16, ρ 17, ρ 18, ρ 19, ρ 20] (γ 1) 0 0 (γ 2) := hS103 _ _ _ _ _ (zAllA hl 1)
  have l2 : sn120 [ρ 0, ρ 14] (γ 2) 0 (ρ 23) (γ 3) := hS120 _ _ _ _ _ (zAllA hl 2)
  have l3 : sn117 [ρ 23, ρ 12] (γ 4) 0 0 (γ 5) := hS117 _ _ _ _ _ (zAllA hl 3)
  have l4 : sn139 [ρ 4 + 9 * ρ 3 + 1, ρ 21, ρ 6, 0, ρ 11, ρ 12, ρ 5, ρ 24, ρ 15] (γ 5) 0 1 (γ 6) := hS139 _ _ _ _ _ (zAllA hl 4)
  have l5 : sn114 [ρ 25, ρ 6] (γ 6) 0 (ρ 29) (γ 7) := hS114 _ _ _ _ _ (zAllA hl 5)
  have l6 : ρ 29 ≠ 43 := zAllA hl 6
  have l7 : ρ 29 ≠ 45 := zAllA hl 7
  have l8 : sn139 [ρ 4 + 9 * ρ 3 + 1, ρ 30 + 1, ρ 6, ρ 26, ρ 11, ρ 12, ρ 27, ρ 24, ρ 28] (γ 9) 0 1 (γ 10) := hS139 _ _ _ _ _ (zAllA hl 8)
  have l9 : zOpP (.ishl) (γ 0) (γ 1) [1, ρ 23] (ρ 35) := zAllA hl 9
  have l10 : zOpP (.ior) (γ 0) (γ 1) [ρ 12, ρ 35] (ρ 36) := zAllA hl 10
  show sn156 [ρ 0, ρ 1, ρ 2, ρ 3, ρ 4, ρ 5, ρ 6, ρ 7, ρ 8, ρ 9, ρ 10, ρ 11, ρ 12, ρ 13, ρ 14, ρ 15, ρ 16, ρ 17, ρ 18, ρ 19, ρ 20] (γ 0) 0 1 (γ 11)
  refine Eq.symm ?_
  show fn156 [ρ 0, ρ 1] (γ 0) = _
  unfold fn156
  refine zLV (ρ 0) rfl (zLV (ρ 1) rfl (zLE m0 (zLE m1 (zLE m2 (zLE m3 (zLE m10 (zLE (show fn115 [] (γ 0) = (0, 1, γ 1) from l0.symm) ?_)))))))
  refine zLV (γ 1) rfl (zIP zQ1_ (zLE m22 (zIP w_0 (zLE (show fn103 [6, 0, ρ 1] (γ 1) = (0, 0, γ 2) from l1.symm) (zLV (γ 2) rfl (zLE (show fn120 [ρ 0] (γ 2) = (0, ρ 23, γ 3) from l2.symm) (zLV (γ 3) rfl ?_)))))))
  refine zLV (ρ 23) rfl (zLE c4.symm (zIN w_1 (zLE (show fn117 [ρ 23] (γ 4) = (0, 0, γ 5) from l3.symm) (zLV (γ 5) rfl (zIN zQ0_ (zLE (show fn139 [ρ 4 + 9 * ρ 3 + 1] (γ 5) = (0, 1, γ 6) from l4.symm) (zLV (γ 6) rfl ?_)))))))
  refine zIP zQ1_ (zLE (show fn114 [] (γ 6) = (0, ρ 29, γ 7) from l5.symm) (zLV (γ 7) rfl (zIP w_2 (zLV (ρ 29) rfl (zLE m37 (zIN w_3 (zIN w_4 ?_)))))))
  refine zIP w_5 (zLE c8.symm (zLE c9.symm (zLE (show fn139 [ρ 4 + 9 * ρ 3 + 1] (γ 9) = (0, 1, γ 10) from l8.symm) (zLV (γ 10) rfl (zIP zQ1_ (zLE (zF2_ok l9) (zLE (zF2_ok l10) ?_)))))))
  refine zLE c11.symm ?_
  rfl
theorem vn156_10 {S : Nat → zSpc} (hS103 : zIm S 103 sn103) (hS109 : zIm S 109 sn109) (hS114 : zIm S 114 sn114) (hS115 : zIm S 115 sn115) (hS117 : zIm S 117 sn117) (hS120 : zIm S 120 sn120) (hS139 : zIm S 139 sn139) {a : List Int} {g : rHp} : ∀ (ρ : Nat → Int) (γ : Nat → rHp), zO 21 S a g q156_10 ρ γ → zGl (fun _ _ _ => True) (sn156 a g) q156_10 ρ γ := by
  intro ρ γ h
  obtain ⟨ha, hg, hr, hf, hm, hc, hl⟩ := h
  have ha : a = [ρ 0, ρ 1, ρ 2, ρ 3, ρ 4, ρ 5, ρ 6, ρ 7, ρ 8, ρ 9, ρ 10, ρ 11, ρ 12, ρ 13, ρ 14, ρ 15, ρ 16, ρ 17, ρ 18, ρ 19, ρ 20] := ha
  subst ha
  subst hg
  have r22 : (361 : Int) ≤ ρ 22 ∧ ρ 22 ≤ 361 := zRnA hr 22
  have r23 : (0 : Int) ≤ ρ 23 ∧ ρ 23 ≤ 7 := zRnA hr 23
  have r29 : (0 : Int) ≤ ρ 29 ∧ ρ 29 ≤ 255 := zRnA hr 29
  obtain ⟨w_0, w_1, w_2⟩ : (ρ 22 = 361) ∧ (¬ (ρ 23 < 0)) ∧ ((0 : Int) ≤ ρ 29) := ⟨by omega, by omega, by omega⟩
  have m0 : γ 0 1 0 10 = ρ 2 := zAllA hm 0
  have m1 : γ 0 40 0 (ρ 2) = ρ 3 := zAllA hm 1
  have m2 : γ 0 9 (ρ 3) 2 = ρ 4 := zAllA hm 2
  have m3 : γ 0 2 0 6 = ρ 5 := zAllA hm 3
  have m10 : γ 0 2 0 5 = ρ 12 := zAllA hm 10
  have m22 : γ 1 2 0 8 = ρ 22 := zAllA hm 22
  have m37 : γ 7 2 0 6 = ρ 30 := zAllA hm 37
  have c4 : γ 4 = rUp (γ 3) 10 (ρ 4 + 9 * ρ 3 + 1) 11 (ρ 23) := And.right (zChA hc 4)
  have l0 : sn115 [ρ 5, ρ 6, ρ 11, ρ 13] (γ 0) 0 1 (γ 1) := hS115 _ _ _ _ _ (zAllA hl 0)
  have l1 : sn103 [6, 0, ρ 1, ρ 2, ρ 3, ρ 4, ρ 9, ρ 10, ρ 7, ρ 16, ρ 17, ρ 18, ρ 19, ρ 20] (γ 1) 0 0 (γ 2) := hS103 _ _ _ _ _ (zAllA hl 1)
  have l2 : sn120 [ρ 0, ρ 14] (γ 2) 0 (ρ 23) (γ 3) := hS120 _ _ _ _ _ (zAllA hl 2)
  have l3 : sn117 [ρ 23, ρ 12] (γ 4) 0 0 (γ 5) := hS117 _ _ _ _ _ (zAllA hl 3)
  have l4 : sn139 [ρ 4 + 9 * ρ 3 + 1, ρ 21, ρ 6, 0, ρ 11, ρ 12, ρ 5, ρ 24, ρ 15] (γ 5) 0 1 (γ 6) := hS139 _ _ _ _ _ (zAllA hl 4)
  have l5 : sn114 [ρ 25, ρ 6] (γ 6) 0 (ρ 29) (γ 7) := hS114 _ _ _ _ _ (zAllA hl 5)
  have l6 : ρ 29 ≠ 43 := zAllA hl 6
  have l7 : ρ 29 ≠ 45 := zAllA hl 7
  have l8 : ρ 29 ≠ 42 := zAllA hl 8
  have l9 : sn109 [ρ 30, ρ 11] (γ 7) 0 0 (γ 8) := hS109 _ _ _ _ _ (zAllA hl 9)
  obtain ⟨wl_0, wl_1, wl_2⟩ : (¬ (ρ 29 = 43)) ∧ (¬ (ρ 29 = 45)) ∧ (¬ (ρ 29 = 42)) := ⟨by omega, by omega, by omega⟩
  show sn156 [ρ 0, ρ 1, ρ 2, ρ 3, ρ 4, ρ 5, ρ 6, ρ 7, ρ 8, ρ 9, ρ 10, ρ 11, ρ 12, ρ 13, ρ 14, ρ 15, ρ 16, ρ 17, ρ 18, ρ 19, ρ 20] (γ 0) 0 0 (γ 8)
  refine Eq.symm ?_
  show fn156 [ρ 0, ρ 1] (γ 0) = _
  unfold fn156
  refine zLV (ρ 0) rfl (zLV (ρ 1) rfl (zLE m0 (zLE m1 (zLE m2 (zLE m3 (zLE m10 (zLE (show fn115 [] (γ 0) = (0, 1, γ 1) from l0.symm) ?_)))))))
  refine zLV (γ 1) rfl (zIP zQ1_ (zLE m22 (zIP w_0 (zLE (show fn103 [6, 0, ρ 1] (γ 1) = (0, 0, γ 2) from l1.symm) (zLV (γ 2) rfl (zLE (show fn120 [ρ 0] (γ 2) = (0, ρ 23, γ 3) from l2.symm) (zLV (γ 3) rfl ?_)))))))
  refine zLV (ρ 23) rfl (zLE c4.symm (zIN w_1 (zLE (show fn117 [ρ 23] (γ 4) = (0, 0, γ 5) from l3.symm) (zLV (γ 5) rfl (zIN zQ0_ (zLE (show fn139 [ρ 4 + 9 * ρ 3 + 1] (γ 5) = (0, 1, γ 6) from l4.symm) (zLV (γ 6) rfl ?_)))))))
  refine zIP zQ1_ (zLE (show fn114 [] (γ 6) = (0, ρ 29, γ 7) from l5.symm) (zLV (γ 7) rfl (zIP w_2 (zLV (ρ 29) rfl (zLE m37 (zIN wl_0 (zIN wl_1 ?_)))))))
  refine zIN wl_2 (zLE (show fn109 [ρ 30] (γ 7) = (0, 0, γ 8) from l9.symm) (zLV (γ 8) rfl ?_))
  rfl
theorem vn156_11 {S : Nat → zSpc} (hS103 : zIm S 103 sn103) (hS109 : zIm S 109 sn109) (hS114 : zIm S 114 sn114) (hS115 : zIm S 115 sn115) (hS117 : zIm S 117 sn117) (hS120 : zIm S 120 sn120) (hS139 : zIm S 139 sn139) {a : List Int} {g : rHp} : ∀ (ρ : Nat → Int) (γ : Nat → rHp), zO 21 S a g q156_11 ρ γ → zGl (fun _ _ _ => True) (sn156 a g) q156_11 ρ γ := by
  intro ρ γ h
  obtain ⟨ha, hg, hr, hf, hm, hc, hl⟩ := h
  have ha : a = [ρ 0, ρ 1, ρ 2, ρ 3, ρ 4, ρ 5, ρ 6, ρ 7, ρ 8, ρ 9, ρ 10, ρ 11, ρ 12, ρ 13, ρ 14, ρ 15, ρ 16, ρ 17, ρ 18, ρ 19, ρ 20] := ha
  subst ha
  subst hg
  have r22 : (361 : Int) ≤ ρ 22 ∧ ρ 22 ≤ 361 := zRnA hr 22
  have r23 : (0 : Int) ≤ ρ 23 ∧ ρ 23 ≤ 7 := zRnA hr 23
  obtain ⟨w_0, w_1⟩ : (ρ 22 = 361) ∧ (¬ (ρ 23 < 0)) := ⟨by omega, by omega⟩
  have m0 : γ 0 1 0 10 = ρ 2 := zAllA hm 0
  have m1 : γ 0 40 0 (ρ 2) = ρ 3 := zAllA hm 1
  have m2 : γ 0 9 (ρ 3) 2 = ρ 4 := zAllA hm 2
  have m3 : γ 0 2 0 6 = ρ 5 := zAllA hm 3
  have m10 : γ 0 2 0 5 = ρ 12 := zAllA hm 10
  have m22 : γ 1 2 0 8 = ρ 22 := zAllA hm 22
  have c4 : γ 4 = rUp (γ 3) 10 (ρ 4 + 9 * ρ 3 + 1) 11 (ρ 23) := And.right (zChA hc 2)
  have l0 : sn115 [ρ 5, ρ 6, ρ 11, ρ 13] (γ 0) 0 1 (γ 1) := hS115 _ _ _ _ _ (zAllA hl 0)
  have l1 : sn103 [6, 0, ρ 1, ρ 2, ρ 3, ρ 4, ρ 9, ρ 10, ρ 7, ρ 16, ρ 17, ρ 18, ρ 19, ρ 20] (γ 1) 0 0 (γ 2) := hS103 _ _ _ _ _ (zAllA hl 1)
  have l2 : sn120 [ρ 0, ρ 14] (γ 2) 0 (ρ 23) (γ 3) := hS120 _ _ _ _ _ (zAllA hl 2)
  have l3 : sn117 [ρ 23, ρ 12] (γ 4) 0 1 (γ 5) := hS117 _ _ _ _ _ (zAllA hl 3)
  have l4 : sn109 [ρ 1, ρ 11] (γ 5) 0 0 (γ 6) := hS109 _ _ _ _ _ (zAllA hl 4)
  show sn156 [ρ 0, ρ 1, ρ 2, ρ 3, ρ 4, ρ 5, ρ 6, ρ 7, ρ 8, ρ 9, ρ 10, ρ 11, ρ 12, ρ 13, ρ 14, ρ 15, ρ 16, ρ 17, ρ 18, ρ 19, ρ 20] (γ 0) 0 0 (γ 6)
  refine Eq.symm ?_
  show fn156 [ρ 0, ρ 1] (γ 0) = _
  unfold fn156
  refine zLV (ρ 0) rfl (zLV (ρ 1) rfl (zLE m0 (zLE m1 (zLE m2 (zLE m3 (zLE m10 (zLE (show fn115 [] (γ 0) = (0, 1, γ 1) from l0.symm) ?_)))))))
  refine zLV (γ 1) rfl (zIP zQ1_ (zLE m22 (zIP w_0 (zLE (show fn103 [6, 0, ρ 1] (γ 1) = (0, 0, γ 2) from l1.symm) (zLV (γ 2) rfl (zLE (show fn120 [ρ 0] (γ 2) = (0, ρ 23, γ 3) from l2.symm) (zLV (γ 3) rfl ?_)))))))
  refine zLV (ρ 23) rfl (zLE c4.symm (zIN w_1 (zLE (show fn117 [ρ 23] (γ 4) = (0, 1, γ 5) from l3.symm) (zLV (γ 5) rfl (zIP zQ1_ (zLE (show fn109 [ρ 1] (γ 5) = (0, 0, γ 6) from l4.symm) (zLV (γ 6) rfl ?_)))))))
  rfl
theorem vn156_12 {S : Nat → zSpc} (hS103 : zIm S 103 sn103) (hS109 : zIm S 109 sn109) (hS114 : zIm S 114 sn114) (hS115 : zIm S 115 sn115) (hS117 : zIm S 117 sn117) (hS120 : zIm S 120 sn120) (hS139 : zIm S 139 sn139) {a : List Int} {g : rHp} : ∀ (ρ : Nat → Int) (γ : Nat → rHp), zO 21 S a g q156_12 ρ γ → zGl (fun _ _ _ => True) (sn156 a g) q156_12 ρ γ := by
  intro ρ γ h
  obtain ⟨ha, hg, hr, hf, hm, hc, hl⟩ := h
  have ha : a = [ρ 0, ρ 1, ρ 2, ρ 3, ρ 4, ρ 5, ρ 6, ρ 7, ρ 8, ρ 9, ρ 10, ρ 11, ρ 12, ρ 13, ρ 14, ρ 15, ρ 16, ρ 17, ρ 18, ρ 19, ρ 20] := ha
  subst ha
  subst hg
  have r22 : ((-9223372036854775808) : Int) ≤ ρ 22 ∧ ρ 22 ≤ 9223372036854775807 := zRnA hr 22
  have m0 : γ 0 1 0 10 = ρ 2 := zAllA hm 0
  have m1 : γ 0 40 0 (ρ 2) = ρ 3 := zAllA hm 1
  have m2 : γ 0 9 (ρ 3) 2 = ρ 4 := zAllA hm 2
  have m3 : γ 0 2 0 6 = ρ 5 := zAllA hm 3
  have m10 : γ 0 2 0 5 = ρ 12 := zAllA hm 10
  have m22 : γ 1 2 0 8 = ρ 22 := zAllA hm 22
  have l0 : sn115 [ρ 5, ρ 6, ρ 11, ρ 13] (γ 0) 0 1 (γ 1) := hS115 _ _ _ _ _ (zAllA hl 0)
  have l1 : ρ 22 ≠ 361 := zAllA hl 1
  have l2 : sn109 [ρ 5, ρ 11] (γ 1) 0 0 (γ 2) := hS109 _ _ _ _ _ (zAllA hl 2)
  have wl_0 : ¬ (ρ 22 = 361) := by omega
  show sn156 [ρ 0, ρ 1, ρ 2, ρ 3, ρ 4, ρ 5, ρ 6, ρ 7, ρ 8, ρ 9, ρ 10, ρ 11, ρ 12, ρ 13, ρ 14, ρ 15, ρ 16, ρ 17, ρ 18, ρ 19, ρ 20] (γ 0) 0 0 (γ 2)
  refine Eq.symm ?_
  show fn156 [ρ 0, ρ 1] (γ 0) = _
  unfold fn156
  refine zLV (ρ 0) rfl (zLV (ρ 1) rfl (zLE m0 (zLE m1 (zLE m2 (zLE m3 (zLE m10 (zLE (show fn115 [] (γ 0) = (0, 1, γ 1) from l0.symm) ?_)))))))
  refine zLV (γ 1) rfl (zIP zQ1_ (zLE m22 (zIN wl_0 (zLE (show fn109 [ρ 5] (γ 1) = (0, 0, γ 2) from l2.symm) (zLV (γ 2) rfl ?_)))))
  rfl
theorem yn156 {S : Nat → zSpc} (hS103 : zIm S 103 sn103) (hS109 : zIm S 109 sn109) (hS114 : zIm S 114 sn114) (hS115 : zIm S 115 sn115) (hS117 : zIm S 117 sn117) (hS120 : zIm S 120 sn120) (hS139 : zIm S 139 sn139) : ∀ x g o v gz, zSem uW uT w156_.2.2.2.1 w156_.2.2.1.1.length S q156 (fun i => q156a.getD i []) (zNA a156_) x g o v gz → sn156 x g o v gz := by
  intro a g o v gz h
  exact zSem_all (l0 := q156) (las := q156a) (S := S) (J := (fun _ _ _ => True)) (P := sn156 a g) (fun _ => (show zAll _ [q156_0, q156_1, q156_2, q156_3, q156_4, q156_5, q156_6, q156_7, q156_8, q156_9, q156_10, q156_11, q156_12] from (zAll_c (vn156_0 hS103 hS109 hS114 hS115 hS117 hS120 hS139) (zAll_c (vn156_1 hS103 hS109 hS114 hS115 hS117 hS120 hS139) (zAll_c (vn156_2 hS103 hS109 hS114 hS115 hS117 hS120 hS139) (zAll_c (vn156_3 hS103 hS109 hS114 hS115 hS117 hS120 hS139) (zAll_c (vn156_4 hS103 hS109 hS114 hS115 hS117 hS120 hS139) (zAll_c (vn156_5 hS103 hS109 hS114 hS115 hS117 hS120 hS139) (zAll_c (vn156_6 hS103 hS109 hS114 hS115 hS117 hS120 hS139) (zAll_c (vn156_7 hS103 hS109 hS114 hS115 hS117 hS120 hS139) (zAll_c (vn156_8 hS103 hS109 hS114 hS115 hS117 hS120 hS139) (zAll_c (vn156_9 hS103 hS109 hS114 hS115 hS117 hS120 hS139) (zAll_c (vn156_10 hS103 hS109 hS114 hS115 hS117 hS120 hS139) (zAll_c (vn156_11 hS103 hS109 hS114 hS115 hS117 hS120 hS139) (zAll_c (vn156_12 hS103 hS109 hS114 hS115 hS117 hS120 hS139) zAll_n))))))))))))))) (fun _ => (show zAllI _ 0 [] from trivial)) h
theorem vn157_0 {S : Nat → zSpc} (hS103 : zIm S 103 sn103) (hS104 : zIm S 104 sn104) (hS105 : zIm S 105 sn105) (hS106 : zIm S 106 sn106) (hS107 : zIm S 107 sn107) (hS109 : zIm S 109 sn109) (hS114 : zIm S 114 sn114) (hS115 : zIm S 115 sn115) (hS116 : zIm S 116 sn116) (hS135 : zIm S 135 sn135) (hS139 : zIm S 139 sn139) (hS145 : zIm S 145 sn145) (hS154 : zIm S 154 sn154) (hS155 : zIm S 155 sn155) (hS156 : zIm S 156 sn156) {a : List Int} {g : rHp} : ∀ (ρ : Nat → Int) (γ : Nat → rHp), zO 22 S a g q157_0 ρ γ → zGl (fun _ _ _ => True) (sn157 a g) q157_0 ρ γ := by
  intro ρ γ h
  obtain ⟨ha, hg, hr, hf, hm, hc, hl⟩ := h
  have ha : a = [ρ 0, ρ 1, ρ 2, ρ 3, ρ 4, ρ 5, ρ 6, ρ 7, ρ 8, ρ 9, ρ 10, ρ 11, ρ 12, ρ 13, ρ 14, ρ 15, ρ 16, ρ 17, ρ 18, ρ 19, ρ 20, ρ 21] := ha
  subst ha
  subst hg
  have m0 : γ 0 1 0 10 = ρ 0 := zAllA hm 0
  have m1 : γ 0 40 0 (ρ 0) = ρ 1 := zAllA hm 1
  have m2 : γ 0 9 (ρ 1) 2 = ρ 2 := zAllA hm 2
  have m22 : γ 1 2 0 6 = ρ 22 := zAllA hm 22
  have l0 : sn114 [ρ 3, ρ 4] (γ 0) 0 (-1) (γ 1) := hS114 _ _ _ _ _ (zAllA hl 0)
  have l1 : sn106 [(-1)] (γ 1) 0 0 (γ 2) := hS106 _ _ _ _ _ (zAllA hl 1)
  have l2 : sn105 [(-1)] (γ 2) 0 0 (γ 3) := hS105 _ _ _ _ _ (zAllA hl 2)
  have l3 : sn107 [(-1)] (γ 3) 0 0 (γ 4) := hS107 _ _ _ _ _ (zAllA hl 3)
  have l4 : sn109 [ρ 22, ρ 12] (γ 4) 0 0 (γ 5) := hS109 _ _ _ _ _ (zAllA hl 4)
  show sn157 [ρ 0, ρ 1, ρ 2, ρ 3, ρ 4, ρ 5, ρ 6, ρ 7, ρ 8, ρ 9, ρ 10, ρ 11, ρ 12, ρ 13, ρ 14, ρ 15, ρ 16, ρ 17, ρ 18, ρ 19, ρ 20, ρ 21] (γ 0) 0 0 (γ 5)
  refine Eq.symm ?_
  show fn157 [] (γ 0) = _
  unfold fn157
  refine zLE m0 (zLE m1 (zLE m2 (zLE (show fn114 [] (γ 0) = (0, (-1), γ 1) from l0.symm) (zLV (γ 1) rfl (zIN zQ2_ (zLE m22 (zLE (show fn106 [(-1)] (γ 1) = (0, 0, γ 2) from l1.symm) ?_)))))))
  refine zLV (γ 2) rfl (zLE (show fn105 [(-1)] (γ 2) = (0, 0, γ 3) from l2.symm) (zLV (γ 3) rfl (zLE (show fn107 [(-1)] (γ 3) = (0, 0, γ 4) from l3.symm) (zLV (γ 4) rfl (zLE (show fn109 [ρ 22] (γ 4) = (0, 0, γ 5) from l4.symm) (zLV (γ 5) rfl ?_))))))
  rfl
theorem vn157_1 {S : Nat → zSpc} (hS103 : zIm S 103 sn103) (hS104 : zIm S 104 sn104) (hS105 : zIm S 105 sn105) (hS106 : zIm S 106 sn106) (hS107 : zIm S 107 sn107) (hS109 : zIm S 109 sn109) (hS114 : zIm S 114 sn114) (hS115 : zIm S 115 sn115) (hS116 : zIm S 116 sn116) (hS135 : zIm S 135 sn135) (hS139 : zIm S 139 sn139) (hS145 : zIm S 145 sn145) (hS154 : zIm S 154 sn154) (hS155 : zIm S 155 sn155) (hS156 : zIm S 156 sn156) {a : List Int} {g : rHp} : ∀ (ρ : Nat → Int) (γ : Nat → rHp), zO 22 S a g q157_1 ρ γ → zGl (fun _ _ _ => True) (sn157 a g) q157_1 ρ γ := by
  intro ρ γ h
  obtain ⟨ha, hg, hr, hf, hm, hc, hl⟩ := h
  have ha : a = [ρ 0, ρ 1, ρ 2, ρ 3, ρ 4, ρ 5, ρ 6, ρ 7, ρ 8, ρ 9, ρ 10, ρ 11, ρ 12, ρ 13, ρ 14, ρ 15, ρ 16, ρ 17, ρ 18, ρ 19, ρ 20, ρ 21] := ha
  subst ha
  subst hg
  have r22 : (45 : Int) ≤ ρ 22 ∧ ρ 22 ≤ 45 := zRnA hr 22
  obtain ⟨w_0, w_1, w_2⟩ : ((0 : Int) ≤ ρ 22) ∧ (ρ 22 ≠ 33) ∧ (ρ 22 = 45) := ⟨by omega, by omega, by omega⟩
  have m0 : γ 0 1 0 10 = ρ 0 := zAllA hm 0
  have m1 : γ 0 40 0 (ρ 0) = ρ 1 := zAllA hm 1
  have m2 : γ 0 9 (ρ 1) 2 = ρ 2 := zAllA hm 2
  have m22 : γ 1 2 0 6 = ρ 23 := zAllA hm 22
  have l0 : sn114 [ρ 3, ρ 4] (γ 0) 0 (ρ 22) (γ 1) := hS114 _ _ _ _ _ (zAllA hl 0)
  have l1 : ρ 22 ≠ 33 := zAllA hl 1
  have l2 : sn106 [ρ 22] (γ 1) 0 0 (γ 2) := hS106 _ _ _ _ _ (zAllA hl 2)
  have l3 : sn105 [ρ 22] (γ 2) 0 0 (γ 3) := hS105 _ _ _ _ _ (zAllA hl 3)
  have l4 : sn107 [ρ 22] (γ 3) 0 0 (γ 4) := hS107 _ _ _ _ _ (zAllA hl 4)
  have l5 : sn116 [ρ 23, ρ 4, ρ 12] (γ 4) 0 0 (γ 5) := hS116 _ _ _ _ _ (zAllA hl 5)
  show sn157 [ρ 0, ρ 1, ρ 2, ρ 3, ρ 4, ρ 5, ρ 6, ρ 7, ρ 8, ρ 9, ρ 10, ρ 11, ρ 12, ρ 13, ρ 14, ρ 15, ρ 16, ρ 17, ρ 18, ρ 19, ρ 20, ρ 21] (γ 0) 0 0 (γ 5)
  refine Eq.symm ?_
  show fn157 [] (γ 0) = _
  unfold fn157
  refine zLE m0 (zLE m1 (zLE m2 (zLE (show fn114 [] (γ 0) = (0, ρ 22, γ 1) from l0.symm) (zLV (γ 1) rfl (zIP w_0 (zLV (ρ 22) rfl (zLE m22 ?_)))))))
  refine zIP w_1 (zLE (show fn106 [ρ 22] (γ 1) = (0, 0, γ 2) from l2.symm) (zLV (γ 2) rfl (zIN zQ0_ (zLE (show fn105 [ρ 22] (γ 2) = (0, 0, γ 3) from l3.symm) (zLV (γ 3) rfl (zIN zQ0_ (zLE (show fn107 [ρ 22] (γ 3) = (0, 0, γ 4) from l4.symm) ?_)))))))
  refine zLV (γ 4) rfl (zIN zQ0_ (zIP w_2 (zLE (show fn116 [] (γ 4) = (0, 0, γ 5) from l5.symm) (zLV (γ 5) rfl (zIN zQ0_ ?_)))))
  rfl
theorem vn157_2 {S : Nat → zSpc} (hS103 : zIm S 103 sn103) (hS104 : zIm S 104 sn104) (hS105 : zIm S 105 sn105) (hS106 : zIm S 106 sn106) (hS107 : zIm S 107 sn107) (hS109 : zIm S 109 sn109) (hS114 : zIm S 114 sn114) (hS115 : zIm S 115 sn115) (hS116 : zIm S 116 sn116) (hS135 : zIm S 135 sn135) (hS139 : zIm S 139 sn139) (hS145 : zIm S 145 sn145) (hS154 : zIm S 154 sn154) (hS155 : zIm S 155 sn155) (hS156 : zIm S 156 sn156) {a : List Int} {g : rHp} : ∀ (ρ : Nat → Int) (γ : Nat → rHp), zO 22 S a g q157_2 ρ γ → zGl (fun _ _ _ => True) (sn157 a g) q157_2 ρ γ := by
  intro ρ γ h
  obtain ⟨ha, hg, hr, hf, hm, hc, hl⟩ := h
  have ha : a = [ρ 0, ρ 1, ρ 2, ρ 3, ρ 4, ρ 5, ρ 6, ρ 7, ρ 8, ρ 9, ρ 10, ρ 11, ρ 12, ρ 13, ρ 14, ρ 15, ρ 16, ρ 17, ρ 18, ρ 19, ρ 20, ρ 21] := ha
  subst ha
  subst hg
  have r22 : (45 : Int) ≤ ρ 22 ∧ ρ 22 ≤ 45 := zRnA hr 22
  obtain ⟨w_0, w_1, w_2⟩ : ((0 : Int) ≤ ρ 22) ∧ (ρ 22 ≠ 33) ∧ (ρ 22 = 45) := ⟨by omega, by omega, by omega⟩
  have m0 : γ 0 1 0 10 = ρ 0 := zAllA hm 0
  have m1 : γ 0 40 0 (ρ 0) = ρ 1 := zAllA hm 1
  have m2 : γ 0 9 (ρ 1) 2 = ρ 2 := zAllA hm 2
  have m22 : γ 1 2 0 6 = ρ 23 := zAllA hm 22
  have m33 : γ 5 2 0 10 = ρ 25 := zAllA hm 33
  have l0 : sn114 [ρ 3, ρ 4] (γ 0) 0 (ρ 22) (γ 1) := hS114 _ _ _ _ _ (zAllA hl 0)
  have l1 : ρ 22 ≠ 33 := zAllA hl 1
  have l2 : sn106 [ρ 22] (γ 1) 0 0 (γ 2) := hS106 _ _ _ _ _ (zAllA hl 2)
  have l3 : sn105 [ρ 22] (γ 2) 0 0 (γ 3) := hS105 _ _ _ _ _ (zAllA hl 3)
  have l4 : sn107 [ρ 22] (γ 3) 0 0 (γ 4) := hS107 _ _ _ _ _ (zAllA hl 4)
  have l5 : sn116 [ρ 23, ρ 4, ρ 12] (γ 4) 0 1 (γ 5) := hS116 _ _ _ _ _ (zAllA hl 5)
  have l6 : sn103 [4, 0, ρ 23, ρ 0, ρ 1, ρ 2, ρ 9, ρ 10, ρ 5, ρ 18, ρ 19, ρ 7, ρ 20, ρ 21] (γ 5) 0 0 (γ 6) := hS103 _ _ _ _ _ (zAllA hl 6)
  have l7 : sn104 [ρ 2 + 9 * ρ 1 + 1, 0, ρ 23, 0, ρ 25, 0] (γ 6) 0 0 (γ 7) := hS104 _ _ _ _ _ (zAllA hl 7)
  have l8 : sn154 [ρ 0, ρ 1, ρ 2, ρ 24, ρ 4, 4, ρ 9, ρ 10, ρ 12] (γ 7) 0 0 (γ 8) := hS154 _ _ _ _ _ (zAllA hl 8)
  show sn157 [ρ 0, ρ 1, ρ 2, ρ 3, ρ 4, ρ 5, ρ 6, ρ 7, ρ 8, ρ 9, ρ 10, ρ 11, ρ 12, ρ 13, ρ 14, ρ 15, ρ 16, ρ 17, ρ 18, ρ 19, ρ 20, ρ 21] (γ 0) 0 0 (γ 8)
  refine Eq.symm ?_
  show fn157 [] (γ 0) = _
  unfold fn157
  refine zLE m0 (zLE m1 (zLE m2 (zLE (show fn114 [] (γ 0) = (0, ρ 22, γ 1) from l0.symm) (zLV (γ 1) rfl (zIP w_0 (zLV (ρ 22) rfl (zLE m22 ?_)))))))
  refine zIP w_1 (zLE (show fn106 [ρ 22] (γ 1) = (0, 0, γ 2) from l2.symm) (zLV (γ 2) rfl (zIN zQ0_ (zLE (show fn105 [ρ 22] (γ 2) = (0, 0, γ 3) from l3.symm) (zLV (γ 3) rfl (zIN zQ0_ (zLE (show fn107 [ρ 22] (γ 3) = (0, 0, γ 4) from l4.symm) ?_)))))))
  refine zLV (γ 4) rfl (zIN zQ0_ (zIP w_2 (zLE (show fn116 [] (γ 4) = (0, 1, γ 5) from l5.symm) (zLV (γ 5) rfl (zIP zQ1_ (zLE (show fn103 [4, 0, ρ 23] (γ 5) = (0, 0, γ 6) from l6.symm) (zLV (γ 6) rfl ?_)))))))
  refine zLE m33 (zLE (show fn104 [ρ 2 + 9 * ρ 1 + 1, 0, ρ 23, 0, ρ 25] (γ 6) = (0, 0, γ 7) from l7.symm) (zLV (γ 7) rfl (zLE (show fn154 [] (γ 7) = (0, 0, γ 8) from l8.symm) (zLV (γ 8) rfl (zIN zQ0_ ?_)))))
  rfl
theorem vn157_3 {S : Nat → zSpc} (hS103 : zIm S 103 sn103) (hS104 : zIm S 104 sn104) (hS105 : zIm S 105 sn105) (hS106 : zIm S 106 sn106) (hS107 : zIm S 107 sn107) (hS109 : zIm S 109 sn109) (hS114 : zIm S 114 sn114) (hS115 : zIm S 115 sn115) (hS116 : zIm S 116 sn116) (hS135 : zIm S 135 sn135) (hS139 : zIm S 139 sn139) (hS145 : zIm S 145 sn145) (hS154 : zIm S 154 sn154) (hS155 : zIm S 155 sn155) (hS156 : zIm S 156 sn156) {a : List Int} {g : rHp} : ∀ (ρ : Nat → Int) (γ : Nat → rHp), zO 22 S a g q157_3 ρ γ → zGl (fun _ _ _ => True) (sn157 a g) q157_3 ρ γ := by
  intro ρ γ h
  obtain ⟨ha, hg, hr, hf, hm, hc, hl⟩ := h
  have ha : a = [ρ 0, ρ 1, ρ 2, ρ 3, ρ 4, ρ 5, ρ 6, ρ 7, ρ 8, ρ 9, ρ 10, ρ 11, ρ 12, ρ 13, ρ 14, ρ 15, ρ 16, ρ 17, ρ 18, ρ 19, ρ 20, ρ 21] := ha
  subst ha
  subst hg
  have r22 : (45 : Int) ≤ ρ 22 ∧ ρ 22 ≤ 45 := zRnA hr 22
  obtain ⟨w_0, w_1, w_2⟩ : ((0 : Int) ≤ ρ 22) ∧ (ρ 22 ≠ 33) ∧ (ρ 22 = 45) := ⟨by omega, by omega, by omega⟩
  have m0 : γ 0 1 0 10 = ρ 0 := zAllA hm 0
  have m1 : γ 0 40 0 (ρ 0) = ρ 1 := zAllA hm 1
  have m2 : γ 0 9 (ρ 1) 2 = ρ 2 := zAllA hm 2
  have m22 : γ 1 2 0 6 = ρ 23 := zAllA hm 22
  have m33 : γ 5 2 0 10 = ρ 25 := zAllA hm 33
  have l0 : sn114 [ρ 3, ρ 4] (γ 0) 0 (ρ 22) (γ 1) := hS114 _ _ _ _ _ (zAllA hl 0)
  have l1 : ρ 22 ≠ 33 := zAllA hl 1
  have l2 : sn106 [ρ 22] (γ 1) 0 0 (γ 2) := hS106 _ _ _ _ _ (zAllA hl 2)
  have l3 : sn105 [ρ 22] (γ 2) 0 0 (γ 3) := hS105 _ _ _ _ _ (zAllA hl 3)
  have l4 : sn107 [ρ 22] (γ 3) 0 0 (γ 4) := hS107 _ _ _ _ _ (zAllA hl 4)
  have l5 : sn116 [ρ 23, ρ 4, ρ 12] (γ 4) 0 1 (γ 5) := hS116 _ _ _ _ _ (zAllA hl 5)
  have l6 : sn103 [4, 0, ρ 23, ρ 0, ρ 1, ρ 2, ρ 9, ρ 10, ρ 5, ρ 18, ρ 19, ρ 7, ρ 20, ρ 21] (γ 5) 0 0 (γ 6) := hS103 _ _ _ _ _ (zAllA hl 6)
  have l7 : sn104 [ρ 2 + 9 * ρ 1 + 1, 0, ρ 23, 0, ρ 25, 0] (γ 6) 0 0 (γ 7) := hS104 _ _ _ _ _ (zAllA hl 7)
  have l8 : sn154 [ρ 0, ρ 1, ρ 2, ρ 24, ρ 4, 4, ρ 9, ρ 10, ρ 12] (γ 7) 0 1 (γ 8) := hS154 _ _ _ _ _ (zAllA hl 8)
  have l9 : sn139 [ρ 2 + 9 * ρ 1 + 1, ρ 27, ρ 4, ρ 26, ρ 12, ρ 13, ρ 14, ρ 15, ρ 17] (γ 8) 0 0 (γ 9) := hS139 _ _ _ _ _ (zAllA hl 9)
  show sn157 [ρ 0, ρ 1, ρ 2, ρ 3, ρ 4, ρ 5, ρ 6, ρ 7, ρ 8, ρ 9, ρ 10, ρ 11, ρ 12, ρ 13, ρ 14, ρ 15, ρ 16, ρ 17, ρ 18, ρ 19, ρ 20, ρ 21] (γ 0) 0 0 (γ 9)
  refine Eq.symm ?_
  show fn157 [] (γ 0) = _
  unfold fn157
  refine zLE m0 (zLE m1 (zLE m2 (zLE (show fn114 [] (γ 0) = (0, ρ 22, γ 1) from l0.symm) (zLV (γ 1) rfl (zIP w_0 (zLV (ρ 22) rfl (zLE m22 ?_)))))))
  refine zIP w_1 (zLE (show fn106 [ρ 22] (γ 1) = (0, 0, γ 2) from l2.symm) (zLV (γ 2) rfl (zIN zQ0_ (zLE (show fn105 [ρ 22] (γ 2) = (0, 0, γ 3) from l3.symm) (zLV (γ 3) rfl (zIN zQ0_ (zLE (show fn107 [ρ 22] (γ 3) = (0, 0, γ 4) from l4.symm) ?_)))))))
  refine zLV (γ 4) rfl (zIN zQ0_ (zIP w_2 (zLE (show fn116 [] (γ 4) = (0, 1, γ 5) from l5.symm) (zLV (γ 5) rfl (zIP zQ1_ (zLE (show fn103 [4, 0, ρ 23] (γ 5) = (0, 0, γ 6) from l6.symm) (zLV (γ 6) rfl ?_)))))))
  refine zLE m33 (zLE (show fn104 [ρ 2 + 9 * ρ 1 + 1, 0, ρ 23, 0, ρ 25] (γ 6) = (0, 0, γ 7) from l7.symm) (zLV (γ 7) rfl (zLE (show fn154 [] (γ 7) = (0, 1, γ 8) from l8.symm) (zLV (γ 8) rfl (zIP zQ1_ (zLE (show fn139 [ρ 2 + 9 * ρ 1 + 1] (γ 8) = (0, 0, γ 9) from l9.symm) (zLV (γ 9) rfl ?_)))))))
  refine zIN zQ0_ ?_
  rfl
theorem vn157_4 {S : Nat → zSpc} (hS103 : zIm S 103 sn103) (hS104 : zIm S 104 sn104) (hS105 : zIm S 105 sn105) (hS106 : zIm S 106 sn106) (hS107 : zIm S 107 sn107) (hS109 : zIm S 109 sn109) (hS114 : zIm S 114 sn114) (hS115 : zIm S 115 sn115) (hS116 : zIm S 116 sn116) (hS135 : zIm S 135 sn135) (hS139 : zIm S 139 sn139) (hS145 : zIm S 145 sn145) (hS154 : zIm S 154 sn154) (hS155 : zIm S 155 sn155) (hS156 : zIm S 156 sn156) {a : List Int} {g : rHp} : ∀ (ρ : Nat → Int) (γ : Nat → rHp), zO 22 S a g q157_4 ρ γ → zGl (fun _ _ _ => True) (sn157 a g) q157_4 ρ γ := by
  intro ρ γ h
  obtain ⟨ha, hg, hr, hf, hm, hc, hl⟩ := h
  have ha : a = [ρ 0, ρ 1, ρ 2, ρ 3, ρ 4, ρ 5, ρ 6, ρ 7, ρ 8, ρ 9, ρ 10, ρ 11, ρ 12, ρ 13, ρ 14, ρ 15, ρ 16, ρ 17, ρ 18, ρ 19, ρ 20, ρ 21] := ha
  subst ha
  subst hg
  have r22 : (45 : Int) ≤ ρ 22 ∧ ρ 22 ≤ 45 := zRnA hr 22
  obtain ⟨w_0, w_1, w_2⟩ : ((0 : Int) ≤ ρ 22) ∧ (ρ 22 ≠ 33) ∧ (ρ 22 = 45) := ⟨by omega, by omega, by omega⟩
  have m0 : γ 0 1 0 10 = ρ 0 := zAllA hm 0
  have m1 : γ 0 40 0 (ρ 0) = ρ 1 := zAllA hm 1
  have m2 : γ 0 9 (ρ 1) 2 = ρ 2 := zAllA hm 2
  have m22 : γ 1 2 0 6 = ρ 23 := zAllA hm 22
  have m33 : γ 5 2 0 10 = ρ 25 := zAllA hm 33
  have l0 : sn114 [ρ 3, ρ 4] (γ 0) 0 (ρ 22) (γ 1) := hS114 _ _ _ _ _ (zAllA hl 0)
  have l1 : ρ 22 ≠ 33 := zAllA hl 1
  have l2 : sn106 [ρ 22] (γ 1) 0 0 (γ 2) := hS106 _ _ _ _ _ (zAllA hl 2)
  have l3 : sn105 [ρ 22] (γ 2) 0 0 (γ 3) := hS105 _ _ _ _ _ (zAllA hl 3)
  have l4 : sn107 [ρ 22] (γ 3) 0 0 (γ 4) := hS107 _ _ _ _ _ (zAllA hl 4)
  have l5 : sn116 [ρ 23, ρ 4, ρ 12] (γ 4) 0 1 (γ 5) := hS116 _ _ _ _ _ (zAllA hl 5)
  have l6 : sn103 [4, 0, ρ 23, ρ 0, ρ 1, ρ 2, ρ 9, ρ 10, ρ 5, ρ 18, ρ 19, ρ 7, ρ 20, ρ 21] (γ 5) 0 0 (γ 6) := hS103 _ _ _ _ _ (zAllA hl 6)
  have l7 : sn104 [ρ 2 + 9 * ρ 1 + 1, 0, ρ 23, 0, ρ 25, 0] (γ 6) 0 0 (γ 7) := hS104 _ _ _ _ _ (zAllA hl 7)
  have l8 : sn154 [ρ 0, ρ 1, ρ 2, ρ 24, ρ 4, 4, ρ 9, ρ 10, ρ 12] (γ 7) 0 1 (γ 8) := hS154 _ _ _ _ _ (zAllA hl 8)
  have l9 : sn139 [ρ 2 + 9 * ρ 1 + 1, ρ 27, ρ 4, ρ 26, ρ 12, ρ 13, ρ 14, ρ 15, ρ 17] (γ 8) 0 1 (γ 9) := hS139 _ _ _ _ _ (zAllA hl 9)
  show sn157 [ρ 0, ρ 1, ρ 2, ρ 3, ρ 4, ρ 5, ρ 6, ρ 7, ρ 8, ρ 9, ρ 10, ρ 11, ρ 12, ρ 13, ρ 14, ρ 15, ρ 16, ρ 17, ρ 18, ρ 19, ρ 20, ρ 21] (γ 0) 0 1 (γ 9)
  refine Eq.symm ?_
  show fn157 [] (γ 0) = _
  unfold fn157
  refine zLE m0 (zLE m1 (zLE m2 (zLE (show fn114 [] (γ 0) = (0, ρ 22, γ 1) from l0.symm) (zLV (γ 1) rfl (zIP w_0 (zLV (ρ 22) rfl (zLE m22 ?_)))))))
  refine zIP w_1 (zLE (show fn106 [ρ 22] (γ 1) = (0, 0, γ 2) from l2.symm) (zLV (γ 2) rfl (zIN zQ0_ (zLE (show fn105 [ρ 22] (γ 2) = (0, 0, γ 3) from l3.symm) (zLV (γ 3) rfl (zIN zQ0_ (zLE (show fn107 [ρ 22] (γ 3) = (0, 0, γ 4) from l4.symm) ?_)))))))
  refine zLV (γ 4) rfl (zIN zQ0_ (zIP w_2 (zLE (show fn116 [] (γ 4) = (0, 1, γ 5) from l5.symm) (zLV (γ 5) rfl (zIP zQ1_ (zLE (show fn103 [4, 0, ρ 23] (γ 5) = (0, 0, γ 6) from l6.symm) (zLV (γ 6) rfl ?_)))))))
  refine zLE m33 (zLE (show fn104 [ρ 2 + 9 * ρ 1 + 1, 0, ρ 23, 0, ρ 25] (γ 6) = (0, 0, γ 7) from l7.symm) (zLV (γ 7) rfl (zLE (show fn154 [] (γ 7) = (0, 1, γ 8) from l8.symm) (zLV (γ 8) rfl (zIP zQ1_ (zLE (show fn139 [ρ 2 + 9 * ρ 1 + 1] (γ 8) = (0, 1, γ 9) from l9.symm) (zLV (γ 9) rfl ?_)))))))
  refine zIP zQ1_ ?_
  rfl
theorem vn157_5 {S : Nat → zSpc} (hS103 : zIm S 103 sn103) (hS104 : zIm S 104 sn104) (hS105 : zIm S 105 sn105) (hS106 : zIm S 106 sn106) (hS107 : zIm S 107 sn107) (hS109 : zIm S 109 sn109) (hS114 : zIm S 114 sn114) (hS115 : zIm S 115 sn115) (hS116 : zIm S 116 sn116) (hS135 : zIm S 135 sn135) (hS139 : zIm S 139 sn139) (hS145 : zIm S 145 sn145) (hS154 : zIm S 154 sn154) (hS155 : zIm S 155 sn155) (hS156 : zIm S 156 sn156) {a : List Int} {g : rHp} : ∀ (ρ : Nat → Int) (γ : Nat → rHp), zO 22 S a g q157_5 ρ γ → zGl (fun _ _ _ => True) (sn157 a g) q157_5 ρ γ := by
  intro ρ γ h
  obtain ⟨ha, hg, hr, hf, hm, hc, hl⟩ := h
  have ha : a = [ρ 0, ρ 1, ρ 2, ρ 3, ρ 4, ρ 5, ρ 6, ρ 7, ρ 8, ρ 9, ρ 10, ρ 11, ρ 12, ρ 13, ρ 14, ρ 15, ρ 16, ρ 17, ρ 18, ρ 19, ρ 20, ρ 21] := ha
  subst ha
  subst hg
  have r22 : (0 : Int) ≤ ρ 22 ∧ ρ 22 ≤ 255 := zRnA hr 22
  have w_0 : (0 : Int) ≤ ρ 22 := by omega
  have m0 : γ 0 1 0 10 = ρ 0 := zAllA hm 0
  have m1 : γ 0 40 0 (ρ 0) = ρ 1 := zAllA hm 1
  have m2 : γ 0 9 (ρ 1) 2 = ρ 2 := zAllA hm 2
  have m22 : γ 1 2 0 6 = ρ 23 := zAllA hm 22
  have l0 : sn114 [ρ 3, ρ 4] (γ 0) 0 (ρ 22) (γ 1) := hS114 _ _ _ _ _ (zAllA hl 0)
  have l1 : ρ 22 ≠ 33 := zAllA hl 1
  have l2 : sn106 [ρ 22] (γ 1) 0 0 (γ 2) := hS106 _ _ _ _ _ (zAllA hl 2)
  have l3 : sn105 [ρ 22] (γ 2) 0 0 (γ 3) := hS105 _ _ _ _ _ (zAllA hl 3)
  have l4 : sn107 [ρ 22] (γ 3) 0 0 (γ 4) := hS107 _ _ _ _ _ (zAllA hl 4)
  have l5 : ρ 22 ≠ 45 := zAllA hl 5
  have l6 : sn109 [ρ 23, ρ 12] (γ 4) 0 0 (γ 5) := hS109 _ _ _ _ _ (zAllA hl 6)
  obtain ⟨wl_0, wl_1⟩ : (ρ 22 ≠ 33) ∧ (¬ (ρ 22 = 45)) := ⟨by omega, by omega⟩
  show sn157 [ρ 0, ρ 1, ρ 2, ρ 3, ρ 4, ρ 5, ρ 6, ρ 7, ρ 8, ρ 9, ρ 10, ρ 11, ρ 12, ρ 13, ρ 14, ρ 15, ρ 16, ρ 17, ρ 18, ρ 19, ρ 20, ρ 21] (γ 0) 0 0 (γ 5)
  refine Eq.symm ?_
  show fn157 [] (γ 0) = _
  unfold fn157
  refine zLE m0 (zLE m1 (zLE m2 (zLE (show fn114 [] (γ 0) = (0, ρ 22, γ 1) from l0.symm) (zLV (γ 1) rfl (zIP w_0 (zLV (ρ 22) rfl (zLE m22 ?_)))))))
  refine zIP wl_0 (zLE (show fn106 [ρ 22] (γ 1) = (0, 0, γ 2) from l2.symm) (zLV (γ 2) rfl (zIN zQ0_ (zLE (show fn105 [ρ 22] (γ 2) = (0, 0, γ 3) from l3.symm) (zLV (γ 3) rfl (zIN zQ0_ (zLE (show fn107 [ρ 22] (γ 3) = (0, 0, γ 4) from l4.symm) ?_)))))))
  refine zLV (γ 4) rfl (zIN zQ0_ (zIN wl_1 (zLE (show fn109 [ρ 23] (γ 4) = (0, 0, γ 5) from l6.symm) (zLV (γ 5) rfl ?_))))
  rfl
theorem vn157_6 {S : Nat → zSpc} (hS103 : zIm S 103 sn103) (hS104 : zIm S 104 sn104) (hS105 : zIm S 105 sn105) (hS106 : zIm S 106 sn106) (hS107 : zIm S 107 sn107) (hS109 : zIm S 109 sn109) (hS114 : zIm S 114 sn114) (hS115 : zIm S 115 sn115) (hS116 : zIm S 116 sn116) (hS135 : zIm S 135 sn135) (hS139 : zIm S 139 sn139) (hS145 : zIm S 145 sn145) (hS154 : zIm S 154 sn154) (hS155 : zIm S 155 sn155) (hS156 : zIm S 156 sn156) {a : List Int} {g : rHp} : ∀ (ρ : Nat → Int) (γ : Nat → rHp), zO 22 S a g q157_6 ρ γ → zGl (fun _ _ _ => True) (sn157 a g) q157_6 ρ γ := by
  intro ρ γ h
  obtain ⟨ha, hg, hr, hf, hm, hc, hl⟩ := h
  have ha : a = [ρ 0, ρ 1, ρ 2, ρ 3, ρ 4, ρ 5, ρ 6, ρ 7, ρ 8, ρ 9, ρ 10, ρ 11, ρ 12, ρ 13, ρ 14, ρ 15, ρ 16, ρ 17, ρ 18, ρ 19, ρ 20, ρ 21] := ha
  subst ha
  subst hg
  have r22 : (48 : Int) ≤ ρ 22 ∧ ρ 22 ≤ 57 := zRnA hr 22
  obtain ⟨w_0, w_1⟩ : ((0 : Int) ≤ ρ 22) ∧ (ρ 22 ≠ 33) := ⟨by omega, by omega⟩
  have m0 : γ 0 1 0 10 = ρ 0 := zAllA hm 0
  have m1 : γ 0 40 0 (ρ 0) = ρ 1 := zAllA hm 1
  have m2 : γ 0 9 (ρ 1) 2 = ρ 2 := zAllA hm 2
  have m22 : γ 1 2 0 6 = ρ 23 := zAllA hm 22
  have l0 : sn114 [ρ 3, ρ 4] (γ 0) 0 (ρ 22) (γ 1) := hS114 _ _ _ _ _ (zAllA hl 0)
  have l1 : ρ 22 ≠ 33 := zAllA hl 1
  have l2 : sn106 [ρ 22] (γ 1) 0 0 (γ 2) := hS106 _ _ _ _ _ (zAllA hl 2)
  have l3 : sn105 [ρ 22] (γ 2) 0 0 (γ 3) := hS105 _ _ _ _ _ (zAllA hl 3)
  have l4 : sn107 [ρ 22] (γ 3) 0 1 (γ 4) := hS107 _ _ _ _ _ (zAllA hl 4)
  have l5 : sn116 [ρ 23, ρ 4, ρ 12] (γ 4) 0 0 (γ 5) := hS116 _ _ _ _ _ (zAllA hl 5)
  show sn157 [ρ 0, ρ 1, ρ 2, ρ 3, ρ 4, ρ 5, ρ 6, ρ 7, ρ 8, ρ 9, ρ 10, ρ 11, ρ 12, ρ 13, ρ 14, ρ 15, ρ 16, ρ 17, ρ 18, ρ 19, ρ 20, ρ 21] (γ 0) 0 0 (γ 5)
  refine Eq.symm ?_
  show fn157 [] (γ 0) = _
  unfold fn157
  refine zLE m0 (zLE m1 (zLE m2 (zLE (show fn114 [] (γ 0) = (0, ρ 22, γ 1) from l0.symm) (zLV (γ 1) rfl (zIP w_0 (zLV (ρ 22) rfl (zLE m22 ?_)))))))
  refine zIP w_1 (zLE (show fn106 [ρ 22] (γ 1) = (0, 0, γ 2) from l2.symm) (zLV (γ 2) rfl (zIN zQ0_ (zLE (show fn105 [ρ 22] (γ 2) = (0, 0, γ 3) from l3.symm) (zLV (γ 3) rfl (zIN zQ0_ (zLE (show fn107 [ρ 22] (γ 3) = (0, 1, γ 4) from l4.symm) ?_)))))))
  refine zLV (γ 4) rfl (zIP zQ1_ (zLE (show fn116 [] (γ 4) = (0, 0, γ 5) from l5.symm) (zLV (γ 5) rfl (zIN zQ0_ ?_))))
  rfl
theorem vn157_7 {S : Nat → zSpc} (hS103 : zIm S 103 sn103) (hS104 : zIm S 104 sn104) (hS105 : zIm S 105 sn105) (hS106 : zIm S 106 sn106) (hS107 : zIm S 107 sn107) (hS109 : zIm S 109 sn109) (hS114 : zIm S 114 sn114) (hS115 : zIm S 115 sn115) (hS116 : zIm S 116 sn116) (hS135 : zIm S 135 sn135) (hS139 : zIm S 139 sn139) (hS145 : zIm S 145 sn145) (hS154 : zIm S 154 sn154) (hS155 : zIm S 155 sn155) (hS156 : zIm S 156 sn156) {a : List Int} {g : rHp} : ∀ (ρ : Nat → Int) (γ : Nat → rHp), zO 22 S a g q157_7 ρ γ → zGl (fun _ _ _ => True) (sn157 a g) q157_7 ρ γ := by
  intro ρ γ h
  obtain ⟨ha, hg, hr, hf, hm, hc, hl⟩ := h
  have ha : a = [ρ 0, ρ 1, ρ 2, ρ 3, ρ 4, ρ 5, ρ 6, ρ 7, ρ 8, ρ 9, ρ 10, ρ 11, ρ 12, ρ 13, ρ 14, ρ 15, ρ 16, ρ 17, ρ 18, ρ 19, ρ 20, ρ 21] := ha
  subst ha
  subst hg
  have r22 : (48 : Int) ≤ ρ 22 ∧ ρ 22 ≤ 57 := zRnA hr 22
  obtain ⟨w_0, w_1⟩ : ((0 : Int) ≤ ρ 22) ∧ (ρ 22 ≠ 33) := ⟨by omega, by omega⟩
  have m0 : γ 0 1 0 10 = ρ 0 := zAllA hm 0
  have m1 : γ 0 40 0 (ρ 0) = ρ 1 := zAllA hm 1
  have m2 : γ 0 9 (ρ 1) 2 = ρ 2 := zAllA hm 2
  have m22 : γ 1 2 0 6 = ρ 23 := zAllA hm 22
  have m33 : γ 5 2 0 10 = ρ 25 := zAllA hm 33
  have l0 : sn114 [ρ 3, ρ 4] (γ 0) 0 (ρ 22) (γ 1) := hS114 _ _ _ _ _ (zAllA hl 0)
  have l1 : ρ 22 ≠ 33 := zAllA hl 1
  have l2 : sn106 [ρ 22] (γ 1) 0 0 (γ 2) := hS106 _ _ _ _ _ (zAllA hl 2)
  have l3 : sn105 [ρ 22] (γ 2) 0 0 (γ 3) := hS105 _ _ _ _ _ (zAllA hl 3)
  have l4 : sn107 [ρ 22] (γ 3) 0 1 (γ 4) := hS107 _ _ _ _ _ (zAllA hl 4)
  have l5 : sn116 [ρ 23, ρ 4, ρ 12] (γ 4) 0 1 (γ 5) := hS116 _ _ _ _ _ (zAllA hl 5)
  have l6 : sn103 [4, 0, ρ 23, ρ 0, ρ 1, ρ 2, ρ 9, ρ 10, ρ 5, ρ 18, ρ 19, ρ 7, ρ 20, ρ 21] (γ 5) 0 0 (γ 6) := hS103 _ _ _ _ _ (zAllA hl 6)
  have l7 : sn104 [ρ 2 + 9 * ρ 1 + 1, 0, ρ 23, 0, ρ 25, 0] (γ 6) 0 0 (γ 7) := hS104 _ _ _ _ _ (zAllA hl 7)
  have l8 : sn154 [ρ 0, ρ 1, ρ 2, ρ 24, ρ 4, 4, ρ 9, ρ 10, ρ 12] (γ 7) 0 0 (γ 8) := hS154 _ _ _ _ _ (zAllA hl 8)
  show sn157 [ρ 0, ρ 1, ρ 2, ρ 3, ρ 4, ρ 5, ρ 6, ρ 7, ρ 8, ρ 9, ρ 10, ρ 11, ρ 12, ρ 13, ρ 14, ρ 15, ρ 16, ρ 17, ρ 18, ρ 19, ρ 20, ρ 21] (γ 0) 0 0 (γ 8)
  refine Eq.symm ?_
  show fn157 [] (γ 0) = _
  unfold fn157
  refine zLE m0 (zLE m1 (zLE m2 (zLE (show fn114 [] (γ 0) = (0, ρ 22, γ 1) from l0.symm) (zLV (γ 1) rfl (zIP w_0 (zLV (ρ 22) rfl (zLE m22 ?_)))))))
  refine zIP w_1 (zLE (show fn106 [ρ 22] (γ 1) = (0, 0, γ 2) from l2.symm) (zLV (γ 2) rfl (zIN zQ0_ (zLE (show fn105 [ρ 22] (γ 2) = (0, 0, γ 3) from l3.symm) (zLV (γ 3) rfl (zIN zQ0_ (zLE (show fn107 [ρ 22] (γ 3) = (0, 1, γ 4) from l4.symm) ?_)))))))
  refine zLV (γ 4) rfl (zIP zQ1_ (zLE (show fn116 [] (γ 4) = (0, 1, γ 5) from l5.symm) (zLV (γ 5) rfl (zIP zQ1_ (zLE (show fn103 [4, 0, ρ 23] (γ 5) = (0, 0, γ 6) from l6.symm) (zLV (γ 6) rfl (zLE m33 ?_)))))))
  refine zLE (show fn104 [ρ 2 + 9 * ρ 1 + 1, 0, ρ 23, 0, ρ 25] (γ 6) = (0, 0, γ 7) from l7.symm) (zLV (γ 7) rfl (zLE (show fn154 [] (γ 7) = (0, 0, γ 8) from l8.symm) (zLV (γ 8) rfl (zIN zQ0_ ?_))))
  rfl
theorem vn157_8 {S : Nat → zSpc} (hS103 : zIm S 103 sn103) (hS104 : zIm S 104 sn104) (hS105 : zIm S 105 sn105) (hS106 : zIm S 106 sn106) (hS107 : zIm S 107 sn107) (hS109 : zIm S 109 sn109) (hS114 : zIm S 114 sn114) (hS115 : zIm S 115 sn115) (hS116 : zIm S 116 sn116) (hS135 : zIm S 135 sn135) (hS139 : zIm S 139 sn139) (hS145 : zIm S 145 sn145) (hS154 : zIm S 154 sn154) (hS155 : zIm S 155 sn155) (hS156 : zIm S 156 sn156) {a : List Int} {g : rHp} : ∀ (ρ : Nat → Int) (γ : Nat → rHp), zO 22 S a g q157_8 ρ γ → zGl (fun _ _ _ => True) (sn157 a g) q157_8 ρ γ := by
  intro ρ γ h
  obtain ⟨ha, hg, hr, hf, hm, hc, hl⟩ := h
  have ha : a = [ρ 0, ρ 1, ρ 2, ρ 3, ρ 4, ρ 5, ρ 6, ρ 7, ρ 8, ρ 9, ρ 10, ρ 11, ρ 12, ρ 13, ρ 14, ρ 15, ρ 16, ρ 17, ρ 18, ρ 19, ρ 20, ρ 21] := ha
  subst ha
  subst hg
  have r22 : (48 : Int) ≤ ρ 22 ∧ ρ 22 ≤ 57 := zRnA hr 22
  obtain ⟨w_0, w_1⟩ : ((0 : Int) ≤ ρ 22) ∧ (ρ 22 ≠ 33) := ⟨by omega, by omega⟩
  have m0 : γ 0 1 0 10 = ρ 0 := zAllA hm 0
  have m1 : γ 0 40 0 (ρ 0) = ρ 1 := zAllA hm 1
  have m2 : γ 0 9 (ρ 1) 2 = ρ 2 := zAllA hm 2
  have m22 : γ 1 2 0 6 = ρ 23 := zAllA hm 22
  have m33 : γ 5 2 0 10 = ρ 25 := zAllA hm 33
  have l0 : sn114 [ρ 3, ρ 4] (γ 0) 0 (ρ 22) (γ 1) := hS114 _ _ _ _ _ (zAllA hl 0)
  have l1 : ρ 22 ≠ 33 := zAllA hl 1
  have l2 : sn106 [ρ 22] (γ 1) 0 0 (γ 2) := hS106 _ _ _ _ _ (zAllA hl 2)
  have l3 : sn105 [ρ 22] (γ 2) 0 0 (γ 3) := hS105 _ _ _ _ _ (zAllA hl 3)
  have l4 : sn107 [ρ 22] (γ 3) 0 1 (γ 4) := hS107 _ _ _ _ _ (zAllA hl 4)
  have l5 : sn116 [ρ 23, ρ 4, ρ 12] (γ 4) 0 1 (γ 5) := hS116 _ _ _ _ _ (zAllA hl 5)
  have l6 : sn103 [4, 0, ρ 23, ρ 0, ρ 1, ρ 2, ρ 9, ρ 10, ρ 5, ρ 18, ρ 19, ρ 7, ρ 20, ρ 21] (γ 5) 0 0 (γ 6) := hS103 _ _ _ _ _ (zAllA hl 6)
  have l7 : sn104 [ρ 2 + 9 * ρ 1 + 1, 0, ρ 23, 0, ρ 25, 0] (γ 6) 0 0 (γ 7) := hS104 _ _ _ _ _ (zAllA hl 7)
  have l8 : sn154 [ρ 0, ρ 1, ρ 2, ρ 24, ρ 4, 4, ρ 9, ρ 10, ρ 12] (γ 7) 0 1 (γ 8) := hS154 _ _ _ _ _ (zAllA hl 8)
  have l9 : sn139 [ρ 2 + 9 * ρ 1 + 1, ρ 27, ρ 4, ρ 26, ρ 12, ρ 13, ρ 14, ρ 15, ρ 17] (γ 8) 0 0 (γ 9) := hS139 _ _ _ _ _ (zAllA hl 9)
  show sn157 [ρ 0, ρ 1, ρ 2, ρ 3, ρ 4, ρ 5, ρ 6, ρ 7, ρ 8, ρ 9, ρ 10, ρ 11, ρ 12, ρ 13, ρ 14, ρ 15, ρ 16, ρ 17, ρ 18, ρ 19, ρ 20, ρ 21] (γ 0) 0 0 (γ 9)
  refine Eq.symm ?_
  show fn157 [] (γ 0) = _
  unfold fn157
  refine zLE m0 (zLE m1 (zLE m2 (zLE (show fn114 [] (γ 0) = (0, ρ 22, γ 1) from l0.symm) (zLV (γ 1) rfl (zIP w_0 (zLV (ρ 22) rfl (zLE m22 ?_)))))))
  refine zIP w_1 (zLE (show fn106 [ρ 22] (γ 1) = (0, 0, γ 2) from l2.symm) (zLV (γ 2) rfl (zIN zQ0_ (zLE (show fn105 [ρ 22] (γ 2) = (0, 0, γ 3) from l3.symm) (zLV (γ 3) rfl (zIN zQ0_ (zLE (show fn107 [ρ 22] (γ 3) = (0, 1, γ 4) from l4.symm) ?_)))))))
  refine zLV (γ 4) rfl (zIP zQ1_ (zLE (show fn116 [] (γ 4) = (0, 1, γ 5) from l5.symm) (zLV (γ 5) rfl (zIP zQ1_ (zLE (show fn103 [4, 0, ρ 23] (γ 5) = (0, 0, γ 6) from l6.symm) (zLV (γ 6) rfl (zLE m33 ?_)))))))
  refine zLE (show fn104 [ρ 2 + 9 * ρ 1 + 1, 0, ρ 23, 0, ρ 25] (γ 6) = (0, 0, γ 7) from l7.symm) (zLV (γ 7) rfl (zLE (show fn154 [] (γ 7) = (0, 1, γ 8) from l8.symm) (zLV (γ 8) rfl (zIP zQ1_ (zLE (show fn139 [ρ 2 + 9 * ρ 1 + 1] (γ 8) = (0, 0, γ 9) from l9.symm) (zLV (γ 9) rfl (zIN zQ0_ ?_)))))))
  rfl
theorem vn157_9 {S : Nat → zSpc} (hS103 : zIm S 103 sn103) (hS104 : zIm S 104 sn104) (hS105 : zIm S 105 sn105) (hS106 : zIm S 106 sn106) (hS107 : zIm S 107 sn107) (hS109 : zIm S 109 sn109) (hS114 : zIm S 114 sn114) (hS115 : zIm S 115 sn115) (hS116 : zIm S 116 sn116) (hS135 : zIm S 135 sn135) (hS139 : zIm S 139 sn139) (hS145 : zIm S 145 sn145) (hS154 : zIm S 154 sn154) (hS155 : zIm S 155 sn155) (hS156 : zIm S 156 sn156) {a : List Int} {g : rHp} : ∀ (ρ : Nat → Int) (γ : Nat → rHp), zO 22 S a g q157_9 ρ γ → zGl (fun _ _ _ => True) (sn157 a g) q157_9 ρ γ := by
  intro ρ γ h
  obtain ⟨ha, hg, hr, hf, hm, hc, hl⟩ := h
  have ha : a = [ρ 0, ρ 1, ρ 2, ρ 3, ρ 4, ρ 5, ρ 6, ρ 7, ρ 8, ρ 9, ρ 10, ρ 11, ρ 12, ρ 13, ρ 14, ρ 15, ρ 16, ρ 17, ρ 18, ρ 19, ρ 20, ρ 21] := ha
  subst ha
  subst hg
  have r22 : (48 : Int) ≤ ρ 22 ∧ ρ 22 ≤ 57 := zRnA hr 22
  obtain ⟨w_0, w_1⟩ : ((0 : Int) ≤ ρ 22) ∧ (ρ 22 ≠ 33) := ⟨by omega, by omega⟩
  have m0 : γ 0 1 0 10 = ρ 0 := zAllA hm 0
  have m1 : γ 0 40 0 (ρ 0) = ρ 1 := zAllA hm 1
  have m2 : γ 0 9 (ρ 1) 2 = ρ 2 := zAllA hm 2
  have m22 : γ 1 2 0 6 = ρ 23 := zAllA hm 22
  have m33 : γ 5 2 0 10 = ρ 25 := zAllA hm 33
  have l0 : sn114 [ρ 3, ρ 4] (γ 0) 0 (ρ 22) (γ 1) := hS114 _ _ _ _ _ (zAllA hl 0)
  have l1 : ρ 22 ≠ 33 := zAllA hl 1
  have l2 : sn106 [ρ 22] (γ 1) 0 0 (γ 2) := hS106 _ _ _ _ _ (zAllA hl 2)
  have l3 : sn105 [ρ 22] (γ 2) 0 0 (γ 3) := hS105 _ _ _ _ _ (zAllA hl 3)
  have l4 : sn107 [ρ 22] (γ 3) 0 1 (γ 4) := hS107 _ _ _ _ _ (zAllA hl 4)
  have l5 : sn116 [ρ 23, ρ 4, ρ 12] (γ 4) 0 1 (γ 5) := hS116 _ _ _ _ _ (zAllA hl 5)
  have l6 : sn103 [4, 0, ρ 23, ρ 0, ρ 1, ρ 2, ρ 9, ρ 10, ρ 5, ρ 18, ρ 19, ρ 7, ρ 20, ρ 21] (γ 5) 0 0 (γ 6) := hS103 _ _ _ _ _ (zAllA hl 6)
  have l7 : sn104 [ρ 2 + 9 * ρ 1 + 1, 0, ρ 23, 0, ρ 25, 0] (γ 6) 0 0 (γ 7) := hS104 _ _ _ _ _ (zAllA hl 7)
  have l8 : sn154 [ρ 0, ρ 1, ρ 2, ρ 24, ρ 4, 4, ρ 9, ρ 10, ρ 12] (γ 7) 0 1 (γ 8) := hS154 _ _ _ _ _ (zAllA hl 8)
  have l9 : sn139 [ρ 2 + 9 * ρ 1 + 1, ρ 27, ρ 4, ρ 26, ρ 12, ρ 13, ρ 14, ρ 15, ρ 17] (γ 8) 0 1 (γ 9) := hS139 _ _ _ _ _ (zAllA hl 9)
  show sn157 [ρ 0, ρ 1, ρ 2, ρ 3, ρ 4, ρ 5, ρ 6, ρ 7, ρ 8, ρ 9, ρ 10, ρ 11, ρ 12, ρ 13, ρ 14, ρ 15, ρ 16, ρ 17, ρ 18, ρ 19, ρ 20, ρ 21] (γ 0) 0 1 (γ 9)
  refine Eq.symm ?_
  show fn157 [] (γ 0) = _
  unfold fn157
  refine zLE m0 (zLE m1 (zLE m2 (zLE (show fn114 [] (γ 0) = (0, ρ 22, γ 1) from l0.symm) (zLV (γ 1) rfl (zIP w_0 (zLV (ρ 22) rfl (zLE m22 ?_)))))))
  refine zIP w_1 (zLE (show fn106 [ρ 22] (γ 1) = (0, 0, γ 2) from l2.symm) (zLV (γ 2) rfl (zIN zQ0_ (zLE (show fn105 [ρ 22] (γ 2) = (0, 0, γ 3) from l3.symm) (zLV (γ 3) rfl (zIN zQ0_ (zLE (show fn107 [ρ 22] (γ 3) = (0, 1, γ 4) from l4.symm) ?_)))))))
  refine zLV (γ 4) rfl (zIP zQ1_ (zLE (show fn116 [] (γ 4) = (0, 1, γ 5) from l5.symm) (zLV (γ 5) rfl (zIP zQ1_ (zLE (show fn103 [4, 0, ρ 23] (γ 5) = (0, 0, γ 6) from l6.symm) (zLV (γ 6) rfl (zLE m33 ?_)))))))
  refine zLE (show fn104 [ρ 2 + 9 * ρ 1 + 1, 0, ρ 23, 0, ρ 25] (γ 6) = (0, 0, γ 7) from l7.symm) (zLV (γ 7) rfl (zLE (show fn154 [] (γ 7) = (0, 1, γ 8) from l8.symm) (zLV (γ 8) rfl (zIP zQ1_ (zLE (show fn139 [ρ 2 + 9 * ρ 1 + 1] (γ 8) = (0, 1, γ 9) from l9.symm) (zLV (γ 9) rfl (zIP zQ1_ ?_)))))))
  rfl
theorem vn157_10 {S : Nat → zSpc} (hS103 : zIm S 103 sn103) (hS104 : zIm S 104 sn104) (hS105 : zIm S 105 sn105) (hS106 : zIm S 106 sn106) (hS107 : zIm S 107 sn107) (hS109 : zIm S 109 sn109) (hS114 : zIm S 114 sn114) (hS115 : zIm S 115 sn115) (hS116 : zIm S 116 sn116) (hS135 : zIm S 135 sn135) (hS139 : zIm S 139 sn139) (hS145 : zIm S 145 sn145) (hS154 : zIm S 154 sn154) (hS155 : zIm S 155 sn155) (hS156 : zIm S 156 sn156) {a : List Int} {g : rHp} : ∀ (ρ : Nat → Int) (γ : Nat → rHp), zO 22 S a g q157_10 ρ γ → zGl (fun _ _ _ => True) (sn157 a g) q157_10 ρ γ := by
  intro ρ γ h
  obtain ⟨ha, hg, hr, hf, hm, hc, hl⟩ := h
  have ha : a = [ρ 0, ρ 1, ρ 2, ρ 3, ρ 4, ρ 5, ρ 6, ρ 7, ρ 8, ρ 9, ρ 10, ρ 11, ρ 12, ρ 13, ρ 14, ρ 15, ρ 16, ρ 17, ρ 18, ρ 19, ρ 20, ρ 21] := ha
  subst ha
  subst hg
  have r22 : (97 : Int) ≤ ρ 22 ∧ ρ 22 ≤ 122 := zRnA hr 22
  obtain ⟨w_0, w_1⟩ : ((0 : Int) ≤ ρ 22) ∧ (ρ 22 ≠ 33) := ⟨by omega, by omega⟩
  have m0 : γ 0 1 0 10 = ρ 0 := zAllA hm 0
  have m1 : γ 0 40 0 (ρ 0) = ρ 1 := zAllA hm 1
  have m2 : γ 0 9 (ρ 1) 2 = ρ 2 := zAllA hm 2
  have m22 : γ 1 2 0 6 = ρ 23 := zAllA hm 22
  have l0 : sn114 [ρ 3, ρ 4] (γ 0) 0 (ρ 22) (γ 1) := hS114 _ _ _ _ _ (zAllA hl 0)
  have l1 : ρ 22 ≠ 33 := zAllA hl 1
  have l2 : sn106 [ρ 22] (γ 1) 0 0 (γ 2) := hS106 _ _ _ _ _ (zAllA hl 2)
  have l3 : sn105 [ρ 22] (γ 2) 0 1 (γ 3) := hS105 _ _ _ _ _ (zAllA hl 3)
  have l4 : sn115 [ρ 23, ρ 4, ρ 12, ρ 14] (γ 3) 0 0 (γ 4) := hS115 _ _ _ _ _ (zAllA hl 4)
  show sn157 [ρ 0, ρ 1, ρ 2, ρ 3, ρ 4, ρ 5, ρ 6, ρ 7, ρ 8, ρ 9, ρ 10, ρ 11, ρ 12, ρ 13, ρ 14, ρ 15, ρ 16, ρ 17, ρ 18, ρ 19, ρ 20, ρ 21] (γ 0) 0 0 (γ 4)
  refine Eq.symm ?_
  show fn157 [] (γ 0) = _
  unfold fn157
  refine zLE m0 (zLE m1 (zLE m2 (zLE (show fn114 [] (γ 0) = (0, ρ 22, γ 1) from l0.symm) (zLV (γ 1) rfl (zIP w_0 (zLV (ρ 22) rfl (zLE m22 ?_)))))))
  refine zIP w_1 (zLE (show fn106 [ρ 22] (γ 1) = (0, 0, γ 2) from l2.symm) (zLV (γ 2) rfl (zIN zQ0_ (zLE (show fn105 [ρ 22] (γ 2) = (0, 1, γ 3) from l3.symm) (zLV (γ 3) rfl (zIP zQ1_ (zLE (show fn115 [] (γ 3) = (0, 0, γ 4) from l4.symm) ?_)))))))
  refine zLV (γ 4) rfl (zIN zQ0_ ?_)
  rfl
theorem vn157_11 {S : Nat → zSpc} (hS103 : zIm S 103 sn103) (hS104 : zIm S 104 sn104) (hS105 : zIm S 105 sn105) (hS106 : zIm S 106 sn106) (hS107 : zIm S 107 sn107) (hS109 : zIm S 109 sn109) (hS114 : zIm S 114 sn114) (hS115 : zIm S 115 sn115) (hS116 : zIm S 116 sn116) (hS135 : zIm S 135 sn135) (hS139 : zIm S 139 sn139) (hS145 : zIm S 145 sn145) (hS154 : zIm S 154 sn154) (hS155 : zIm S 155 sn155) (hS156 : zIm S 156 sn156) {a : List Int} {g : rHp} : ∀ (ρ : Nat → Int) (γ : Nat → rHp), zO 22 S a g q157_11 ρ γ → zGl (fun _ _ _ => True) (sn157 a g) q157_11 ρ γ := by
  intro ρ γ h
  obtain ⟨ha, hg, hr, hf, hm, hc, hl⟩ := h
  have ha : a = [ρ 0, ρ 1, ρ 2, ρ 3, ρ 4, ρ 5, ρ 6, ρ 7, ρ 8, ρ 9, ρ 10, ρ 11, ρ 12, ρ 13, ρ 14, ρ 15, ρ 16, ρ 17, ρ 18, ρ 19, ρ 20, ρ 21] := ha
  subst ha
  subst hg
  have r22 : (97 : Int) ≤ ρ 22 ∧ ρ 22 ≤ 122 := zRnA hr 22
  obtain ⟨w_0, w_1⟩ : ((0 : Int) ≤ ρ 22) ∧ (ρ 22 ≠ 33) := ⟨by omega, by omega⟩
  have m0 : γ 0 1 0 10 = ρ 0 := zAllA hm 0
  have m1 : γ 0 40 0 (ρ 0) = ρ 1 := zAllA hm 1
  have m2 : γ 0 9 (ρ 1) 2 = ρ 2 := zAllA hm 2
  have m22 : γ 1 2 0 6 = ρ 23 := zAllA hm 22
  have m35 : γ 4 2 0 8 = ρ 26 := zAllA hm 35
  have l0 : sn114 [ρ 3, ρ 4] (γ 0) 0 (ρ 22) (γ 1) := hS114 _ _ _ _ _ (zAllA hl 0)
  have l1 : ρ 22 ≠ 33 := zAllA hl 1
  have l2 : sn106 [ρ 22] (γ 1) 0 0 (γ 2) := hS106 _ _ _ _ _ (zAllA hl 2)
  have l3 : sn105 [ρ 22] (γ 2) 0 1 (γ 3) := hS105 _ _ _ _ _ (zAllA hl 3)
  have l4 : sn115 [ρ 23, ρ 4, ρ 12, ρ 14] (γ 3) 0 1 (γ 4) := hS115 _ _ _ _ _ (zAllA hl 4)
  have l5 : sn114 [ρ 24, ρ 4] (γ 4) 0 (-1) (γ 5) := hS114 _ _ _ _ _ (zAllA hl 5)
  have l6 : sn103 [4, 0, ρ 23, ρ 0, ρ 1, ρ 2, ρ 9, ρ 10, ρ 5, ρ 18, ρ 19, ρ 7, ρ 20, ρ 21] (γ 5) 0 0 (γ 6) := hS103 _ _ _ _ _ (zAllA hl 6)
  have l7 : sn135 [ρ 2 + 9 * ρ 1 + 1, ρ 26, ρ 23, ρ 25, ρ 4, 0, ρ 12, ρ 17] (γ 6) 0 0 (γ 7) := hS135 _ _ _ _ _ (zAllA hl 7)
  show sn157 [ρ 0, ρ 1, ρ 2, ρ 3, ρ 4, ρ 5, ρ 6, ρ 7, ρ 8, ρ 9, ρ 10, ρ 11, ρ 12, ρ 13, ρ 14, ρ 15, ρ 16, ρ 17, ρ 18, ρ 19, ρ 20, ρ 21] (γ 0) 0 0 (γ 7)
  refine Eq.symm ?_
  show fn157 [] (γ 0) = _
  unfold fn157
  refine zLE m0 (zLE m1 (zLE m2 (zLE (show fn114 [] (γ 0) = (0, ρ 22, γ 1) from l0.symm) (zLV (γ 1) rfl (zIP w_0 (zLV (ρ 22) rfl (zLE m22 ?_)))))))
  refine zIP w_1 (zLE (show fn106 [ρ 22] (γ 1) = (0, 0, γ 2) from l2.symm) (zLV (γ 2) rfl (zIN zQ0_ (zLE (show fn105 [ρ 22] (γ 2) = (0, 1, γ 3) from l3.symm) (zLV (γ 3) rfl (zIP zQ1_ (zLE (show fn115 [] (γ 3) = (0, 1, γ 4) from l4.symm) ?_)))))))
  refine zLV (γ 4) rfl (zIP zQ1_ (zLE (show fn114 [] (γ 4) = (0, (-1), γ 5) from l5.symm) (zLV (γ 5) rfl (zIN zQ2_ (zLE (show fn103 [4, 0, ρ 23] (γ 5) = (0, 0, γ 6) from l6.symm) (zLV (γ 6) rfl (zLE m35 ?_)))))))
  refine zLE (show fn135 [ρ 2 + 9 * ρ 1 + 1, ρ 26, ρ 23] (γ 6) = (0, 0, γ 7) from l7.symm) (zLV (γ 7) rfl (zIN zQ0_ ?_))
  rfl
theorem vn157_12 {S : Nat → zSpc} (hS103 : zIm S 103 sn103) (hS104 : zIm S 104 sn104) (hS105 : zIm S 105 sn105) (hS106 : zIm S 106 sn106) (hS107 : zIm S 107 sn107) (hS109 : zIm S 109 sn109) (hS114 : zIm S 114 sn114) (hS115 : zIm S 115 sn115) (hS116 : zIm S 116 sn116) (hS135 : zIm S 135 sn135) (hS139 : zIm S 139 sn139) (hS145 : zIm S 145 sn145) (hS154 : zIm S 154 sn154) (hS155 : zIm S 155 sn155) (hS156 : zIm S 156 sn156) {a : List Int} {g : rHp} : ∀ (ρ : Nat → Int) (γ : Nat → rHp), zO 22 S a g q157_12 ρ γ → zGl (fun _ _ _ => True) (sn157 a g) q157_12 ρ γ := by
  intro ρ γ h
  obtain ⟨ha, hg, hr, hf, hm, hc, hl⟩ := h
  have ha : a = [ρ 0, ρ 1, ρ 2, ρ 3, ρ 4, ρ 5, ρ 6, ρ 7, ρ 8, ρ 9, ρ 10, ρ 11, ρ 12, ρ 13, ρ 14, ρ 15, ρ 16, ρ 17, ρ 18, ρ 19, ρ 20, ρ 21] := ha
  subst ha
  subst hg
  have r22 : (97 : Int) ≤ ρ 22 ∧ ρ 22 ≤ 122 := zRnA hr 22
  obtain ⟨w_0, w_1⟩ : ((0 : Int) ≤ ρ 22) ∧ (ρ 22 ≠ 33) := ⟨by omega, by omega⟩
  have m0 : γ 0 1 0 10 = ρ 0 := zAllA hm 0
  have m1 : γ 0 40 0 (ρ 0) = ρ 1 := zAllA hm 1
  have m2 : γ 0 9 (ρ 1) 2 = ρ 2 := zAllA hm 2
  have m22 : γ 1 2 0 6 = ρ 23 := zAllA hm 22
  have m35 : γ 4 2 0 8 = ρ 26 := zAllA hm 35
  have l0 : sn114 [ρ 3, ρ 4] (γ 0) 0 (ρ 22) (γ 1) := hS114 _ _ _ _ _ (zAllA hl 0)
  have l1 : ρ 22 ≠ 33 := zAllA hl 1
  have l2 : sn106 [ρ 22] (γ 1) 0 0 (γ 2) := hS106 _ _ _ _ _ (zAllA hl 2)
  have l3 : sn105 [ρ 22] (γ 2) 0 1 (γ 3) := hS105 _ _ _ _ _ (zAllA hl 3)
  have l4 : sn115 [ρ 23, ρ 4, ρ 12, ρ 14] (γ 3) 0 1 (γ 4) := hS115 _ _ _ _ _ (zAllA hl 4)
  have l5 : sn114 [ρ 24, ρ 4] (γ 4) 0 (-1) (γ 5) := hS114 _ _ _ _ _ (zAllA hl 5)
  have l6 : sn103 [4, 0, ρ 23, ρ 0, ρ 1, ρ 2, ρ 9, ρ 10, ρ 5, ρ 18, ρ 19, ρ 7, ρ 20, ρ 21] (γ 5) 0 0 (γ 6) := hS103 _ _ _ _ _ (zAllA hl 6)
  have l7 : sn135 [ρ 2 + 9 * ρ 1 + 1, ρ 26, ρ 23, ρ 25, ρ 4, 0, ρ 12, ρ 17] (γ 6) 0 1 (γ 7) := hS135 _ _ _ _ _ (zAllA hl 7)
  have l8 : sn154 [ρ 0, ρ 1, ρ 2, ρ 25, ρ 4, 4, ρ 9, ρ 10, ρ 12] (γ 7) 0 0 (γ 8) := hS154 _ _ _ _ _ (zAllA hl 8)
  show sn157 [ρ 0, ρ 1, ρ 2, ρ 3, ρ 4, ρ 5, ρ 6, ρ 7, ρ 8, ρ 9, ρ 10, ρ 11, ρ 12, ρ 13, ρ 14, ρ 15, ρ 16, ρ 17, ρ 18, ρ 19, ρ 20, ρ 21] (γ 0) 0 0 (γ 8)
  refine Eq.symm ?_
  show fn157 [] (γ 0) = _
  unfold fn157
  refine zLE m0 (zLE m1 (zLE m2 (zLE (show fn114 [] (γ 0) = (0, ρ 22, γ 1) from l0.symm) (zLV (γ 1) rfl (zIP w_0 (zLV (ρ 22) rfl (zLE m22 ?_)))))))
  refine zIP w_1 (zLE (show fn106 [ρ 22] (γ 1) = (0, 0, γ 2) from l2.symm) (zLV (γ 2) rfl (zIN zQ0_ (zLE (show fn105 [ρ 22] (γ 2) = (0, 1, γ 3) from l3.symm) (zLV (γ 3) rfl (zIP zQ1_ (zLE (show fn115 [] (γ 3) = (0, 1, γ 4) from l4.symm) ?_)))))))
  refine zLV (γ 4) rfl (zIP zQ1_ (zLE (show fn114 [] (γ 4) = (0, (-1), γ 5) from l5.symm) (zLV (γ 5) rfl (zIN zQ2_ (zLE (show fn103 [4, 0, ρ 23] (γ 5) = (0, 0, γ 6) from l6.symm) (zLV (γ 6) rfl (zLE m35 ?_)))))))
  refine zLE (show fn135 [ρ 2 + 9 * ρ 1 + 1, ρ 26, ρ 23] (γ 6) = (0, 1, γ 7) from l7.symm) (zLV (γ 7) rfl (zIP zQ1_ (zLE (show fn154 [] (γ 7) = (0, 0, γ 8) from l8.symm) (zLV (γ 8) rfl ?_))))
  rfl
theorem vn157_13 {S : Nat → zSpc} (hS103 : zIm S 103 sn103) (hS104 : zIm S 104 sn104) (hS105 : zIm S 105 sn105) (hS106 : zIm S 106 sn106) (hS107 : zIm S 107 sn107) (hS109 : zIm S 109 sn109) (hS114 : zIm S 114 sn114) (hS115 : zIm S 115 sn115) (hS116 : zIm S 116 sn116) (hS135 : zIm S 135 sn135) (hS139 : zIm S 139 sn139) (hS145 : zIm S 145 sn145) (hS154 : zIm S 154 sn154) (hS155 : zIm S 155 sn155) (hS156 : zIm S 156 sn156) {a : List Int} {g : rHp} : ∀ (ρ : Nat → Int) (γ : Nat → rHp), zO 22 S a g q157_13 ρ γ → zGl (fun _ _ _ => True) (sn157 a g) q157_13 ρ γ := by
  intro ρ γ h
  obtain ⟨ha, hg, hr, hf, hm, hc, hl⟩ := h
  have ha : a = [ρ 0, ρ 1, ρ 2, ρ 3, ρ 4, ρ 5, ρ 6, ρ 7, ρ 8, ρ 9, ρ 10, ρ 11, ρ 12, ρ 13, ρ 14, ρ 15, ρ 16, ρ 17, ρ 18, ρ 19, ρ 20, ρ 21] := ha
  subst ha
  subst hg
  have r22 : (97 : Int) ≤ ρ 22 ∧ ρ 22 ≤ 122 := zRnA hr 22
  have r25 : (0 : Int) ≤ ρ 25 ∧ ρ 25 ≤ 255 := zRnA hr 25
  obtain ⟨w_0, w_1, w_2⟩ : ((0 : Int) ≤ ρ 22) ∧ (ρ 22 ≠ 33) ∧ ((0 : Int) ≤ ρ 25) := ⟨by omega, by omega, by omega⟩
  have m0 : γ 0 1 0 10 = ρ 0 := zAllA hm 0
  have m1 : γ 0 40 0 (ρ 0) = ρ 1 := zAllA hm 1
  have m2 : γ 0 9 (ρ 1) 2 = ρ 2 := zAllA hm 2
  have m22 : γ 1 2 0 6 = ρ 23 := zAllA hm 22
  have m35 : γ 4 2 0 8 = ρ 27 := zAllA hm 35
  have l0 : sn114 [ρ 3, ρ 4] (γ 0) 0 (ρ 22) (γ 1) := hS114 _ _ _ _ _ (zAllA hl 0)
  have l1 : ρ 22 ≠ 33 := zAllA hl 1
  have l2 : sn106 [ρ 22] (γ 1) 0 0 (γ 2) := hS106 _ _ _ _ _ (zAllA hl 2)
  have l3 : sn105 [ρ 22] (γ 2) 0 1 (γ 3) := hS105 _ _ _ _ _ (zAllA hl 3)
  have l4 : sn115 [ρ 23, ρ 4, ρ 12, ρ 14] (γ 3) 0 1 (γ 4) := hS115 _ _ _ _ _ (zAllA hl 4)
  have l5 : sn114 [ρ 24, ρ 4] (γ 4) 0 (ρ 25) (γ 5) := hS114 _ _ _ _ _ (zAllA hl 5)
  have l6 : ρ 25 ≠ 40 := zAllA hl 6
  have l7 : sn103 [4, 0, ρ 23, ρ 0, ρ 1, ρ 2, ρ 9, ρ 10, ρ 5, ρ 18, ρ 19, ρ 7, ρ 20, ρ 21] (γ 5) 0 0 (γ 6) := hS103 _ _ _ _ _ (zAllA hl 7)
  have l8 : sn135 [ρ 2 + 9 * ρ 1 + 1, ρ 27, ρ 23, ρ 26, ρ 4, 0, ρ 12, ρ 17] (γ 6) 0 0 (γ 7) := hS135 _ _ _ _ _ (zAllA hl 8)
  have wl_0 : ρ 25 ≠ 40 := by omega
  show sn157 [ρ 0, ρ 1, ρ 2, ρ 3, ρ 4, ρ 5, ρ 6, ρ 7, ρ 8, ρ 9, ρ 10, ρ 11, ρ 12, ρ 13, ρ 14, ρ 15, ρ 16, ρ 17, ρ 18, ρ 19, ρ 20, ρ 21] (γ 0) 0 0 (γ 7)
  refine Eq.symm ?_
  show fn157 [] (γ 0) = _
  unfold fn157
  refine zLE m0 (zLE m1 (zLE m2 (zLE (show fn114 [] (γ 0) = (0, ρ 22, γ 1) from l0.symm) (zLV (γ 1) rfl (zIP w_0 (zLV (ρ 22) rfl (zLE m22 ?_)))))))
  refine zIP w_1 (zLE (show fn106 [ρ 22] (γ 1) = (0, 0, γ 2) from l2.symm) (zLV (γ 2) rfl (zIN zQ0_ (zLE (show fn105 [ρ 22] (γ 2) = (0, 1, γ 3) from l3.symm) (zLV (γ 3) rfl (zIP zQ1_ (zLE (show fn115 [] (γ 3) = (0, 1, γ 4) from l4.symm) ?_)))))))
  refine zLV (γ 4) rfl (zIP zQ1_ (zLE (show fn114 [] (γ 4) = (0, ρ 25, γ 5) from l5.symm) (zLV (γ 5) rfl (zIP w_2 (zLV (ρ 25) rfl (zIP wl_0 (zLE (show fn103 [4, 0, ρ 23] (γ 5) = (0, 0, γ 6) from l7.symm) ?_)))))))
  refine zLV (γ 6) rfl (zLE m35 (zLE (show fn135 [ρ 2 + 9 * ρ 1 + 1, ρ 27, ρ 23] (γ 6) = (0, 0, γ 7) from l8.symm) (zLV (γ 7) rfl (zIN zQ0_ ?_))))
  rfl
theorem vn157_14 {S : Nat → zSpc} (hS103 : zIm S 103 sn103) (hS104 : zIm S 104 sn104) (hS105 : zIm S 105 sn105) (hS106 : zIm S 106 sn106) (hS107 : zIm S 107 sn107) (hS109 : zIm S 109 sn109) (hS114 : zIm S 114 sn114) (hS115 : zIm S 115 sn115) (hS116 : zIm S 116 sn116) (hS135 : zIm S 135 sn135) (hS139 : zIm S 139 sn139) (hS145 : zIm S 145 sn145) (hS154 : zIm S 154 sn154) (hS155 : zIm S 155 sn155) (hS156 : zIm S 156 sn156) {a : List Int} {g : rHp} : ∀ (ρ : Nat → Int) (γ : Nat → rHp), zO 22 S a g q157_14 ρ γ → zGl (fun _ _ _ => True) (sn157 a g) q157_14 ρ γ := by
  intro ρ γ h
  obtain ⟨ha, hg, hr, hf, hm, hc, hl⟩ := h
  have ha : a = [ρ 0, ρ 1, ρ 2, ρ 3, ρ 4, ρ 5, ρ 6, ρ 7, ρ 8, ρ 9, ρ 10, ρ 11, ρ 12, ρ 13, ρ 14, ρ 15, ρ 16, ρ 17, ρ 18, ρ 19, ρ 20, ρ 21] := ha
  subst ha
  subst hg
  have r22 : (97 : Int) ≤ ρ 22 ∧ ρ 22 ≤ 122 := zRnA hr 22
  have r25 : (0 : Int) ≤ ρ 25 ∧ ρ 25 ≤ 255 := zRnA hr 25
  obtain ⟨w_0, w_1, w_2⟩ : ((0 : Int) ≤ ρ 22) ∧ (ρ 22 ≠ 33) ∧ ((0 : Int) ≤ ρ 25) := ⟨by omega, by omega, by omega⟩
  have m0 : γ 0 1 0 10 = ρ 0 := zAllA hm 0
  have m1 : γ 0 40 0 (ρ 0) = ρ 1 := zAllA hm 1
  have m2 : γ 0 9 (ρ 1) 2 = ρ 2 := zAllA hm 2
  have m22 : γ 1 2 0 6 = ρ 23 := zAllA hm 22
  have m35 : γ 4 2 0 8 = ρ 27 := zAllA hm 35
  have l0 : sn114 [ρ 3, ρ 4] (γ 0) 0 (ρ 22) (γ 1) := hS114 _ _ _ _ _ (zAllA hl 0)
  have l1 : ρ 22 ≠ 33 := zAllA hl 1
  have l2 : sn106 [ρ 22] (γ 1) 0 0 (γ 2) := hS106 _ _ _ _ _ (zAllA hl 2)
  have l3 : sn105 [ρ 22] (γ 2) 0 1 (γ 3) := hS105 _ _ _ _ _ (zAllA hl 3)
  have l4 : sn115 [ρ 23, ρ 4, ρ 12, ρ 14] (γ 3) 0 1 (γ 4) := hS115 _ _ _ _ _ (zAllA hl 4)
  have l5 : sn114 [ρ 24, ρ 4] (γ 4) 0 (ρ 25) (γ 5) := hS114 _ _ _ _ _ (zAllA hl 5)
  have l6 : ρ 25 ≠ 40 := zAllA hl 6
  have l7 : sn103 [4, 0, ρ 23, ρ 0, ρ 1, ρ 2, ρ 9, ρ 10, ρ 5, ρ 18, ρ 19, ρ 7, ρ 20, ρ 21] (γ 5) 0 0 (γ 6) := hS103 _ _ _ _ _ (zAllA hl 7)
  have l8 : sn135 [ρ 2 + 9 * ρ 1 + 1, ρ 27, ρ 23, ρ 26, ρ 4, 0, ρ 12, ρ 17] (γ 6) 0 1 (γ 7) := hS135 _ _ _ _ _ (zAllA hl 8)
  have l9 : sn154 [ρ 0, ρ 1, ρ 2, ρ 26, ρ 4, 4, ρ 9, ρ 10, ρ 12] (γ 7) 0 0 (γ 8) := hS154 _ _ _ _ _ (zAllA hl 9)
  have wl_0 : ρ 25 ≠ 40 := by omega
  show sn157 [ρ 0, ρ 1, ρ 2, ρ 3, ρ 4, ρ 5, ρ 6, ρ 7, ρ 8, ρ 9, ρ 10, ρ 11, ρ 12, ρ 13, ρ 14, ρ 15, ρ 16, ρ 17, ρ 18, ρ 19, ρ 20, ρ 21] (γ 0) 0 0 (γ 8)
  refine Eq.symm ?_
  show fn157 [] (γ 0) = _
  unfold fn157
  refine zLE m0 (zLE m1 (zLE m2 (zLE (show fn114 [] (γ 0) = (0, ρ 22, γ 1) from l0.symm) (zLV (γ 1) rfl (zIP w_0 (zLV (ρ 22) rfl (zLE m22 ?_)))))))
  refine zIP w_1 (zLE (show fn106 [ρ 22] (γ 1) = (0, 0, γ 2) from l2.symm) (zLV (γ 2) rfl (zIN zQ0_ (zLE (show fn105 [ρ 22] (γ 2) = (0, 1, γ 3) from l3.symm) (zLV (γ 3) rfl (zIP zQ1_ (zLE (show fn115 [] (γ 3) = (0, 1, γ 4) from l4.symm) ?_)))))))
  refine zLV (γ 4) rfl (zIP zQ1_ (zLE (show fn114 [] (γ 4) = (0, ρ 25, γ 5) from l5.symm) (zLV (γ 5) rfl (zIP w_2 (zLV (ρ 25) rfl (zIP wl_0 (zLE (show fn103 [4, 0, ρ 23] (γ 5) = (0, 0, γ 6) from l7.symm) ?_)))))))
  refine zLV (γ 6) rfl (zLE m35 (zLE (show fn135 [ρ 2 + 9 * ρ 1 + 1, ρ 27, ρ 23] (γ 6) = (0, 1, γ 7) from l8.symm) (zLV (γ 7) rfl (zIP zQ1_ (zLE (show fn154 [] (γ 7) = (0, 0, γ 8) from l9.symm) (zLV (γ 8) rfl (zIN zQ0_ ?_)))))))
  rfl
theorem vn157_15 {S : Nat → zSpc} (hS103 : zIm S 103 sn103) (hS104 : zIm S 104 sn104) (hS105 : zIm S 105 sn105) (hS106 : zIm S 106 sn106) (hS107 : zIm S 107 sn107) (hS109 : zIm S 109 sn109) (hS114 : zIm S 114 sn114) (hS115 : zIm S 115 sn115) (hS116 : zIm S 116 sn116) (hS135 : zIm S 135 sn135) (hS139 : zIm S 139 sn139) (hS145 : zIm S 145 sn145) (hS154 : zIm S 154 sn154) (hS155 : zIm S 155 sn155) (hS156 : zIm S 156 sn156) {a : List Int} {g : rHp} : ∀ (ρ : Nat → Int) (γ : Nat → rHp), zO 22 S a g q157_15 ρ γ → zGl (fun _ _ _ => True) (sn157 a g) q157_15 ρ γ := by
  intro ρ γ h
  obtain ⟨ha, hg, hr, hf, hm, hc, hl⟩ := h
  have ha : a = [ρ 0, ρ 1, ρ 2, ρ 3, ρ 4, ρ 5, ρ 6, ρ 7, ρ 8, ρ 9, ρ 10, ρ 11, ρ 12, ρ 13, ρ 14, ρ 15, ρ 16, ρ 17, ρ 18, ρ 19, ρ 20, ρ 21] := ha
  subst ha
  subst hg
  have r22 : (97 : Int) ≤ ρ 22 ∧ ρ 22 ≤ 122 := zRnA hr 22
  have r25 : (0 : Int) ≤ ρ 25 ∧ ρ 25 ≤ 255 := zRnA hr 25
  obtain ⟨w_0, w_1, w_2⟩ : ((0 : Int) ≤ ρ 22) ∧ (ρ 22 ≠ 33) ∧ ((0 : Int) ≤ ρ 25) := ⟨by omega, by omega, by omega⟩
  have m0 : γ 0 1 0 10 = ρ 0 := zAllA hm 0
  have m1 : γ 0 40 0 (ρ 0) = ρ 1 := zAllA hm 1
  have m2 : γ 0 9 (ρ 1) 2 = ρ 2 := zAllA hm 2
  have m22 : γ 1 2 0 6 = ρ 23 := zAllA hm 22
  have m35 : γ 4 2 0 8 = ρ 27 := zAllA hm 35
  have l0 : sn114 [ρ 3, ρ 4] (γ 0) 0 (ρ 22) (γ 1) := hS114 _ _ _ _ _ (zAllA hl 0)
  have l1 : ρ 22 ≠ 33 := zAllA hl 1
  have l2 : sn106 [ρ 22] (γ 1) 0 0 (γ 2) := hS106 _ _ _ _ _ (zAllA hl 2)
  have l3 : sn105 [ρ 22] (γ 2) 0 1 (γ 3) := hS105 _ _ _ _ _ (zAllA hl 3)
  have l4 : sn115 [ρ 23, ρ 4, ρ 12, ρ 14] (γ 3) 0 1 (γ 4) := hS115 _ _ _ _ _ (zAllA hl 4)
  have l5 : sn114 [ρ 24, ρ 4] (γ 4) 0 (ρ 25) (γ 5) := hS114 _ _ _ _ _ (zAllA hl 5)
  have l6 : ρ 25 ≠ 40 := zAllA hl 6
  have l7 : sn103 [4, 0, ρ 23, ρ 0, ρ 1, ρ 2, ρ 9, ρ 10, ρ 5, ρ 18, ρ 19, ρ 7, ρ 20, ρ 21] (γ 5) 0 0 (γ 6) := hS103 _ _ _ _ _ (zAllA hl 7)
  have l8 : sn135 [ρ 2 + 9 * ρ 1 + 1, ρ 27, ρ 23, ρ 26, ρ 4, 0, ρ 12, ρ 17] (γ 6) 0 1 (γ 7) := hS135 _ _ _ _ _ (zAllA hl 8)
  have l9 : sn154 [ρ 0, ρ 1, ρ 2, ρ 26, ρ 4, 4, ρ 9, ρ 10, ρ 12] (γ 7) 0 1 (γ 8) := hS154 _ _ _ _ _ (zAllA hl 9)
  have l10 : sn139 [ρ 2 + 9 * ρ 1 + 1, ρ 30, ρ 4, ρ 28, ρ 12, ρ 13, ρ 23, ρ 15, ρ 29] (γ 8) 0 0 (γ 9) := hS139 _ _ _ _ _ (zAllA hl 10)
  have wl_0 : ρ 25 ≠ 40 := by omega
  show sn157 [ρ 0, ρ 1, ρ 2, ρ 3, ρ 4, ρ 5, ρ 6, ρ 7, ρ 8, ρ 9, ρ 10, ρ 11, ρ 12, ρ 13, ρ 14, ρ 15, ρ 16, ρ 17, ρ 18, ρ 19, ρ 20, ρ 21] (γ 0) 0 0 (γ 9)
  refine Eq.symm ?_
  show fn157 [] (γ 0) = _
  unfold fn157
  refine zLE m0 (zLE m1 (zLE m2 (zLE (show fn114 [] (γ 0) = (0, ρ 22, γ 1) from l0.symm) (zLV (γ 1) rfl (zIP w_0 (zLV (ρ 22) rfl (zLE m22 ?_)))))))
  refine zIP w_1 (zLE (show fn106 [ρ 22] (γ 1) = (0, 0, γ 2) from l2.symm) (zLV (γ 2) rfl (zIN zQ0_ (zLE (show fn105 [ρ 22] (γ 2) = (0, 1, γ 3) from l3.symm) (zLV (γ 3) rfl (zIP zQ1_ (zLE (show fn115 [] (γ 3) = (0, 1, γ 4) from l4.symm) ?_)))))))
  refine zLV (γ 4) rfl (zIP zQ1_ (zLE (show fn114 [] (γ 4) = (0, ρ 25, γ 5) from l5.symm) (zLV (γ 5) rfl (zIP w_2 (zLV (ρ 25) rfl (zIP wl_0 (zLE (show fn103 [4, 0, ρ 23] (γ 5) = (0, 0, γ 6) from l7.symm) ?_)))))))
  refine zLV (γ 6) rfl (zLE m35 (zLE (show fn135 [ρ 2 + 9 * ρ 1 + 1, ρ 27, ρ 23] (γ 6) = (0, 1, γ 7) from l8.symm) (zLV (γ 7) rfl (zIP zQ1_ (zLE (show fn154 [] (γ 7) = (0, 1, γ 8) from l9.symm) (zLV (γ 8) rfl (zIP zQ1_ ?_)))))))
  refine zLE (show fn139 [ρ 2 + 9 * ρ 1 + 1] (γ 8) = (0, 0, γ 9) from l10.symm) (zLV (γ 9) rfl (zIN zQ0_ ?_))
  rfl
theorem vn157_16 {S : Nat → zSpc} (hS103 : zIm S 103 sn103) (hS104 : zIm S 104 sn104) (hS105 : zIm S 105 sn105) (hS106 : zIm S 106 sn106) (hS107 : zIm S 107 sn107) (hS109 : zIm S 109 sn109) (hS114 : zIm S 114 sn114) (hS115 : zIm S 115 sn115) (hS116 : zIm S 116 sn116) (hS135 : zIm S 135 sn135) (hS139 : zIm S 139 sn139) (hS145 : zIm S 145 sn145) (hS154 : zIm S 154 sn154) (hS155 : zIm S 155 sn155) (hS156 : zIm S 156 sn156) {a : List Int} {g : rHp} : ∀ (ρ : Nat → Int) (γ : Nat → rHp), zO 22 S a g q157_16 ρ γ → zGl (fun _ _ _ => True) (sn157 a g) q157_16 ρ γ := by
  intro ρ γ h
  obtain ⟨ha, hg, hr, hf, hm, hc, hl⟩ := h
  have ha : a = [ρ 0, ρ 1, ρ 2, ρ 3, ρ 4, ρ 5, ρ 6, ρ 7, ρ 8, ρ 9, ρ 10, ρ 11, ρ 12, ρ 13, ρ 14, ρ 15, ρ 16, ρ 17, ρ 18, ρ 19, ρ 20, ρ 21] := ha
  subst ha
  subst hg
  have r22 : (97 : Int) ≤ ρ 22 ∧ ρ 22 ≤ 122 := zRnA hr 22
  have r25 : (0 : Int) ≤ ρ 25 ∧ ρ 25 ≤ 255 := zRnA hr 25
  obtain ⟨w_0, w_1, w_2⟩ : ((0 : Int) ≤ ρ 22) ∧ (ρ 22 ≠ 33) ∧ ((0 : Int) ≤ ρ 25) := ⟨by omega, by omega, by omega⟩
  have m0 : γ 0 1 0 10 = ρ 0 := zAllA hm 0
  have m1 : γ 0 40 0 (ρ 0) = ρ 1 := zAllA hm 1
  have m2 : γ 0 9 (ρ 1) 2 = ρ 2 := zAllA hm 2
  have m22 : γ 1 2 0 6 = ρ 23 := zAllA hm 22
  have m35 : γ 4 2 0 8 = ρ 27 := zAllA hm 35
  have l0 : sn114 [ρ 3, ρ 4] (γ 0) 0 (ρ 22) (γ 1) := hS114 _ _ _ _ _ (zAllA hl 0)
  have l1 : ρ 22 ≠ 33 := zAllA hl 1
  have l2 : sn106 [ρ 22] (γ 1) 0 0 (γ 2) := hS106 _ _ _ _ _ (zAllA hl 2)
  have l3 : sn105 [ρ 22] (γ 2) 0 1 (γ 3) := hS105 _ _ _ _ _ (zAllA hl 3)
  have l4 : sn115 [ρ 23, ρ 4, ρ 12, ρ 14] (γ 3) 0 1 (γ 4) := hS115 _ _ _ _ _ (zAllA hl 4)
  have l5 : sn114 [ρ 24, ρ 4] (γ 4) 0 (ρ 25) (γ 5) := hS114 _ _ _ _ _ (zAllA hl 5)
  have l6 : ρ 25 ≠ 40 := zAllA hl 6
  have l7 : sn103 [4, 0, ρ 23, ρ 0, ρ 1, ρ 2, ρ 9, ρ 10, ρ 5, ρ 18, ρ 19, ρ 7, ρ 20, ρ 21] (γ 5) 0 0 (γ 6) := hS103 _ _ _ _ _ (zAllA hl 7)
  have l8 : sn135 [ρ 2 + 9 * ρ 1 + 1, ρ 27, ρ 23, ρ 26, ρ 4, 0, ρ 12, ρ 17] (γ 6) 0 1 (γ 7) := hS135 _ _ _ _ _ (zAllA hl 8)
  have l9 : sn154 [ρ 0, ρ 1, ρ 2, ρ 26, ρ 4, 4, ρ 9, ρ 10, ρ 12] (γ 7) 0 1 (γ 8) := hS154 _ _ _ _ _ (zAllA hl 9)
  have l10 : sn139 [ρ 2 + 9 * ρ 1 + 1, ρ 30, ρ 4, ρ 28, ρ 12, ρ 13, ρ 23, ρ 15, ρ 29] (γ 8) 0 1 (γ 9) := hS139 _ _ _ _ _ (zAllA hl 10)
  have wl_0 : ρ 25 ≠ 40 := by omega
  show sn157 [ρ 0, ρ 1, ρ 2, ρ 3, ρ 4, ρ 5, ρ 6, ρ 7, ρ 8, ρ 9, ρ 10, ρ 11, ρ 12, ρ 13, ρ 14, ρ 15, ρ 16, ρ 17, ρ 18, ρ 19, ρ 20, ρ 21] (γ 0) 0 1 (γ 9)
  refine Eq.symm ?_
  show fn157 [] (γ 0) = _
  unfold fn157
  refine zLE m0 (zLE m1 (zLE m2 (zLE (show fn114 [] (γ 0) = (0, ρ 22, γ 1) from l0.symm) (zLV (γ 1) rfl (zIP w_0 (zLV (ρ 22) rfl (zLE m22 ?_)))))))
  refine zIP w_1 (zLE (show fn106 [ρ 22] (γ 1) = (0, 0, γ 2) from l2.symm) (zLV (γ 2) rfl (zIN zQ0_ (zLE (show fn105 [ρ 22] (γ 2) = (0, 1, γ 3) from l3.symm) (zLV (γ 3) rfl (zIP zQ1_ (zLE (show fn115 [] (γ 3) = (0, 1, γ 4) from l4.symm) ?_)))))))
  refine zLV (γ 4) rfl (zIP zQ1_ (zLE (show fn114 [] (γ 4) = (0, ρ 25, γ 5) from l5.symm) (zLV (γ 5) rfl (zIP w_2 (zLV (ρ 25) rfl (zIP wl_0 (zLE (show fn103 [4, 0, ρ 23] (γ 5) = (0, 0, γ 6) from l7.symm) ?_)))))))
  refine zLV (γ 6) rfl (zLE m35 (zLE (show fn135 [ρ 2 + 9 * ρ 1 + 1, ρ 27, ρ 23] (γ 6) = (0, 1, γ 7) from l8.symm) (zLV (γ 7) rfl (zIP zQ1_ (zLE (show fn154 [] (γ 7) = (0, 1, γ 8) from l9.symm) (zLV (γ 8) rfl (zIP zQ1_ ?_)))))))
  refine zLE (show fn139 [ρ 2 + 9 * ρ 1 + 1] (γ 8) = (0, 1, γ 9) from l10.symm) (zLV (γ 9) rfl (zIP zQ1_ ?_))
  rfl
theorem vn157_17 {S : Nat → zSpc} (hS103 : zIm S 103 sn103) (hS104 : zIm S 104 sn104) (hS105 : zIm S 105 sn105) (hS106 : zIm S 106 sn106) (hS107 : zIm S 107 sn107) (hS109 : zIm S 109 sn109) (hS114 : zIm S 114 sn114) (hS115 : zIm S 115 sn115) (hS116 : zIm S 116 sn116) (hS135 : zIm S 135 sn135) (hS139 : zIm S 139 sn139) (hS145 : zIm S 145 sn145) (hS154 : zIm S 154 sn154) (hS155 : zIm S 155 sn155) (hS156 : zIm S 156 sn156) {a : List Int} {g : rHp} : ∀ (ρ : Nat → Int) (γ : Nat → rHp), zO 22 S a g q157_17 ρ γ → zGl (fun _ _ _ => True) (sn157 a g) q157_17 ρ γ := by
  intro ρ γ h
  obtain ⟨ha, hg, hr, hf, hm, hc, hl⟩ := h
  have ha : a = [ρ 0, ρ 1, ρ 2, ρ 3, ρ 4, ρ 5, ρ 6, ρ 7, ρ 8, ρ 9, ρ 10, ρ 11, ρ 12, ρ 13, ρ 14, ρ 15, ρ 16, ρ 17, ρ 18, ρ 19, ρ 20, ρ 21] := ha
  subst ha
  subst hg
  have r22 : (97 : Int) ≤ ρ 22 ∧ ρ 22 ≤ 122 := zRnA hr 22
  have r25 : (40 : Int) ≤ ρ 25 ∧ ρ 25 ≤ 40 := zRnA hr 25
  obtain ⟨w_0, w_1, w_2, w_3⟩ : ((0 : Int) ≤ ρ 22) ∧ (ρ 22 ≠ 33) ∧ ((0 : Int) ≤ ρ 25) ∧ (¬ (ρ 25 ≠ 40)) := ⟨by omega, by omega, by omega, by omega⟩
  have m0 : γ 0 1 0 10 = ρ 0 := zAllA hm 0
  have m1 : γ 0 40 0 (ρ 0) = ρ 1 := zAllA hm 1
  have m2 : γ 0 9 (ρ 1) 2 = ρ 2 := zAllA hm 2
  have m22 : γ 1 2 0 6 = ρ 23 := zAllA hm 22
  have l0 : sn114 [ρ 3, ρ 4] (γ 0) 0 (ρ 22) (γ 1) := hS114 _ _ _ _ _ (zAllA hl 0)
  have l1 : ρ 22 ≠ 33 := zAllA hl 1
  have l2 : sn106 [ρ 22] (γ 1) 0 0 (γ 2) := hS106 _ _ _ _ _ (zAllA hl 2)
  have l3 : sn105 [ρ 22] (γ 2) 0 1 (γ 3) := hS105 _ _ _ _ _ (zAllA hl 3)
  have l4 : sn115 [ρ 23, ρ 4, ρ 12, ρ 14] (γ 3) 0 1 (γ 4) := hS115 _ _ _ _ _ (zAllA hl 4)
  have l5 : sn114 [ρ 24, ρ 4] (γ 4) 0 (ρ 25) (γ 5) := hS114 _ _ _ _ _ (zAllA hl 5)
  have l6 : sn145 [1, ρ 0, ρ 1, ρ 2, ρ 26, ρ 4, ρ 18, ρ 5, ρ 8, ρ 7, ρ 9, ρ 10, ρ 11, ρ 12, ρ 13, ρ 23, ρ 15, ρ 16, ρ 17, ρ 19, ρ 20, ρ 21] (γ 5) 0 0 (γ 6) := hS145 _ _ _ _ _ (zAllA hl 6)
  show sn157 [ρ 0, ρ 1, ρ 2, ρ 3, ρ 4, ρ 5, ρ 6, ρ 7, ρ 8, ρ 9, ρ 10, ρ 11, ρ 12, ρ 13, ρ 14, ρ 15, ρ 16, ρ 17, ρ 18, ρ 19, ρ 20, ρ 21] (γ 0) 0 0 (γ 6)
  refine Eq.symm ?_
  show fn157 [] (γ 0) = _
  unfold fn157
  refine zLE m0 (zLE m1 (zLE m2 (zLE (show fn114 [] (γ 0) = (0, ρ 22, γ 1) from l0.symm) (zLV (γ 1) rfl (zIP w_0 (zLV (ρ 22) rfl (zLE m22 ?_)))))))
  refine zIP w_1 (zLE (show fn106 [ρ 22] (γ 1) = (0, 0, γ 2) from l2.symm) (zLV (γ 2) rfl (zIN zQ0_ (zLE (show fn105 [ρ 22] (γ 2) = (0, 1, γ 3) from l3.symm) (zLV (γ 3) rfl (zIP zQ1_ (zLE (show fn115 [] (γ 3) = (0, 1, γ 4) from l4.symm) ?_)))))))
  refine zLV (γ 4) rfl (zIP zQ1_ (zLE (show fn114 [] (γ 4) = (0, ρ 25, γ 5) from l5.symm) (zLV (γ 5) rfl (zIP w_2 (zLV (ρ 25) rfl (zIN w_3 (zLE (show fn145 [1] (γ 5) = (0, 0, γ 6) from l6.symm) ?_)))))))
  refine zLV (γ 6) rfl (zIN zQ0_ ?_)
  rfl
theorem vn157_18 {S : Nat → zSpc} (hS103 : zIm S 103 sn103) (hS104 : zIm S 104 sn104) (hS105 : zIm S 105 sn105) (hS106 : zIm S 106 sn106) (hS107 : zIm S 107 sn107) (hS109 : zIm S 109 sn109) (hS114 : zIm S 114 sn114) (hS115 : zIm S 115 sn115) (hS116 : zIm S 116 sn116) (hS135 : zIm S 135 sn135) (hS139 : zIm S 139 sn139) (hS145 : zIm S 145 sn145) (hS154 : zIm S 154 sn154) (hS155 : zIm S 155 sn155) (hS156 : zIm S 156 sn156) {a : List Int} {g : rHp} : ∀ (ρ : Nat → Int) (γ : Nat → rHp), zO 22 S a g q157_18 ρ γ → zGl (fun _ _ _ => True) (sn157 a g) q157_18 ρ γ := by
  intro ρ γ h
  obtain ⟨ha, hg, hr, hf, hm, hc, hl⟩ := h
  have ha : a = [ρ 0, ρ 1, ρ 2, ρ 3, ρ 4, ρ 5, ρ 6, ρ 7, ρ 8, ρ 9, ρ 10, ρ 11, ρ 12, ρ 13, ρ 14, ρ 15, ρ 16, ρ 17, ρ 18, ρ 19, ρ 20, ρ 21] := ha
  subst ha
  subst hg
  have r22 : (97 : Int) ≤ ρ 22 ∧ ρ 22 ≤ 122 := zRnA hr 22
  have r25 : (40 : Int) ≤ ρ 25 ∧ ρ 25 ≤ 40 := zRnA hr 25
  obtain ⟨w_0, w_1, w_2, w_3⟩ : ((0 : Int) ≤ ρ 22) ∧ (ρ 22 ≠ 33) ∧ ((0 : Int) ≤ ρ 25) ∧ (¬ (ρ 25 ≠ 40)) := ⟨by omega, by omega, by omega, by omega⟩
  have m0 : γ 0 1 0 10 = ρ 0 := zAllA hm 0
  have m1 : γ 0 40 0 (ρ 0) = ρ 1 := zAllA hm 1
  have m2 : γ 0 9 (ρ 1) 2 = ρ 2 := zAllA hm 2
  have m22 : γ 1 2 0 6 = ρ 23 := zAllA hm 22
  have l0 : sn114 [ρ 3, ρ 4] (γ 0) 0 (ρ 22) (γ 1) := hS114 _ _ _ _ _ (zAllA hl 0)
  have l1 : ρ 22 ≠ 33 := zAllA hl 1
  have l2 : sn106 [ρ 22] (γ 1) 0 0 (γ 2) := hS106 _ _ _ _ _ (zAllA hl 2)
  have l3 : sn105 [ρ 22] (γ 2) 0 1 (γ 3) := hS105 _ _ _ _ _ (zAllA hl 3)
  have l4 : sn115 [ρ 23, ρ 4, ρ 12, ρ 14] (γ 3) 0 1 (γ 4) := hS115 _ _ _ _ _ (zAllA hl 4)
  have l5 : sn114 [ρ 24, ρ 4] (γ 4) 0 (ρ 25) (γ 5) := hS114 _ _ _ _ _ (zAllA hl 5)
  have l6 : sn145 [1, ρ 0, ρ 1, ρ 2, ρ 26, ρ 4, ρ 18, ρ 5, ρ 8, ρ 7, ρ 9, ρ 10, ρ 11, ρ 12, ρ 13, ρ 23, ρ 15, ρ 16, ρ 17, ρ 19, ρ 20, ρ 21] (γ 5) 0 1 (γ 6) := hS145 _ _ _ _ _ (zAllA hl 6)
  show sn157 [ρ 0, ρ 1, ρ 2, ρ 3, ρ 4, ρ 5, ρ 6, ρ 7, ρ 8, ρ 9, ρ 10, ρ 11, ρ 12, ρ 13, ρ 14, ρ 15, ρ 16, ρ 17, ρ 18, ρ 19, ρ 20, ρ 21] (γ 0) 0 1 (γ 6)
  refine Eq.symm ?_
  show fn157 [] (γ 0) = _
  unfold fn157
  refine zLE m0 (zLE m1 (zLE m2 (zLE (show fn114 [] (γ 0) = (0, ρ 22, γ 1) from l0.symm) (zLV (γ 1) rfl (zIP w_0 (zLV (ρ 22) rfl (zLE m22 ?_)))))))
  refine zIP w_1 (zLE (show fn106 [ρ 22] (γ 1) = (0, 0, γ 2) from l2.symm) (zLV (γ 2) rfl (zIN zQ0_ (zLE (show fn105 [ρ 22] (γ 2) = (0, 1, γ 3) from l3.symm) (zLV (γ 3) rfl (zIP zQ1_ (zLE (show fn115 [] (γ 3) = (0, 1, γ 4) from l4.symm) ?_)))))))
  refine zLV (γ 4) rfl (zIP zQ1_ (zLE (show fn114 [] (γ 4) = (0, ρ 25, γ 5) from l5.symm) (zLV (γ 5) rfl (zIP w_2 (zLV (ρ 25) rfl (zIN w_3 (zLE (show fn145 [1] (γ 5) = (0, 1, γ 6) from l6.symm) ?_)))))))
  refine zLV (γ 6) rfl (zIP zQ1_ ?_)
  rfl
theorem vn157_19 {S : Nat → zSpc} (hS103 : zIm S 103 sn103) (hS104 : zIm S 104 sn104) (hS105 : zIm S 105 sn105) (hS106 : zIm S 106 sn106) (hS107 : zIm S 107 sn107) (hS109 : zIm S 109 sn109) (hS114 : zIm S 114 sn114) (hS115 : zIm S 115 sn115) (hS116 : zIm S 116 sn116) (hS135 : zIm S 135 sn135) (hS139 : zIm S 139 sn139) (hS145 : zIm S 145 sn145) (hS154 : zIm S 154 sn154) (hS155 : zIm S 155 sn155) (hS156 : zIm S 156 sn156) {a : List Int} {g : rHp} : ∀ (ρ : Nat → Int) (γ : Nat → rHp), zO 22 S a g q157_19 ρ γ → zGl (fun _ _ _ => True) (sn157 a g) q157_19 ρ γ := by
  intro ρ γ h
  obtain ⟨ha, hg, hr, hf, hm, hc, hl⟩ := h
  have ha : a = [ρ 0, ρ 1, ρ 2, ρ 3, ρ 4, ρ 5, ρ 6, ρ 7, ρ 8, ρ 9, ρ 10, ρ 11, ρ 12, ρ 13, ρ 14, ρ 15, ρ 16, ρ 17, ρ 18, ρ 19, ρ 20, ρ 21] := ha
  subst ha
  subst hg
  have r22 : (97 : Int) ≤ ρ 22 ∧ ρ 22 ≤ 122 := zRnA hr 22
  have r25 : (40 : Int) ≤ ρ 25 ∧ ρ 25 ≤ 40 := zRnA hr 25
  obtain ⟨w_0, w_1, w_2, w_3⟩ : ((0 : Int) ≤ ρ 22) ∧ (ρ 22 ≠ 33) ∧ ((0 : Int) ≤ ρ 25) ∧ (¬ (ρ 25 ≠ 40)) := ⟨by omega, by omega, by omega, by omega⟩
  have m0 : γ 0 1 0 10 = ρ 0 := zAllA hm 0
  have m1 : γ 0 40 0 (ρ 0) = ρ 1 := zAllA hm 1
  have m2 : γ 0 9 (ρ 1) 2 = ρ 2 := zAllA hm 2
  have m22 : γ 1 2 0 6 = ρ 23 := zAllA hm 22
  have l0 : sn114 [ρ 3, ρ 4] (γ 0) 0 (ρ 22) (γ 1) := hS114 _ _ _ _ _ (zAllA hl 0)
  have l1 : ρ 22 ≠ 33 := zAllA hl 1
  have l2 : sn106 [ρ 22] (γ 1) 0 0 (γ 2) := hS106 _ _ _ _ _ (zAllA hl 2)
  have l3 : sn105 [ρ 22] (γ 2) 0 1 (γ 3) := hS105 _ _ _ _ _ (zAllA hl 3)
  have l4 : sn115 [ρ 23, ρ 4, ρ 12, ρ 14] (γ 3) 0 1 (γ 4) := hS115 _ _ _ _ _ (zAllA hl 4)
  have l5 : sn114 [ρ 24, ρ 4] (γ 4) 0 (ρ 25) (γ 5) := hS114 _ _ _ _ _ (zAllA hl 5)
  have l6 : sn145 [1, ρ 0, ρ 1, ρ 2, ρ 26, ρ 4, ρ 18, ρ 5, ρ 8, ρ 7, ρ 9, ρ 10, ρ 11, ρ 12, ρ 13, ρ 23, ρ 15, ρ 16, ρ 17, ρ 19, ρ 20, ρ 21] (γ 5) 0 1 (γ 6) := hS145 _ _ _ _ _ (zAllA hl 6)
  show sn157 [ρ 0, ρ 1, ρ 2, ρ 3, ρ 4, ρ 5, ρ 6, ρ 7, ρ 8, ρ 9, ρ 10, ρ 11, ρ 12, ρ 13, ρ 14, ρ 15, ρ 16, ρ 17, ρ 18, ρ 19, ρ 20, ρ 21] (γ 0) 0 1 (γ 6)
  refine Eq.symm ?_
  show fn157 [] (γ 0) = _
  unfold fn157
  refine zLE m0 (zLE m1 (zLE m2 (zLE (show fn114 [] (γ 0) = (0, ρ 22, γ 1) from l0.symm) (zLV (γ 1) rfl (zIP w_0 (zLV (ρ 22) rfl (zLE m22 ?_)))))))
  refine zIP w_1 (zLE (show fn106 [ρ 22] (γ 1) = (0, 0, γ 2) from l2.symm) (zLV (γ 2) rfl (zIN zQ0_ (zLE (show fn105 [ρ 22] (γ 2) = (0, 1, γ 3) from l3.symm) (zLV (γ 3) rfl (zIP zQ1_ (zLE (show fn115 [] (γ 3) = (0, 1, γ 4) from l4.symm) ?_)))))))
  refine zLV (γ 4) rfl (zIP zQ1_ (zLE (show fn114 [] (γ 4) = (0, ρ 25, γ 5) from l5.symm) (zLV (γ 5) rfl (zIP w_2 (zLV (ρ 25) rfl (zIN w_3 (zLE (show fn145 [1] (γ 5) = (0, 1, γ 6) from l6.symm) ?_)))))))
  refine zLV (γ 6) rfl (zIP zQ1_ ?_)
  rfl
theorem vn157_20 {S : Nat → zSpc} (hS103 : zIm S 103 sn103) (hS104 : zIm S 104 sn104) (hS105 : zIm S 105 sn105) (hS106 : zIm S 106 sn106) (hS107 : zIm S 107 sn107) (hS109 : zIm S 109 sn109) (hS114 : zIm S 114 sn114) (hS115 : zIm S 115 sn115) (hS116 : zIm S 116 sn116) (hS135 : zIm S 135 sn135) (hS139 : zIm S 139 sn139) (hS145 : zIm S 145 sn145) (hS154 : zIm S 154 sn154) (hS155 : zIm S 155 sn155) (hS156 : zIm S 156 sn156) {a : List Int} {g : rHp} : ∀ (ρ : Nat → Int) (γ : Nat → rHp), zO 22 S a g q157_20 ρ γ → zGl (fun _ _ _ => True) (sn157 a g) q157_20 ρ γ := by
  intro ρ γ h
  obtain ⟨ha, hg, hr, hf, hm, hc, hl⟩ := h
  have ha : a = [ρ 0, ρ 1, ρ 2, ρ 3, ρ 4, ρ 5, ρ 6, ρ 7, ρ 8, ρ 9, ρ 10, ρ 11, ρ 12, ρ 13, ρ 14, ρ 15, ρ 16, ρ 17, ρ 18, ρ 19, ρ 20, ρ 21] := ha
  subst ha
  subst hg
  have r22 : (65 : Int) ≤ ρ 22 ∧ ρ 22 ≤ 90 := zRnA hr 22
  obtain ⟨w_0, w_1⟩ : ((0 : Int) ≤ ρ 22) ∧ (ρ 22 ≠ 33) := ⟨by omega, by omega⟩
  have m0 : γ 0 1 0 10 = ρ 0 := zAllA hm 0
  have m1 : γ 0 40 0 (ρ 0) = ρ 1 := zAllA hm 1
  have m2 : γ 0 9 (ρ 1) 2 = ρ 2 := zAllA hm 2
  have m22 : γ 1 2 0 6 = ρ 23 := zAllA hm 22
  have l0 : sn114 [ρ 3, ρ 4] (γ 0) 0 (ρ 22) (γ 1) := hS114 _ _ _ _ _ (zAllA hl 0)
  have l1 : ρ 22 ≠ 33 := zAllA hl 1
  have l2 : sn106 [ρ 22] (γ 1) 0 1 (γ 2) := hS106 _ _ _ _ _ (zAllA hl 2)
  have l3 : sn115 [ρ 23, ρ 4, ρ 12, ρ 14] (γ 2) 0 0 (γ 3) := hS115 _ _ _ _ _ (zAllA hl 3)
  show sn157 [ρ 0, ρ 1, ρ 2, ρ 3, ρ 4, ρ 5, ρ 6, ρ 7, ρ 8, ρ 9, ρ 10, ρ 11, ρ 12, ρ 13, ρ 14, ρ 15, ρ 16, ρ 17, ρ 18, ρ 19, ρ 20, ρ 21] (γ 0) 0 0 (γ 3)
  refine Eq.symm ?_
  show fn157 [] (γ 0) = _
  unfold fn157
  refine zLE m0 (zLE m1 (zLE m2 (zLE (show fn114 [] (γ 0) = (0, ρ 22, γ 1) from l0.symm) (zLV (γ 1) rfl (zIP w_0 (zLV (ρ 22) rfl (zLE m22 ?_)))))))
  refine zIP w_1 (zLE (show fn106 [ρ 22] (γ 1) = (0, 1, γ 2) from l2.symm) (zLV (γ 2) rfl (zIP zQ1_ (zLE (show fn115 [] (γ 2) = (0, 0, γ 3) from l3.symm) (zLV (γ 3) rfl (zIN zQ0_ ?_))))))
  rfl
theorem vn157_21 {S : Nat → zSpc} (hS103 : zIm S 103 sn103) (hS104 : zIm S 104 sn104) (hS105 : zIm S 105 sn105) (hS106 : zIm S 106 sn106) (hS107 : zIm S 107 sn107) (hS109 : zIm S 109 sn109) (hS114 : zIm S 114 sn114) (hS115 : zIm S 115 sn115) (hS116 : zIm S 116 sn116) (hS135 : zIm S 135 sn135) (hS139 : zIm S 139 sn139) (hS145 : zIm S 145 sn145) (hS154 : zIm S 154 sn154) (hS155 : zIm S 155 sn155) (hS156 : zIm S 156 sn156) {a : List Int} {g : rHp} : ∀ (ρ : Nat → Int) (γ : Nat → rHp), zO 22 S a g q157_21 ρ γ → zGl (fun _ _ _ => True) (sn157 a g) q157_21 ρ γ := by
  intro ρ γ h
  obtain ⟨ha, hg, hr, hf, hm, hc, hl⟩ := h
  have ha : a = [ρ 0, ρ 1, ρ 2, ρ 3, ρ 4, ρ 5, ρ 6, ρ 7, ρ 8, ρ 9, ρ 10, ρ 11, ρ 12, ρ 13, ρ 14, ρ 15, ρ 16, ρ 17, ρ 18, ρ 19, ρ 20, ρ 21] := ha
  subst ha
  subst hg
  have r22 : (65 : Int) ≤ ρ 22 ∧ ρ 22 ≤ 90 := zRnA hr 22
  obtain ⟨w_0, w_1⟩ : ((0 : Int) ≤ ρ 22) ∧ (ρ 22 ≠ 33) := ⟨by omega, by omega⟩
  have m0 : γ 0 1 0 10 = ρ 0 := zAllA hm 0
  have m1 : γ 0 40 0 (ρ 0) = ρ 1 := zAllA hm 1
  have m2 : γ 0 9 (ρ 1) 2 = ρ 2 := zAllA hm 2
  have m22 : γ 1 2 0 6 = ρ 23 := zAllA hm 22
  have m27 : γ 3 2 0 8 = ρ 26 := zAllA hm 27
  have l0 : sn114 [ρ 3, ρ 4] (γ 0) 0 (ρ 22) (γ 1) := hS114 _ _ _ _ _ (zAllA hl 0)
  have l1 : ρ 22 ≠ 33 := zAllA hl 1
  have l2 : sn106 [ρ 22] (γ 1) 0 1 (γ 2) := hS106 _ _ _ _ _ (zAllA hl 2)
  have l3 : sn115 [ρ 23, ρ 4, ρ 12, ρ 14] (γ 2) 0 1 (γ 3) := hS115 _ _ _ _ _ (zAllA hl 3)
  have l4 : sn114 [ρ 24, ρ 4] (γ 3) 0 (-1) (γ 4) := hS114 _ _ _ _ _ (zAllA hl 4)
  have l5 : sn105 [(-1)] (γ 4) 0 0 (γ 5) := hS105 _ _ _ _ _ (zAllA hl 5)
  have l6 : sn155 [ρ 26, ρ 23, ρ 0, ρ 1, ρ 2, ρ 25, ρ 4, ρ 5, ρ 9, ρ 10, ρ 12, ρ 13, ρ 23, ρ 15, ρ 17, ρ 18, ρ 19, ρ 7, ρ 20, ρ 21] (γ 5) 0 0 (γ 6) := hS155 _ _ _ _ _ (zAllA hl 6)
  show sn157 [ρ 0, ρ 1, ρ 2, ρ 3, ρ 4, ρ 5, ρ 6, ρ 7, ρ 8, ρ 9, ρ 10, ρ 11, ρ 12, ρ 13, ρ 14, ρ 15, ρ 16, ρ 17, ρ 18, ρ 19, ρ 20, ρ 21] (γ 0) 0 0 (γ 6)
  refine Eq.symm ?_
  show fn157 [] (γ 0) = _
  unfold fn157
  refine zLE m0 (zLE m1 (zLE m2 (zLE (show fn114 [] (γ 0) = (0, ρ 22, γ 1) from l0.symm) (zLV (γ 1) rfl (zIP w_0 (zLV (ρ 22) rfl (zLE m22 ?_)))))))
  refine zIP w_1 (zLE (show fn106 [ρ 22] (γ 1) = (0, 1, γ 2) from l2.symm) (zLV (γ 2) rfl (zIP zQ1_ (zLE (show fn115 [] (γ 2) = (0, 1, γ 3) from l3.symm) (zLV (γ 3) rfl (zIP zQ1_ (zLE (show fn114 [] (γ 3) = (0, (-1), γ 4) from l4.symm) ?_)))))))
  refine zLV (γ 4) rfl (zIN zQ2_ (zLE (show fn105 [(-1)] (γ 4) = (0, 0, γ 5) from l5.symm) (zLV (γ 5) rfl (zLE m27 (zLE (show fn155 [ρ 26, ρ 23] (γ 5) = (0, 0, γ 6) from l6.symm) (zLV (γ 6) rfl ?_))))))
  rfl
theorem vn157_22 {S : Nat → zSpc} (hS103 : zIm S 103 sn103) (hS104 : zIm S 104 sn104) (hS105 : zIm S 105 sn105) (hS106 : zIm S 106 sn106) (hS107 : zIm S 107 sn107) (hS109 : zIm S 109 sn109) (hS114 : zIm S 114 sn114) (hS115 : zIm S 115 sn115) (hS116 : zIm S 116 sn116) (hS135 : zIm S 135 sn135) (hS139 : zIm S 139 sn139) (hS145 : zIm S 145 sn145) (hS154 : zIm S 154 sn154) (hS155 : zIm S 155 sn155) (hS156 : zIm S 156 sn156) {a : List Int} {g : rHp} : ∀ (ρ : Nat → Int) (γ : Nat → rHp), zO 22 S a g q157_22 ρ γ → zGl (fun _ _ _ => True) (sn157 a g) q157_22 ρ γ := by
  intro ρ γ h
  obtain ⟨ha, hg, hr, hf, hm, hc, hl⟩ := h
  have ha : a = [ρ 0, ρ 1, ρ 2, ρ 3, ρ 4, ρ 5, ρ 6, ρ 7, ρ 8, ρ 9, ρ 10, ρ 11, ρ 12, ρ 13, ρ 14, ρ 15, ρ 16, ρ 17, ρ 18, ρ 19, ρ 20, ρ 21] := ha
  subst ha
  subst hg
  have r22 : (65 : Int) ≤ ρ 22 ∧ ρ 22 ≤ 90 := zRnA hr 22
  have r25 : (0 : Int) ≤ ρ 25 ∧ ρ 25 ≤ 255 := zRnA hr 25
  obtain ⟨w_0, w_1, w_2⟩ : ((0 : Int) ≤ ρ 22) ∧ (ρ 22 ≠ 33) ∧ ((0 : Int) ≤ ρ 25) := ⟨by omega, by omega, by omega⟩
  have m0 : γ 0 1 0 10 = ρ 0 := zAllA hm 0
  have m1 : γ 0 40 0 (ρ 0) = ρ 1 := zAllA hm 1
  have m2 : γ 0 9 (ρ 1) 2 = ρ 2 := zAllA hm 2
  have m22 : γ 1 2 0 6 = ρ 23 := zAllA hm 22
  have m27 : γ 3 2 0 8 = ρ 27 := zAllA hm 27
  have l0 : sn114 [ρ 3, ρ 4] (γ 0) 0 (ρ 22) (γ 1) := hS114 _ _ _ _ _ (zAllA hl 0)
  have l1 : ρ 22 ≠ 33 := zAllA hl 1
  have l2 : sn106 [ρ 22] (γ 1) 0 1 (γ 2) := hS106 _ _ _ _ _ (zAllA hl 2)
  have l3 : sn115 [ρ 23, ρ 4, ρ 12, ρ 14] (γ 2) 0 1 (γ 3) := hS115 _ _ _ _ _ (zAllA hl 3)
  have l4 : sn114 [ρ 24, ρ 4] (γ 3) 0 (ρ 25) (γ 4) := hS114 _ _ _ _ _ (zAllA hl 4)
  have l5 : sn105 [ρ 25] (γ 4) 0 0 (γ 5) := hS105 _ _ _ _ _ (zAllA hl 5)
  have l6 : sn155 [ρ 27, ρ 23, ρ 0, ρ 1, ρ 2, ρ 26, ρ 4, ρ 5, ρ 9, ρ 10, ρ 12, ρ 13, ρ 23, ρ 15, ρ 17, ρ 18, ρ 19, ρ 7, ρ 20, ρ 21] (γ 5) 0 0 (γ 6) := hS155 _ _ _ _ _ (zAllA hl 6)
  show sn157 [ρ 0, ρ 1, ρ 2, ρ 3, ρ 4, ρ 5, ρ 6, ρ 7, ρ 8, ρ 9, ρ 10, ρ 11, ρ 12, ρ 13, ρ 14, ρ 15, ρ 16, ρ 17, ρ 18, ρ 19, ρ 20, ρ 21] (γ 0) 0 0 (γ 6)
  refine Eq.symm ?_
  show fn157 [] (γ 0) = _
  unfold fn157
  refine zLE m0 (zLE m1 (zLE m2 (zLE (show fn114 [] (γ 0) = (0, ρ 22, γ 1) from l0.symm) (zLV (γ 1) rfl (zIP w_0 (zLV (ρ 22) rfl (zLE m22 ?_)))))))
  refine zIP w_1 (zLE (show fn106 [ρ 22] (γ 1) = (0, 1, γ 2) from l2.symm) (zLV (γ 2) rfl (zIP zQ1_ (zLE (show fn115 [] (γ 2) = (0, 1, γ 3) from l3.symm) (zLV (γ 3) rfl (zIP zQ1_ (zLE (show fn114 [] (γ 3) = (0, ρ 25, γ 4) from l4.symm) ?_)))))))
  refine zLV (γ 4) rfl (zIP w_2 (zLV (ρ 25) rfl (zLE (show fn105 [ρ 25] (γ 4) = (0, 0, γ 5) from l5.symm) (zLV (γ 5) rfl (zIN zQ0_ (zLE m27 (zLE (show fn155 [ρ 27, ρ 23] (γ 5) = (0, 0, γ 6) from l6.symm) ?_)))))))
  refine zLV (γ 6) rfl (zIN zQ0_ ?_)
  rfl
theorem vn157_23 {S : Nat → zSpc} (hS103 : zIm S 103 sn103) (hS104 : zIm S 104 sn104) (hS105 : zIm S 105 sn105) (hS106 : zIm S 106 sn106) (hS107 : zIm S 107 sn107) (hS109 : zIm S 109 sn109) (hS114 : zIm S 114 sn114) (hS115 : zIm S 115 sn115) (hS116 : zIm S 116 sn116) (hS135 : zIm S 135 sn135) (hS139 : zIm S 139 sn139) (hS145 : zIm S 145 sn145) (hS154 : zIm S 154 sn154) (hS155 : zIm S 155 sn155) (hS156 : zIm S 156 sn156) {a : List Int} {g : rHp} : ∀ (ρ : Nat → Int) (γ : Nat → rHp), zO 22 S a g q157_23 ρ γ → zGl (fun _ _ _ => True) (sn157 a g) q157_23 ρ γ := by
  intro ρ γ h
  obtain ⟨ha, hg, hr, hf, hm, hc, hl⟩ := h
  have ha : a = [ρ 0, ρ 1, ρ 2, ρ 3, ρ 4, ρ 5, ρ 6, ρ 7, ρ 8, ρ 9, ρ 10, ρ 11, ρ 12, ρ 13, ρ 14, ρ 15, ρ 16, ρ 17, ρ 18, ρ 19, ρ 20, ρ 21] := ha
  subst ha
  subst hg
  have r22 : (65 : Int) ≤ ρ 22 ∧ ρ 22 ≤ 90 := zRnA hr 22
  have r25 : (0 : Int) ≤ ρ 25 ∧ ρ 25 ≤ 255 := zRnA hr 25
  obtain ⟨w_0, w_1, w_2⟩ : ((0 : Int) ≤ ρ 22) ∧ (ρ 22 ≠ 33) ∧ ((0 : Int) ≤ ρ 25) := ⟨by omega, by omega, by omega⟩
  have m0 : γ 0 1 0 10 = ρ 0 := zAllA hm 0
  have m1 : γ 0 40 0 (ρ 0) = ρ 1 := zAllA hm 1
  have m2 : γ 0 9 (ρ 1) 2 = ρ 2 := zAllA hm 2
  have m22 : γ 1 2 0 6 = ρ 23 := zAllA hm 22
  have m27 : γ 3 2 0 8 = ρ 27 := zAllA hm 27
  have l0 : sn114 [ρ 3, ρ 4] (γ 0) 0 (ρ 22) (γ 1) := hS114 _ _ _ _ _ (zAllA hl 0)
  have l1 : ρ 22 ≠ 33 := zAllA hl 1
  have l2 : sn106 [ρ 22] (γ 1) 0 1 (γ 2) := hS106 _ _ _ _ _ (zAllA hl 2)
  have l3 : sn115 [ρ 23, ρ 4, ρ 12, ρ 14] (γ 2) 0 1 (γ 3) := hS115 _ _ _ _ _ (zAllA hl 3)
  have l4 : sn114 [ρ 24, ρ 4] (γ 3) 0 (ρ 25) (γ 4) := hS114 _ _ _ _ _ (zAllA hl 4)
  have l5 : sn105 [ρ 25] (γ 4) 0 0 (γ 5) := hS105 _ _ _ _ _ (zAllA hl 5)
  have l6 : sn155 [ρ 27, ρ 23, ρ 0, ρ 1, ρ 2, ρ 26, ρ 4, ρ 5, ρ 9, ρ 10, ρ 12, ρ 13, ρ 23, ρ 15, ρ 17, ρ 18, ρ 19, ρ 7, ρ 20, ρ 21] (γ 5) 0 1 (γ 6) := hS155 _ _ _ _ _ (zAllA hl 6)
  show sn157 [ρ 0, ρ 1, ρ 2, ρ 3, ρ 4, ρ 5, ρ 6, ρ 7, ρ 8, ρ 9, ρ 10, ρ 11, ρ 12, ρ 13, ρ 14, ρ 15, ρ 16, ρ 17, ρ 18, ρ 19, ρ 20, ρ 21] (γ 0) 0 1 (γ 6)
  refine Eq.symm ?_
  show fn157 [] (γ 0) = _
  unfold fn157
  refine zLE m0 (zLE m1 (zLE m2 (zLE (show fn114 [] (γ 0) = (0, ρ 22, γ 1) from l0.symm) (zLV (γ 1) rfl (zIP w_0 (zLV (ρ 22) rfl (zLE m22 ?_)))))))
  refine zIP w_1 (zLE (show fn106 [ρ 22] (γ 1) = (0, 1, γ 2) from l2.symm) (zLV (γ 2) rfl (zIP zQ1_ (zLE (show fn115 [] (γ 2) = (0, 1, γ 3) from l3.symm) (zLV (γ 3) rfl (zIP zQ1_ (zLE (show fn114 [] (γ 3) = (0, ρ 25, γ 4) from l4.symm) ?_)))))))
  refine zLV (γ 4) rfl (zIP w_2 (zLV (ρ 25) rfl (zLE (show fn105 [ρ 25] (γ 4) = (0, 0, γ 5) from l5.symm) (zLV (γ 5) rfl (zIN zQ0_ (zLE m27 (zLE (show fn155 [ρ 27, ρ 23] (γ 5) = (0, 1, γ 6) from l6.symm) ?_)))))))
  refine zLV (γ 6) rfl (zIP zQ1_ ?_)
  rfl
theorem vn157_24 {S : Nat → zSpc} (hS103 : zIm S 103 sn103) (hS104 : zIm S 104 sn104) (hS105 : zIm S 105 sn105) (hS106 : zIm S 106 sn106) (hS107 : zIm S 107 sn107) (hS109 : zIm S 109 sn109) (hS114 : zIm S 114 sn114) (hS115 : zIm S 115 sn115) (hS116 : zIm S 116 sn116) (hS135 : zIm S 135 sn135) (hS139 : zIm S 139 sn139) (hS145 : zIm S 145 sn145) (hS154 : zIm S 154 sn154) (hS155 : zIm S 155 sn155) (hS156 : zIm S 156 sn156) {a : List Int} {g : rHp} : ∀ (ρ : Nat → Int) (γ : Nat → rHp), zO 22 S a g q157_24 ρ γ → zGl (fun _ _ _ => True) (sn157 a g) q157_24 ρ γ := by
  intro ρ γ h
  obtain ⟨ha, hg, hr, hf, hm, hc, hl⟩ := h
  have ha : a = [ρ 0, ρ 1, ρ 2, ρ 3, ρ 4, ρ 5, ρ 6, ρ 7, ρ 8, ρ 9, ρ 10, ρ 11, ρ 12, ρ 13, ρ 14, ρ 15, ρ 16, ρ 17, ρ 18, ρ 19, ρ 20, ρ 21] := ha
  subst ha
  subst hg
  have r22 : (65 : Int) ≤ ρ 22 ∧ ρ 22 ≤ 90 := zRnA hr 22
  have r25 : (97 : Int) ≤ ρ 25 ∧ ρ 25 ≤ 122 := zRnA hr 25
  obtain ⟨w_0, w_1, w_2⟩ : ((0 : Int) ≤ ρ 22) ∧ (ρ 22 ≠ 33) ∧ ((0 : Int) ≤ ρ 25) := ⟨by omega, by omega, by omega⟩
  have m0 : γ 0 1 0 10 = ρ 0 := zAllA hm 0
  have m1 : γ 0 40 0 (ρ 0) = ρ 1 := zAllA hm 1
  have m2 : γ 0 9 (ρ 1) 2 = ρ 2 := zAllA hm 2
  have m22 : γ 1 2 0 6 = ρ 23 := zAllA hm 22
  have m27 : γ 3 2 0 8 = ρ 27 := zAllA hm 27
  have l0 : sn114 [ρ 3, ρ 4] (γ 0) 0 (ρ 22) (γ 1) := hS114 _ _ _ _ _ (zAllA hl 0)
  have l1 : ρ 22 ≠ 33 := zAllA hl 1
  have l2 : sn106 [ρ 22] (γ 1) 0 1 (γ 2) := hS106 _ _ _ _ _ (zAllA hl 2)
  have l3 : sn115 [ρ 23, ρ 4, ρ 12, ρ 14] (γ 2) 0 1 (γ 3) := hS115 _ _ _ _ _ (zAllA hl 3)
  have l4 : sn114 [ρ 24, ρ 4] (γ 3) 0 (ρ 25) (γ 4) := hS114 _ _ _ _ _ (zAllA hl 4)
  have l5 : sn105 [ρ 25] (γ 4) 0 1 (γ 5) := hS105 _ _ _ _ _ (zAllA hl 5)
  have l6 : sn156 [ρ 27, ρ 23, ρ 0, ρ 1, ρ 2, ρ 26, ρ 4, ρ 5, ρ 6, ρ 9, ρ 10, ρ 12, ρ 13, ρ 23, ρ 15, ρ 17, ρ 18, ρ 19, ρ 7, ρ 20, ρ 21] (γ 5) 0 0 (γ 6) := hS156 _ _ _ _ _ (zAllA hl 6)
  show sn157 [ρ 0, ρ 1, ρ 2, ρ 3, ρ 4, ρ 5, ρ 6, ρ 7, ρ 8, ρ 9, ρ 10, ρ 11, ρ 12, ρ 13, ρ 14, ρ 15, ρ 16, ρ 17, ρ 18, ρ 19, ρ 20, ρ 21] (γ 0) 0 0 (γ 6)
  refine Eq.symm ?_
  show fn157 [] (γ 0) = _
  unfold fn157
  refine zLE m0 (zLE m1 (zLE m2 (zLE (show fn114 [] (γ 0) = (0, ρ 22, γ 1) from l0.symm) (zLV (γ 1) rfl (zIP w_0 (zLV (ρ 22) rfl (zLE m22 ?_)))))))
  refine zIP w_1 (zLE (show fn106 [ρ 22] (γ 1) = (0, 1, γ 2) from l2.symm) (zLV (γ 2) rfl (zIP zQ1_ (zLE (show fn115 [] (γ 2) = (0, 1, γ 3) from l3.symm) (zLV (γ 3) rfl (zIP zQ1_ (zLE (show fn114 [] (γ 3) = (0, ρ 25, γ 4) from l4.symm) ?_)))))))
  refine zLV (γ 4) rfl (zIP w_2 (zLV (ρ 25) rfl (zLE (show fn105 [ρ 25] (γ 4) = (0, 1, γ 5) from l5.symm) (zLV (γ 5) rfl (zIP zQ1_ (zLE m27 (zLE (show fn156 [ρ 27, ρ 23] (γ 5) = (0, 0, γ 6) from l6.symm) ?_)))))))
  refine zLV (γ 6) rfl (zIN zQ0_ ?_)
  rfl
theorem vn157_25 {S : Nat → zSpc} (hS103 : zIm S 103 sn103) (hS104 : zIm S 104 sn104) (hS105 : zIm S 105 sn105) (hS106 : zIm S 106 sn106) (hS107 : zIm S 107 sn107) (hS109 : zIm S 109 sn109) (hS114 : zIm S 114 sn114) (hS115 : zIm S 115 sn115) (hS116 : zIm S 116 sn116) (hS135 : zIm S 135 sn135) (hS139 : zIm S 139 sn139) (hS145 : zIm S 145 sn145) (hS154 : zIm S 154 sn154) (hS155 : zIm S 155 sn155) (hS156 : zIm S 156 sn156) {a : List Int} {g : rHp} : ∀ (ρ : Nat → Int) (γ : Nat → rHp), zO 22 S a g q157_25 ρ γ → zGl (fun _ _ _ => True) (sn157 a g) q157_25 ρ γ := by
  intro ρ γ h
  obtain ⟨ha, hg, hr, hf, hm, hc, hl⟩ := h
  have ha : a = [ρ 0, ρ 1, ρ 2, ρ 3, ρ 4, ρ 5, ρ 6, ρ 7, ρ 8, ρ 9, ρ 10, ρ 11, ρ 12, ρ 13, ρ 14, ρ 15, ρ 16, ρ 17, ρ 18, ρ 19, ρ 20, ρ 21] := ha
  subst ha
  subst hg
  have r22 : (65 : Int) ≤ ρ 22 ∧ ρ 22 ≤ 90 := zRnA hr 22
  have r25 : (97 : Int) ≤ ρ 25 ∧ ρ 25 ≤ 122 := zRnA hr 25
  obtain ⟨w_0, w_1, w_2⟩ : ((0 : Int) ≤ ρ 22) ∧ (ρ 22 ≠ 33) ∧ ((0 : Int) ≤ ρ 25) := ⟨by omega, by omega, by omega⟩
  have m0 : γ 0 1 0 10 = ρ 0 := zAllA hm 0
  have m1 : γ 0 40 0 (ρ 0) = ρ 1 := zAllA hm 1
  have m2 : γ 0 9 (ρ 1) 2 = ρ 2 := zAllA hm 2
  have m22 : γ 1 2 0 6 = ρ 23 := zAllA hm 22
  have m27 : γ 3 2 0 8 = ρ 27 := zAllA hm 27
  have l0 : sn114 [ρ 3, ρ 4] (γ 0) 0 (ρ 22) (γ 1) := hS114 _ _ _ _ _ (zAllA hl 0)
  have l1 : ρ 22 ≠ 33 := zAllA hl 1
  have l2 : sn106 [ρ 22] (γ 1) 0 1 (γ 2) := hS106 _ _ _ _ _ (zAllA hl 2)
  have l3 : sn115 [ρ 23, ρ 4, ρ 12, ρ 14] (γ 2) 0 1 (γ 3) := hS115 _ _ _ _ _ (zAllA hl 3)
  have l4 : sn114 [ρ 24, ρ 4] (γ 3) 0 (ρ 25) (γ 4) := hS114 _ _ _ _ _ (zAllA hl 4)
  have l5 : sn105 [ρ 25] (γ 4) 0 1 (γ 5) := hS105 _ _ _ _ _ (zAllA hl 5)
  have l6 : sn156 [ρ 27, ρ 23, ρ 0, ρ 1, ρ 2, ρ 26, ρ 4, ρ 5, ρ 6, ρ 9, ρ 10, ρ 12, ρ 13, ρ 23, ρ 15, ρ 17, ρ 18, ρ 19, ρ 7, ρ 20, ρ 21] (γ 5) 0 1 (γ 6) := hS156 _ _ _ _ _ (zAllA hl 6)
  show sn157 [ρ 0, ρ 1, ρ 2, ρ 3, ρ 4, ρ 5, ρ 6, ρ 7, ρ 8, ρ 9, ρ 10, ρ 11, ρ 12, ρ 13, ρ 14, ρ 15, ρ 16, ρ 17, ρ 18, ρ 19, ρ 20, ρ 21] (γ 0) 0 1 (γ 6)
  refine Eq.symm ?_
  show fn157 [] (γ 0) = _
  unfold fn157
  refine zLE m0 (zLE m1 (zLE m2 (zLE (show fn114 [] (γ 0) = (0, ρ 22, γ 1) from l0.symm) (zLV (γ 1) rfl (zIP w_0 (zLV (ρ 22) rfl (zLE m22 ?_)))))))
  refine zIP w_1 (zLE (show fn106 [ρ 22] (γ 1) = (0, 1, γ 2) from l2.symm) (zLV (γ 2) rfl (zIP zQ1_ (zLE (show fn115 [] (γ 2) = (0, 1, γ 3) from l3.symm) (zLV (γ 3) rfl (zIP zQ1_ (zLE (show fn114 [] (γ 3) = (0, ρ 25, γ 4) from l4.symm) ?_)))))))
  refine zLV (γ 4) rfl (zIP w_2 (zLV (ρ 25) rfl (zLE (show fn105 [ρ 25] (γ 4) = (0, 1, γ 5) from l5.symm) (zLV (γ 5) rfl (zIP zQ1_ (zLE m27 (zLE (show fn156 [ρ 27, ρ 23] (γ 5) = (0, 1, γ 6) from l6.symm) ?_)))))))
  refine zLV (γ 6) rfl (zIP zQ1_ ?_)
  rfl
theorem vn157_26 {S : Nat → zSpc} (hS103 : zIm S 103 sn103) (hS104 : zIm S 104 sn104) (hS105 : zIm S 105 sn105) (hS106 : zIm S 106 sn106) (hS107 : zIm S 107 sn107) (hS109 : zIm S 109 sn109) (hS114 : zIm S 114 sn114) (hS115 : zIm S 115 sn115) (hS116 : zIm S 116 sn116) (hS135 : zIm S 135 sn135) (hS139 : zIm S 139 sn139) (hS145 : zIm S 145 sn145) (hS154 : zIm S 154 sn154) (hS155 : zIm S 155 sn155) (hS156 : zIm S 156 sn156) {a : List Int} {g : rHp} : ∀ (ρ : Nat → Int) (γ : Nat → rHp), zO 22 S a g q157_26 ρ γ → zGl (fun _ _ _ => True) (sn157 a g) q157_26 ρ γ := by
  intro ρ γ h
  obtain ⟨ha, hg, hr, hf, hm, hc, hl⟩ := h
  have ha : a = [ρ 0, ρ 1, ρ 2, ρ 3, ρ 4, ρ 5, ρ 6, ρ 7, ρ 8, ρ 9, ρ 10, ρ 11, ρ 12, ρ 13, ρ 14, ρ 15, ρ 16, ρ 17, ρ 18, ρ 19, ρ 20, ρ 21] := ha
  subst ha
  subst hg
  have r22 : (33 : Int) ≤ ρ 22 ∧ ρ 22 ≤ 33 := zRnA hr 22
  obtain ⟨w_0, w_1⟩ : ((0 : Int) ≤ ρ 22) ∧ (¬ (ρ 22 ≠ 33)) := ⟨by omega, by omega⟩
  have m0 : γ 0 1 0 10 = ρ 0 := zAllA hm 0
  have m1 : γ 0 40 0 (ρ 0) = ρ 1 := zAllA hm 1
  have m2 : γ 0 9 (ρ 1) 2 = ρ 2 := zAllA hm 2
  have m22 : γ 1 2 0 6 = ρ 23 := zAllA hm 22
  have m23 : γ 3 2 0 6 = ρ 24 := zAllA hm 23
  have c2 : γ 2 = rUp (γ 1) 2 0 6 (ρ 23 + 1) := And.right (zChA hc 3)
  have l0 : sn114 [ρ 3, ρ 4] (γ 0) 0 (ρ 22) (γ 1) := hS114 _ _ _ _ _ (zAllA hl 0)
  have l1 : sn114 [ρ 23 + 1, ρ 4] (γ 2) 0 (-1) (γ 3) := hS114 _ _ _ _ _ (zAllA hl 1)
  have l2 : sn105 [(-1)] (γ 3) 0 0 (γ 4) := hS105 _ _ _ _ _ (zAllA hl 2)
  have l3 : sn109 [ρ 24, ρ 12] (γ 4) 0 0 (γ 5) := hS109 _ _ _ _ _ (zAllA hl 3)
  show sn157 [ρ 0, ρ 1, ρ 2, ρ 3, ρ 4, ρ 5, ρ 6, ρ 7, ρ 8, ρ 9, ρ 10, ρ 11, ρ 12, ρ 13, ρ 14, ρ 15, ρ 16, ρ 17, ρ 18, ρ 19, ρ 20, ρ 21] (γ 0) 0 0 (γ 5)
  refine Eq.symm ?_
  show fn157 [] (γ 0) = _
  unfold fn157
  refine zLE m0 (zLE m1 (zLE m2 (zLE (show fn114 [] (γ 0) = (0, ρ 22, γ 1) from l0.symm) (zLV (γ 1) rfl (zIP w_0 (zLV (ρ 22) rfl (zLE m22 ?_)))))))
  refine zIN w_1 (zLE c2.symm (zLE (show fn114 [] (γ 2) = (0, (-1), γ 3) from l1.symm) (zLV (γ 3) rfl (zIN zQ2_ (zLE m23 (zLE (show fn105 [(-1)] (γ 3) = (0, 0, γ 4) from l2.symm) (zLV (γ 4) rfl ?_)))))))
  refine zLE (show fn109 [ρ 24] (γ 4) = (0, 0, γ 5) from l3.symm) (zLV (γ 5) rfl ?_)
  rfl
theorem vn157_27 {S : Nat → zSpc} (hS103 : zIm S 103 sn103) (hS104 : zIm S 104 sn104) (hS105 : zIm S 105 sn105) (hS106 : zIm S 106 sn106) (hS107 : zIm S 107 sn107) (hS109 : zIm S 109 sn109) (hS114 : zIm S 114 sn114) (hS115 : zIm S 115 sn115) (hS116 : zIm S 116 sn116) (hS135 : zIm S 135 sn135) (hS139 : zIm S 139 sn139) (hS145 : zIm S 145 sn145) (hS154 : zIm S 154 sn154) (hS155 : zIm S 155 sn155) (hS156 : zIm S 156 sn156) {a : List Int} {g : rHp} : ∀ (ρ : Nat → Int) (γ : Nat → rHp), zO 22 S a g q157_27 ρ γ → zGl (fun _ _ _ => True) (sn157 a g) q157_27 ρ γ := by
  intro ρ γ h
  obtain ⟨ha, hg, hr, hf, hm, hc, hl⟩ := h
  have ha : a = [ρ 0, ρ 1, ρ 2, ρ 3, ρ 4, ρ 5, ρ 6, ρ 7, ρ 8, ρ 9, ρ 10, ρ 11, ρ 12, ρ 13, ρ 14, ρ 15, ρ 16, ρ 17, ρ 18, ρ 19, ρ 20, ρ 21] := ha
  subst ha
  subst hg
  have r22 : (33 : Int) ≤ ρ 22 ∧ ρ 22 ≤ 33 := zRnA hr 22
  have r24 : (0 : Int) ≤ ρ 24 ∧ ρ 24 ≤ 255 := zRnA hr 24
  obtain ⟨w_0, w_1, w_2⟩ : ((0 : Int) ≤ ρ 22) ∧ (¬ (ρ 22 ≠ 33)) ∧ ((0 : Int) ≤ ρ 24) := ⟨by omega, by omega, by omega⟩
  have m0 : γ 0 1 0 10 = ρ 0 := zAllA hm 0
  have m1 : γ 0 40 0 (ρ 0) = ρ 1 := zAllA hm 1
  have m2 : γ 0 9 (ρ 1) 2 = ρ 2 := zAllA hm 2
  have m22 : γ 1 2 0 6 = ρ 23 := zAllA hm 22
  have m23 : γ 3 2 0 6 = ρ 25 := zAllA hm 23
  have c2 : γ 2 = rUp (γ 1) 2 0 6 (ρ 23 + 1) := And.right (zChA hc 3)
  have l0 : sn114 [ρ 3, ρ 4] (γ 0) 0 (ρ 22) (γ 1) := hS114 _ _ _ _ _ (zAllA hl 0)
  have l1 : sn114 [ρ 23 + 1, ρ 4] (γ 2) 0 (ρ 24) (γ 3) := hS114 _ _ _ _ _ (zAllA hl 1)
  have l2 : sn105 [ρ 24] (γ 3) 0 0 (γ 4) := hS105 _ _ _ _ _ (zAllA hl 2)
  have l3 : sn109 [ρ 25, ρ 12] (γ 4) 0 0 (γ 5) := hS109 _ _ _ _ _ (zAllA hl 3)
  show sn157 [ρ 0, ρ 1, ρ 2, ρ 3, ρ 4, ρ 5, ρ 6, ρ 7, ρ 8, ρ 9, ρ 10, ρ 11, ρ 12, ρ 13, ρ 14, ρ 15, ρ 16, ρ 17, ρ 18, ρ 19, ρ 20, ρ 21] (γ 0) 0 0 (γ 5)
  refine Eq.symm ?_
  show fn157 [] (γ 0) = _
  unfold fn157
  refine zLE m0 (zLE m1 (zLE m2 (zLE (show fn114 [] (γ 0) = (0, ρ 22, γ 1) from l0.symm) (zLV (γ 1) rfl (zIP w_0 (zLV (ρ 22) rfl (zLE m22 ?_)))))))
  refine zIN w_1 (zLE c2.symm (zLE (show fn114 [] (γ 2) = (0, ρ 24, γ 3) from l1.symm) (zLV (γ 3) rfl (zIP w_2 (zLV (ρ 24) rfl (zLE m23 (zLE (show fn105 [ρ 24] (γ 3) = (0, 0, γ 4) from l2.symm) ?_)))))))
  refine zLV (γ 4) rfl (zIN zQ0_ (zLE (show fn109 [ρ 25] (γ 4) = (0, 0, γ 5) from l3.symm) (zLV (γ 5) rfl ?_)))
  rfl
theorem vn157_28 {S : Nat → zSpc} (hS103 : zIm S 103 sn103) (hS104 : zIm S 104 sn104) (hS105 : zIm S 105 sn105) (hS106 : zIm S 106 sn106) (hS107 : zIm S 107 sn107) (hS109 : zIm S 109 sn109) (hS114 : zIm S 114 sn114) (hS115 : zIm S 115 sn115) (hS116 : zIm S 116 sn116) (hS135 : zIm S 135 sn135) (hS139 : zIm S 139 sn139) (hS145 : zIm S 145 sn145) (hS154 : zIm S 154 sn154) (hS155 : zIm S 155 sn155) (hS156 : zIm S 156 sn156) {a : List Int} {g : rHp} : ∀ (ρ : Nat → Int) (γ : Nat → rHp), zO 22 S a g q157_28 ρ γ → zGl (fun _ _ _ => True) (sn157 a g) q157_28 ρ γ := by
  intro ρ γ h
  obtain ⟨ha, hg, hr, hf, hm, hc, hl⟩ := h
  have ha : a = [ρ 0, ρ 1, ρ 2, ρ 3, ρ 4, ρ 5, ρ 6, ρ 7, ρ 8, ρ 9, ρ 10, ρ 11, ρ 12, ρ 13, ρ 14, ρ 15, ρ 16, ρ 17, ρ 18, ρ 19, ρ 20, ρ 21] := ha
  subst ha
  subst hg
  have r22 : (33 : Int) ≤ ρ 22 ∧ ρ 22 ≤ 33 := zRnA hr 22
  have r24 : (97 : Int) ≤ ρ 24 ∧ ρ 24 ≤ 122 := zRnA hr 24
  obtain ⟨w_0, w_1, w_2⟩ : ((0 : Int) ≤ ρ 22) ∧ (¬ (ρ 22 ≠ 33)) ∧ ((0 : Int) ≤ ρ 24) := ⟨by omega, by omega, by omega⟩
  have m0 : γ 0 1 0 10 = ρ 0 := zAllA hm 0
  have m1 : γ 0 40 0 (ρ 0) = ρ 1 := zAllA hm 1
  have m2 : γ 0 9 (ρ 1) 2 = ρ 2 := zAllA hm 2
  have m22 : γ 1 2 0 6 = ρ 23 := zAllA hm 22
  have m23 : γ 3 2 0 6 = ρ 25 := zAllA hm 23
  have c2 : γ 2 = rUp (γ 1) 2 0 6 (ρ 23 + 1) := And.right (zChA hc 3)
  have l0 : sn114 [ρ 3, ρ 4] (γ 0) 0 (ρ 22) (γ 1) := hS114 _ _ _ _ _ (zAllA hl 0)
  have l1 : sn114 [ρ 23 + 1, ρ 4] (γ 2) 0 (ρ 24) (γ 3) := hS114 _ _ _ _ _ (zAllA hl 1)
  have l2 : sn105 [ρ 24] (γ 3) 0 1 (γ 4) := hS105 _ _ _ _ _ (zAllA hl 2)
  have l3 : sn115 [ρ 25, ρ 4, ρ 12, ρ 14] (γ 4) 0 0 (γ 5) := hS115 _ _ _ _ _ (zAllA hl 3)
  show sn157 [ρ 0, ρ 1, ρ 2, ρ 3, ρ 4, ρ 5, ρ 6, ρ 7, ρ 8, ρ 9, ρ 10, ρ 11, ρ 12, ρ 13, ρ 14, ρ 15, ρ 16, ρ 17, ρ 18, ρ 19, ρ 20, ρ 21] (γ 0) 0 0 (γ 5)
  refine Eq.symm ?_
  show fn157 [] (γ 0) = _
  unfold fn157
  refine zLE m0 (zLE m1 (zLE m2 (zLE (show fn114 [] (γ 0) = (0, ρ 22, γ 1) from l0.symm) (zLV (γ 1) rfl (zIP w_0 (zLV (ρ 22) rfl (zLE m22 ?_)))))))
  refine zIN w_1 (zLE c2.symm (zLE (show fn114 [] (γ 2) = (0, ρ 24, γ 3) from l1.symm) (zLV (γ 3) rfl (zIP w_2 (zLV (ρ 24) rfl (zLE m23 (zLE (show fn105 [ρ 24] (γ 3) = (0, 1, γ 4) from l2.symm) ?_)))))))
  refine zLV (γ 4) rfl (zIP zQ1_ (zLE (show fn115 [] (γ 4) = (0, 0, γ 5) from l3.symm) (zLV (γ 5) rfl (zIN zQ0_ ?_))))
  rfl
theorem vn157_29 {S : Nat → zSpc} (hS103 : zIm S 103 sn103) (hS104 : zIm S 104 sn104) (hS105 : zIm S 105 sn105) (hS106 : zIm S 106 sn106) (hS107 : zIm S 107 sn107) (hS109 : zIm S 109 sn109) (hS114 : zIm S 114 sn114) (hS115 : zIm S 115 sn115) (hS116 : zIm S 116 sn116) (hS135 : zIm S 135 sn135) (hS139 : zIm S 139 sn139) (hS145 : zIm S 145 sn145) (hS154 : zIm S 154 sn154) (hS155 : zIm S 155 sn155) (hS156 : zIm S 156 sn156) {a : List Int} {g : rHp} : ∀ (ρ : Nat → Int) (γ : Nat → rHp), zO 22 S a g q157_29 ρ γ → zGl (fun _ _ _ => True) (sn157 a g) q157_29 ρ γ := by
  intro ρ γ h
  obtain ⟨ha, hg, hr, hf, hm, hc, hl⟩ := h
  have ha : a = [ρ 0, ρ 1, ρ 2, ρ 3, ρ 4, ρ 5, ρ 6, ρ 7, ρ 8, ρ 9, ρ 10, ρ 11, ρ 12, ρ 13, ρ 14, ρ 15, ρ 16, ρ 17, ρ 18, ρ 19, ρ 20, ρ 21] := ha
  subst ha
  subst hg
  have r22 : (33 : Int) ≤ ρ 22 ∧ ρ 22 ≤ 33 := zRnA hr 22
  have r24 : (97 : Int) ≤ ρ 24 ∧ ρ 24 ≤ 122 := zRnA hr 24
  obtain ⟨w_0, w_1, w_2⟩ : ((0 : Int) ≤ ρ 22) ∧ (¬ (ρ 22 ≠ 33)) ∧ ((0 : Int) ≤ ρ 24) := ⟨by omega, by omega, by omega⟩
  have m0 : γ 0 1 0 10 = ρ 0 := zAllA hm 0
  have m1 : γ 0 40 0 (ρ 0) = ρ 1 := zAllA hm 1
  have m2 : γ 0 9 (ρ 1) 2 = ρ 2 := zAllA hm 2
  have m22 : γ 1 2 0 6 = ρ 23 := zAllA hm 22
  have m23 : γ 3 2 0 6 = ρ 25 := zAllA hm 23
  have c2 : γ 2 = rUp (γ 1) 2 0 6 (ρ 23 + 1) := And.right (zChA hc 4)
  have l0 : sn114 [ρ 3, ρ 4] (γ 0) 0 (ρ 22) (γ 1) := hS114 _ _ _ _ _ (zAllA hl 0)
  have l1 : sn114 [ρ 23 + 1, ρ 4] (γ 2) 0 (ρ 24) (γ 3) := hS114 _ _ _ _ _ (zAllA hl 1)
  have l2 : sn105 [ρ 24] (γ 3) 0 1 (γ 4) := hS105 _ _ _ _ _ (zAllA hl 2)
  have l3 : sn115 [ρ 25, ρ 4, ρ 12, ρ 14] (γ 4) 0 1 (γ 5) := hS115 _ _ _ _ _ (zAllA hl 3)
  have l4 : sn145 [2, ρ 0, ρ 1, ρ 2, ρ 26, ρ 4, ρ 18, ρ 5, ρ 8, ρ 7, ρ 9, ρ 10, ρ 11, ρ 12, ρ 13, ρ 25, ρ 15, ρ 16, ρ 17, ρ 19, ρ 20, ρ 21] (γ 5) 0 0 (γ 6) := hS145 _ _ _ _ _ (zAllA hl 4)
  show sn157 [ρ 0, ρ 1, ρ 2, ρ 3, ρ 4, ρ 5, ρ 6, ρ 7, ρ 8, ρ 9, ρ 10, ρ 11, ρ 12, ρ 13, ρ 14, ρ 15, ρ 16, ρ 17, ρ 18, ρ 19, ρ 20, ρ 21] (γ 0) 0 0 (γ 6)
  refine Eq.symm ?_
  show fn157 [] (γ 0) = _
  unfold fn157
  refine zLE m0 (zLE m1 (zLE m2 (zLE (show fn114 [] (γ 0) = (0, ρ 22, γ 1) from l0.symm) (zLV (γ 1) rfl (zIP w_0 (zLV (ρ 22) rfl (zLE m22 ?_)))))))
  refine zIN w_1 (zLE c2.symm (zLE (show fn114 [] (γ 2) = (0, ρ 24, γ 3) from l1.symm) (zLV (γ 3) rfl (zIP w_2 (zLV (ρ 24) rfl (zLE m23 (zLE (show fn105 [ρ 24] (γ 3) = (0, 1, γ 4) from l2.symm) ?_)))))))
  refine zLV (γ 4) rfl (zIP zQ1_ (zLE (show fn115 [] (γ 4) = (0, 1, γ 5) from l3.symm) (zLV (γ 5) rfl (zIP zQ1_ (zLE (show fn145 [2] (γ 5) = (0, 0, γ 6) from l4.symm) (zLV (γ 6) rfl (zIN zQ0_ ?_)))))))
  rfl
theorem vn157_30 {S : Nat → zSpc} (hS103 : zIm S 103 sn103) (hS104 : zIm S 104 sn104) (hS105 : zIm S 105 sn105) (hS106 : zIm S 106 sn106) (hS107 : zIm S 107 sn107) (hS109 : zIm S 109 sn109) (hS114 : zIm S 114 sn114) (hS115 : zIm S 115 sn115) (hS116 : zIm S 116 sn116) (hS135 : zIm S 135 sn135) (hS139 : zIm S 139 sn139) (hS145 : zIm S 145 sn145) (hS154 : zIm S 154 sn154) (hS155 : zIm S 155 sn155) (hS156 : zIm S 156 sn156) {a : List Int} {g : rHp} : ∀ (ρ : Nat → Int) (γ : Nat → rHp), zO 22 S a g q157_30 ρ γ → zGl (fun _ _ _ => True) (sn157 a g) q157_30 ρ γ := by
  intro ρ γ h
  obtain ⟨ha, hg, hr, hf, hm, hc, hl⟩ := h
  have ha : a = [ρ 0, ρ 1, ρ 2, ρ 3, ρ 4, ρ 5, ρ 6, ρ 7, ρ 8, ρ 9, ρ 10, ρ 11, ρ 12, ρ 13, ρ 14, ρ 15, ρ 16, ρ 17, ρ 18, ρ 19, ρ 20, ρ 21] := ha
  subst ha
  subst hg
  have r22 : (33 : Int) ≤ ρ 22 ∧ ρ 22 ≤ 33 := zRnA hr 22
  have r24 : (97 : Int) ≤ ρ 24 ∧ ρ 24 ≤ 122 := zRnA hr 24
  obtain ⟨w_0, w_1, w_2⟩ : ((0 : Int) ≤ ρ 22) ∧ (¬ (ρ 22 ≠ 33)) ∧ ((0 : Int) ≤ ρ 24) := ⟨by omega, by omega, by omega⟩
  have m0 : γ 0 1 0 10 = ρ 0 := zAllA hm 0
  have m1 : γ 0 40 0 (ρ 0) = ρ 1 := zAllA hm 1
  have m2 : γ 0 9 (ρ 1) 2 = ρ 2 := zAllA hm 2
  have m22 : γ 1 2 0 6 = ρ 23 := zAllA hm 22
  have m23 : γ 3 2 0 6 = ρ 25 := zAllA hm 23
  have c2 : γ 2 = rUp (γ 1) 2 0 6 (ρ 23 + 1) := And.right (zChA hc 4)
  have l0 : sn114 [ρ 3, ρ 4] (γ 0) 0 (ρ 22) (γ 1) := hS114 _ _ _ _ _ (zAllA hl 0)
  have l1 : sn114 [ρ 23 + 1, ρ 4] (γ 2) 0 (ρ 24) (γ 3) := hS114 _ _ _ _ _ (zAllA hl 1)
  have l2 : sn105 [ρ 24] (γ 3) 0 1 (γ 4) := hS105 _ _ _ _ _ (zAllA hl 2)
  have l3 : sn115 [ρ 25, ρ 4, ρ 12, ρ 14] (γ 4) 0 1 (γ 5) := hS115 _ _ _ _ _ (zAllA hl 3)
  have l4 : sn145 [2, ρ 0, ρ 1, ρ 2, ρ 26, ρ 4, ρ 18, ρ 5, ρ 8, ρ 7, ρ 9, ρ 10, ρ 11, ρ 12, ρ 13, ρ 25, ρ 15, ρ 16, ρ 17, ρ 19, ρ 20, ρ 21] (γ 5) 0 1 (γ 6) := hS145 _ _ _ _ _ (zAllA hl 4)
  show sn157 [ρ 0, ρ 1, ρ 2, ρ 3, ρ 4, ρ 5, ρ 6, ρ 7, ρ 8, ρ 9, ρ 10, ρ 11, ρ 12, ρ 13, ρ 14, ρ 15, ρ 16, ρ 17, ρ 18, ρ 19, ρ 20, ρ 21] (γ 0) 0 1 (γ 6)
  refine Eq.symm ?_
  show fn157 [] (γ 0) = _
  unfold fn157
  refine zLE m0 (zLE m1 (zLE m2 (zLE (show fn114 [] (γ 0) = (0, ρ 22, γ 1) from l0.symm) (zLV (γ 1) rfl (zIP w_0 (zLV (ρ 22) rfl (zLE m22 ?_)))))))
  refine zIN w_1 (zLE c2.symm (zLE (show fn114 [] (γ 2) = (0, ρ 24, γ 3) from l1.symm) (zLV (γ 3) rfl (zIP w_2 (zLV (ρ 24) rfl (zLE m23 (zLE (show fn105 [ρ 24] (γ 3) = (0, 1, γ 4) from l2.symm) ?_)))))))
  refine zLV (γ 4) rfl (zIP zQ1_ (zLE (show fn115 [] (γ 4) = (0, 1, γ 5) from l3.symm) (zLV (γ 5) rfl (zIP zQ1_ (zLE (show fn145 [2] (γ 5) = (0, 1, γ 6) from l4.symm) (zLV (γ 6) rfl (zIP zQ1_ ?_)))))))
  rfl
theorem vn157_31 {S : Nat → zSpc} (hS103 : zIm S 103 sn103) (hS104 : zIm S 104 sn104) (hS105 : zIm S 105 sn105) (hS106 : zIm S 106 sn106) (hS107 : zIm S 107 sn107) (hS109 : zIm S 109 sn109) (hS114 : zIm S 114 sn114) (hS115 : zIm S 115 sn115) (hS116 : zIm S 116 sn116) (hS135 : zIm S 135 sn135) (hS139 : zIm S 139 sn139) (hS145 : zIm S 145 sn145) (hS154 : zIm S 154 sn154) (hS155 : zIm S 155 sn155) (hS156 : zIm S 156 sn156) {a : List Int} {g : rHp} : ∀ (ρ : Nat → Int) (γ : Nat → rHp), zO 22 S a g q157_31 ρ γ → zGl (fun _ _ _ => True) (sn157 a g) q157_31 ρ γ := by
  intro ρ γ h
  obtain ⟨ha, hg, hr, hf, hm, hc, hl⟩ := h
  have ha : a = [ρ 0, ρ 1, ρ 2, ρ 3, ρ 4, ρ 5, ρ 6, ρ 7, ρ 8, ρ 9, ρ 10, ρ 11, ρ 12, ρ 13, ρ 14, ρ 15, ρ 16, ρ 17, ρ 18, ρ 19, ρ 20, ρ 21] := ha
  subst ha
  subst hg
  have r22 : (33 : Int) ≤ ρ 22 ∧ ρ 22 ≤ 33 := zRnA hr 22
  have r24 : (97 : Int) ≤ ρ 24 ∧ ρ 24 ≤ 122 := zRnA hr 24
  obtain ⟨w_0, w_1, w_2⟩ : ((0 : Int) ≤ ρ 22) ∧ (¬ (ρ 22 ≠ 33)) ∧ ((0 : Int) ≤ ρ 24) := ⟨by omega, by omega, by omega⟩
  have m0 : γ 0 1 0 10 = ρ 0 := zAllA hm 0
  have m1 : γ 0 40 0 (ρ 0) = ρ 1 := zAllA hm 1
  have m2 : γ 0 9 (ρ 1) 2 = ρ 2 := zAllA hm 2
  have m22 : γ 1 2 0 6 = ρ 23 := zAllA hm 22
  have m23 : γ 3 2 0 6 = ρ 25 := zAllA hm 23
  have c2 : γ 2 = rUp (γ 1) 2 0 6 (ρ 23 + 1) := And.right (zChA hc 4)
  have l0 : sn114 [ρ 3, ρ 4] (γ 0) 0 (ρ 22) (γ 1) := hS114 _ _ _ _ _ (zAllA hl 0)
  have l1 : sn114 [ρ 23 + 1, ρ 4] (γ 2) 0 (ρ 24) (γ 3) := hS114 _ _ _ _ _ (zAllA hl 1)
  have l2 : sn105 [ρ 24] (γ 3) 0 1 (γ 4) := hS105 _ _ _ _ _ (zAllA hl 2)
  have l3 : sn115 [ρ 25, ρ 4, ρ 12, ρ 14] (γ 4) 0 1 (γ 5) := hS115 _ _ _ _ _ (zAllA hl 3)
  have l4 : sn145 [2, ρ 0, ρ 1, ρ 2, ρ 26, ρ 4, ρ 18, ρ 5, ρ 8, ρ 7, ρ 9, ρ 10, ρ 11, ρ 12, ρ 13, ρ 25, ρ 15, ρ 16, ρ 17, ρ 19, ρ 20, ρ 21] (γ 5) 0 1 (γ 6) := hS145 _ _ _ _ _ (zAllA hl 4)
  show sn157 [ρ 0, ρ 1, ρ 2, ρ 3, ρ 4, ρ 5, ρ 6, ρ 7, ρ 8, ρ 9, ρ 10, ρ 11, ρ 12, ρ 13, ρ 14, ρ 15, ρ 16, ρ 17, ρ 18, ρ 19, ρ 20, ρ 21] (γ 0) 0 1 (γ 6)
  refine Eq.symm ?_
  show fn157 [] (γ 0) = _
  unfold fn157
  refine zLE m0 (zLE m1 (zLE m2 (zLE (show fn114 [] (γ 0) = (0, ρ 22, γ 1) from l0.symm) (zLV (γ 1) rfl (zIP w_0 (zLV (ρ 22) rfl (zLE m22 ?_)))))))
  refine zIN w_1 (zLE c2.symm (zLE (show fn114 [] (γ 2) = (0, ρ 24, γ 3) from l1.symm) (zLV (γ 3) rfl (zIP w_2 (zLV (ρ 24) rfl (zLE m23 (zLE (show fn105 [ρ 24] (γ 3) = (0, 1, γ 4) from l2.symm) ?_)))))))
  refine zLV (γ 4) rfl (zIP zQ1_ (zLE (show fn115 [] (γ 4) = (0, 1, γ 5) from l3.symm) (zLV (γ 5) rfl (zIP zQ1_ (zLE (show fn145 [2] (γ 5) = (0, 1, γ 6) from l4.symm) (zLV (γ 6) rfl (zIP zQ1_ ?_)))))))
  rfl
theorem yn157 {S : Nat → zSpc} (hS103 : zIm S 103 sn103) (hS104 : zIm S 104 sn104) (hS105 : zIm S 105 sn105) (hS106 : zIm S 106 sn106) (hS107 : zIm S 107 sn107) (hS109 : zIm S 109 sn109) (hS114 : zIm S 114 sn114) (hS115 : zIm S 115 sn115) (hS116 : zIm S 116 sn116) (hS135 : zIm S 135 sn135) (hS139 : zIm S 139 sn139) (hS145 : zIm S 145 sn145) (hS154 : zIm S 154 sn154) (hS155 : zIm S 155 sn155) (hS156 : zIm S 156 sn156) : ∀ x g o v gz, zSem uW uT w157_.2.2.2.1 w157_.2.2.1.1.length S q157 (fun i => q157a.getD i []) (zNA a157_) x g o v gz → sn157 x g o v gz := by
  intro a g o v gz h
  exact zSem_all (l0 := q157) (las := q157a) (S := S) (J := (fun _ _ _ => True)) (P := sn157 a g) (fun _ => (show zAll _ [q157_0, q157_1, q157_2, q157_3, q157_4, q157_5, q157_6, q157_7, q157_8, q157_9, q157_10, q157_11, q157_12, q157_13, q157_14, q157_15, q157_16, q157_17, q157_18, q157_19, q157_20, q157_21, q157_22, q157_23, q157_24, q157_25, q157_26, q157_27, q157_28, q157_29, q157_30, q157_31] from (zAll_c (vn157_0 hS103 hS104 hS105 hS106 hS107 hS109 hS114 hS115 hS116 hS135 hS139 hS145 hS154 hS155 hS156) (zAll_c (vn157_1 hS103 hS104 hS105 hS106 hS107 hS109 hS114 hS115 hS116 hS135 hS139 hS145 hS154 hS155 hS156) (zAll_c (vn157_2 hS103 hS104 hS105 hS106 hS107 hS109 hS114 hS115 hS116 hS135 hS139 hS145 hS154 hS155 hS156) (zAll_c (vn157_3 hS103 hS104 hS105 hS106 hS107 hS109 hS114 hS115 hS116 hS135 hS139 hS145 hS154 hS155 hS156) (zAll_c (vn157_4 hS103 hS104 hS105 hS106 hS107 hS109 hS114 hS115 hS116 hS135 hS139 hS145 hS154 hS155 hS156) (zAll_c (vn157_5 hS103 hS104 hS105 hS106 hS107 hS109 hS114 hS115 hS116 hS135 hS139 hS145 hS154 hS155 hS156) (zAll_c (vn157_6 hS103 hS104 hS105 hS106 hS107 hS109 hS114 hS115 hS116 hS135 hS139 hS145 hS154 hS155 hS156) (zAll_c (vn157_7 hS103 hS104 hS105 hS106 hS107 hS109 hS114 hS115 hS116 hS135 hS139 hS145 hS154 hS155 hS156) (zAll_c (vn157_8 hS103 hS104 hS105 hS106 hS107 hS109 hS114 hS115 hS116 hS135 hS139 hS145 hS154 hS155 hS156) (zAll_c (vn157_9 hS103 hS104 hS105 hS106 hS107 hS109 hS114 hS115 hS116 hS135 hS139 hS145 hS154 hS155 hS156) (zAll_c (vn157_10 hS103 hS104 hS105 hS106 hS107 hS109 hS114 hS115 hS116 hS135 hS139 hS145 hS154 hS155 hS156) (zAll_c (vn157_11 hS103 hS104 hS105 hS106 hS107 hS109 hS114 hS115 hS116 hS135 hS139 hS145 hS154 hS155 hS156) (zAll_c (vn157_12 hS103 hS104 hS105 hS106 hS107 hS109 hS114 hS115 hS116 hS135 hS139 hS145 hS154 hS155 hS156) (zAll_c (vn157_13 hS103 hS104 hS105 hS106 hS107 hS109 hS114 hS115 hS116 hS135 hS139 hS145 hS154 hS155 hS156) (zAll_c (vn157_14 hS103 hS104 hS105 hS106 hS107 hS109 hS114 hS115 hS116 hS135 hS139 hS145 hS154 hS155 hS156) (zAll_c (vn157_15 hS103 hS104 hS105 hS106 hS107 hS109 hS114 hS115 hS116 hS135 hS139 hS145 hS154 hS155 hS156) (zAll_c (vn157_16 hS103 hS104 hS105 hS106 hS107 hS109 hS114 hS115 hS116 hS135 hS139 hS145 hS154 hS155 hS156) (zAll_c (vn157_17 hS103 hS104 hS105 hS106 hS107 hS109 hS114 hS115 hS116 hS135 hS139 hS145 hS154 hS155 hS156) (zAll_c (vn157_18 hS103 hS104 hS105 hS106 hS107 hS109 hS114 hS115 hS116 hS135 hS139 hS145 hS154 hS155 hS156) (zAll_c (vn157_19 hS103 hS104 hS105 hS106 hS107 hS109 hS114 hS115 hS116 hS135 hS139 hS145 hS154 hS155 hS156) (zAll_c (vn157_20 hS103 hS104 hS105 hS106 hS107 hS109 hS114 hS115 hS116 hS135 hS139 hS145 hS154 hS155 hS156) (zAll_c (vn157_21 hS103 hS104 hS105 hS106 hS107 hS109 hS114 hS115 hS116 hS135 hS139 hS145 hS154 hS155 hS156) (zAll_c (vn157_22 hS103 hS104 hS105 hS106 hS107 hS109 hS114 hS115 hS116 hS135 hS139 hS145 hS154 hS155 hS156) (zAll_c (vn157_23 hS103 hS104 hS105 hS106 hS107 hS109 hS114 hS115 hS116 hS135 hS139 hS145 hS154 hS155 hS156) (zAll_c (vn157_24 hS103 hS104 hS105 hS106 hS107 hS109 hS114 hS115 hS116 hS135 hS139 hS145 hS154 hS155 hS156) (zAll_c (vn157_25 hS103 hS104 hS105 hS106 hS107 hS109 hS114 hS115 hS116 hS135 hS139 hS145 hS154 hS155 hS156) (zAll_c (vn157_26 hS103 hS104 hS105 hS106 hS107 hS109 hS114 hS115 hS116 hS135 hS139 hS145 hS154 hS155 hS156) (zAll_c (vn157_27 hS103 hS104 hS105 hS106 hS107 hS109 hS114 hS115 hS116 hS135 hS139 hS145 hS154 hS155 hS156) (zAll_c (vn157_28 hS103 hS104 hS105 hS106 hS107 hS109 hS114 hS115 hS116 hS135 hS139 hS145 hS154 hS155 hS156) (zAll_c (vn157_29 hS103 hS104 hS105 hS106 hS107 hS109 hS114 hS115 hS116 hS135 hS139 hS145 hS154 hS155 hS156) (zAll_c (vn157_30 hS103 hS104 hS105 hS106 hS107 hS109 hS114 hS115 hS116 hS135 hS139 hS145 hS154 hS155 hS156) (zAll_c (vn157_31 hS103 hS104 hS105 hS106 hS107 hS109 hS114 hS115 hS116 hS135 hS139 hS145 hS154 hS155 hS156) zAll_n)))))))))))))))))))))))))))))))))) (fun _ => (show zAllI _ 0 [] from trivial)) h
