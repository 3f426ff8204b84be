/-! ===== the runs are the functions ===== -/
theorem vn75_0 {S : Nat → zSpc} (hS57 : zIm S 57 sn57) (hS73 : zIm S 73 sn73) {a : List Int} {g : rHp} : ∀ (ρ : Nat → Int) (γ : Nat → rHp), zO 15 S a g q75_0 ρ γ → zGl (fun i vs g1 => jn75 a g i vs g1) (sn75 a g) q75_0 ρ γ := by
  intro ρ γ h
  obtain ⟨ha, hg, hr, hf, hm, hc, hl⟩ := h
  have ha : a = [ρ 0, ρ 1, ρ 2, ρ 3, ρ 4, ρ 5, ρ 6, ρ 7, ρ 8, ρ 9, ρ 10, ρ 11, ρ 12, ρ 13, ρ 14] := ha
  subst ha
  subst hg
  have m8 : γ 0 15 0 71 = ρ 9 := zAllA hm 8
  have c1 : γ 1 = rUp (γ 0) 15 0 90 0 := And.right (zChA hc 3)
  have c2 : γ 2 = rUp (γ 1) 15 0 81 (ρ 9) := And.right (zChA hc 2)
  have c3 : γ 3 = rUp (γ 2) 15 0 84 0 := And.right (zChA hc 1)
  have l0 : sn73 [ρ 0, ρ 15, ρ 1, ρ 4, ρ 5, ρ 14, ρ 3, ρ 8, ρ 9, ρ 9, ρ 12, ρ 13, 0] (γ 3) 0 0 (γ 4) := hS73 _ _ _ _ _ (zAllA hl 0)
  show jn75 [ρ 0, ρ 1, ρ 2, ρ 3, ρ 4, ρ 5, ρ 6, ρ 7, ρ 8, ρ 9, ρ 10, ρ 11, ρ 12, ρ 13, ρ 14] (γ 0) 0 [ρ 0, ρ 1, ρ 2, ρ 3, ρ 4, ρ 5, ρ 6, ρ 7, ρ 8, ρ 9, ρ 10, ρ 11, ρ 12, ρ 13, ρ 14, 0, ρ 16, ρ 17, ρ 18, ρ 9] (γ 4)
  have hD : dn75 [ρ 0] (γ 0) = .inl (0, [ρ 0, 0], γ 4) := by
    unfold dn75
    refine zLV (ρ 0) rfl (zLE m8 (zLE c1.symm (zLE c2.symm (zLE c3.symm (zLE (show fn73 [ρ 0] (γ 3) = (0, 0, γ 4) from l0.symm) (zLV (γ 4) rfl ?_))))))
    rfl
  exact zGoo_to hD
theorem vn75a0_0 {S : Nat → zSpc} (hS57 : zIm S 57 sn57) (hS73 : zIm S 73 sn73) {a : List Int} {g : rHp} : ∀ (ρ : Nat → Int) (γ : Nat → rHp), jn75 a g 0 (zAg (zNA a75_ 0) ρ) (γ 1) → zO 15 S a g q75a0_0 ρ γ → zGl (fun i vs g1 => jn75 a g i vs g1) (sn75 a g) q75a0_0 ρ γ := by
  intro ρ γ hJ h
  obtain ⟨ha, hg, hr, hf, hm, hc, hl⟩ := h
  have ha : a = [ρ 0, ρ 1, ρ 2, ρ 3, ρ 4, ρ 5, ρ 6, ρ 7, ρ 8, ρ 9, ρ 10, ρ 11, ρ 12, ρ 13, ρ 14] := ha
  subst ha
  subst hg
  have hJ : jn75 [ρ 0, ρ 1, ρ 2, ρ 3, ρ 4, ρ 5, ρ 6, ρ 7, ρ 8, ρ 9, ρ 10, ρ 11, ρ 12, ρ 13, ρ 14] (γ 0) 0 [ρ 0, ρ 1, ρ 2, ρ 3, ρ 4, ρ 5, ρ 6, ρ 7, ρ 8, ρ 9, ρ 10, ρ 11, ρ 12, ρ 13, ρ 14, ρ 15, ρ 16, ρ 17, ρ 18, ρ 19] (γ 1) := hJ
  have f0 : (0 : Int) ≤ -ρ 18 + ρ 15 := zAllA hf 0
  have w_0 : ρ 15 ≥ ρ 18 := by omega
  have m2 : γ 0 71 0 (ρ 0) = ρ 3 := zAllA hm 2
  have m6 : γ 0 69 0 (ρ 0) = ρ 7 := zAllA hm 6
  have m15 : γ 1 15 0 77 = ρ 17 := zAllA hm 15
  have m16 : γ 1 15 0 90 = ρ 18 := zAllA hm 16
  show sn75 [ρ 0, ρ 1, ρ 2, ρ 3, ρ 4, ρ 5, ρ 6, ρ 7, ρ 8, ρ 9, ρ 10, ρ 11, ρ 12, ρ 13, ρ 14] (γ 0) 0 0 (γ 1)
  have hD : en75 (γ 0) (0, [ρ 0, ρ 15], γ 1) = .inr (0, 0, γ 1) := by
    unfold en75
    refine zIP (show (0 : Nat) = 0 by decide) (zLV (γ 1) rfl (zLV (ρ 0) rfl (zLV (ρ 15) rfl (zLE m2 (zLE m6 (zLE m15 (zLE m16 ?_)))))))
    refine zIP w_0 ?_
    rfl
  exact zGoo_aend hJ hD
theorem vn75a0_1 {S : Nat → zSpc} (hS57 : zIm S 57 sn57) (hS73 : zIm S 73 sn73) {a : List Int} {g : rHp} : ∀ (ρ : Nat → Int) (γ : Nat → rHp), jn75 a g 0 (zAg (zNA a75_ 0) ρ) (γ 1) → zO 15 S a g q75a0_1 ρ γ → zGl (fun i vs g1 => jn75 a g i vs g1) (sn75 a g) q75a0_1 ρ γ := by
  intro ρ γ hJ h
  obtain ⟨ha, hg, hr, hf, hm, hc, hl⟩ := h
  have ha : a = [ρ 0, ρ 1, ρ 2, ρ 3, ρ 4, ρ 5, ρ 6, ρ 7, ρ 8, ρ 9, ρ 10, ρ 11, ρ 12, ρ 13, ρ 14] := ha
  subst ha
  subst hg
  have hJ : jn75 [ρ 0, ρ 1, ρ 2, ρ 3, ρ 4, ρ 5, ρ 6, ρ 7, ρ 8, ρ 9, ρ 10, ρ 11, ρ 12, ρ 13, ρ 14] (γ 0) 0 [ρ 0, ρ 1, ρ 2, ρ 3, ρ 4, ρ 5, ρ 6, ρ 7, ρ 8, ρ 9, ρ 10, ρ 11, ρ 12, ρ 13, ρ 14, ρ 15, ρ 16, ρ 17, ρ 18, ρ 19] (γ 1) := hJ
  have r17 : (1 : Int) ≤ ρ 17 ∧ ρ 17 ≤ 3 := zRnA hr 17
  have f0 : (0 : Int) ≤ ρ 18 + -ρ 15 + (-1) := zAllA hf 0
  obtain ⟨w_0, w_1⟩ : (¬ (ρ 15 ≥ ρ 18)) ∧ (ρ 17 ≠ 0) := ⟨by omega, by omega⟩
  have m2 : γ 0 71 0 (ρ 0) = ρ 3 := zAllA hm 2
  have m6 : γ 0 69 0 (ρ 0) = ρ 7 := zAllA hm 6
  have m15 : γ 1 15 0 77 = ρ 17 := zAllA hm 15
  have m16 : γ 1 15 0 90 = ρ 18 := zAllA hm 16
  show sn75 [ρ 0, ρ 1, ρ 2, ρ 3, ρ 4, ρ 5, ρ 6, ρ 7, ρ 8, ρ 9, ρ 10, ρ 11, ρ 12, ρ 13, ρ 14] (γ 0) 0 0 (γ 1)
  have hD : en75 (γ 0) (0, [ρ 0, ρ 15], γ 1) = .inr (0, 0, γ 1) := by
    unfold en75
    refine zIP (show (0 : Nat) = 0 by decide) (zLV (γ 1) rfl (zLV (ρ 0) rfl (zLV (ρ 15) rfl (zLE m2 (zLE m6 (zLE m15 (zLE m16 ?_)))))))
    refine zIN w_0 (zIP w_1 ?_)
    rfl
  exact zGoo_aend hJ hD
theorem vn75a0_2 {S : Nat → zSpc} (hS57 : zIm S 57 sn57) (hS73 : zIm S 73 sn73) {a : List Int} {g : rHp} : ∀ (ρ : Nat → Int) (γ : Nat → rHp), jn75 a g 0 (zAg (zNA a75_ 0) ρ) (γ 1) → zO 15 S a g q75a0_2 ρ γ → zGl (fun i vs g1 => jn75 a g i vs g1) (sn75 a g) q75a0_2 ρ γ := by
  intro ρ γ hJ h
  obtain ⟨ha, hg, hr, hf, hm, hc, hl⟩ := h
  have ha : a = [ρ 0, ρ 1, ρ 2, ρ 3, ρ 4, ρ 5, ρ 6, ρ 7, ρ 8, ρ 9, ρ 10, ρ 11, ρ 12, ρ 13, ρ 14] := ha
  subst ha
  subst hg
  have hJ : jn75 [ρ 0, ρ 1, ρ 2, ρ 3, ρ 4, ρ 5, ρ 6, ρ 7, ρ 8, ρ 9, ρ 10, ρ 11, ρ 12, ρ 13, ρ 14] (γ 0) 0 [ρ 0, ρ 1, ρ 2, ρ 3, ρ 4, ρ 5, ρ 6, ρ 7, ρ 8, ρ 9, ρ 10, ρ 11, ρ 12, ρ 13, ρ 14, ρ 15, ρ 16, ρ 17, ρ 18, ρ 19] (γ 1) := hJ
  have r3 : (2 : Int) ≤ ρ 3 ∧ ρ 3 ≤ 2 := zRnA hr 3
  have r17 : (0 : Int) ≤ ρ 17 ∧ ρ 17 ≤ 0 := zRnA hr 17
  have r21 : (0 : Int) ≤ ρ 21 ∧ ρ 21 ≤ 0 := zRnA hr 21
  have f3 : (0 : Int) ≤ ρ 18 + -ρ 15 + (-1) := zAllA hf 3
  obtain ⟨w_0, w_1, w_2, w_3, w_4⟩ : (¬ (ρ 15 ≥ ρ 18)) ∧ (¬ (ρ 17 ≠ 0)) ∧ (ρ 3 ≤ 2) ∧ (ρ 3 ≠ 1) ∧ (0 ≥ ρ 21) := ⟨by omega, by omega, by omega, by omega, by omega⟩
  have m2 : γ 0 71 0 (ρ 0) = ρ 3 := zAllA hm 2
  have m6 : γ 0 69 0 (ρ 0) = ρ 7 := zAllA hm 6
  have m15 : γ 1 15 0 77 = ρ 17 := zAllA hm 15
  have m16 : γ 1 15 0 90 = ρ 18 := zAllA hm 16
  have m19 : γ 1 107 0 (ρ 15) = ρ 20 := zAllA hm 19
  have m20 : γ 0 66 0 (ρ 7) = ρ 21 := zAllA hm 20
  have m21 : γ 1 105 0 (4 * ρ 15) = ρ 22 := zAllA hm 21
  have m22 : γ 1 105 0 (4 * ρ 15 + 1) = ρ 23 := zAllA hm 22
  have m23 : γ 1 105 0 (4 * ρ 15 + 2) = ρ 24 := zAllA hm 23
  have m24 : γ 1 105 0 (4 * ρ 15 + 3) = ρ 25 := zAllA hm 24
  have c2 : γ 2 = rUp (γ 1) 102 0 0 (ρ 22) := And.right (zChA hc 4)
  have c3 : γ 3 = rUp (γ 2) 102 0 1 (ρ 23) := And.right (zChA hc 3)
  have c4 : γ 4 = rUp (γ 3) 102 0 2 (ρ 24) := And.right (zChA hc 2)
  have c5 : γ 5 = rUp (γ 4) 102 0 3 (ρ 25) := And.right (zChA hc 1)
  have l0 : sn57 [ρ 7, ρ 0, ρ 2, ρ 19, ρ 26, ρ 27, ρ 28, ρ 10, ρ 17] (γ 5) 0 0 (γ 6) := hS57 _ _ _ _ _ (zAllA hl 0)
  show jn75 [ρ 0, ρ 1, ρ 2, ρ 3, ρ 4, ρ 5, ρ 6, ρ 7, ρ 8, ρ 9, ρ 10, ρ 11, ρ 12, ρ 13, ρ 14] (γ 0) 0 [ρ 0, ρ 1, ρ 2, ρ 3, ρ 4, ρ 5, ρ 6, ρ 7, ρ 8, ρ 9, ρ 10, ρ 11, ρ 12, ρ 13, ρ 14, ρ 15 + 1, ρ 16, ρ 33, ρ 18, ρ 29] (γ 6)
  have hD : en75 (γ 0) (0, [ρ 0, ρ 15], γ 1) = .inl (0, [ρ 0, ρ 15 + 1], γ 6) := by
    unfold en75
    refine zIP (show (0 : Nat) = 0 by decide) (zLV (γ 1) rfl (zLV (ρ 0) rfl (zLV (ρ 15) rfl (zLE m2 (zLE m6 (zLE m15 (zLE m16 ?_)))))))
    refine zIN w_0 (zIN w_1 (zIP w_2 (zIP w_3 (zLE m19 (zLE m20 (zIP w_4 (zLE m21 ?_)))))))
    refine zLE c2.symm (zLE m22 (zLE c3.symm (zLE m23 (zLE c4.symm (zLE m24 (zLE c5.symm (zLE (show fn57 [ρ 7, ρ 0] (γ 5) = (0, 0, γ 6) from l0.symm) ?_)))))))
    refine zLV (γ 6) rfl ?_
    rfl
  exact zGoo_ato hJ hD
theorem vn75a0_3 {S : Nat → zSpc} (hS57 : zIm S 57 sn57) (hS73 : zIm S 73 sn73) {a : List Int} {g : rHp} : ∀ (ρ : Nat → Int) (γ : Nat → rHp), jn75 a g 0 (zAg (zNA a75_ 0) ρ) (γ 1) → zO 15 S a g q75a0_3 ρ γ → zGl (fun i vs g1 => jn75 a g i vs g1) (sn75 a g) q75a0_3 ρ γ := by
  intro ρ γ hJ h
  obtain ⟨ha, hg, hr, hf, hm, hc, hl⟩ := h
  have ha : a = [ρ 0, ρ 1, ρ 2, ρ 3, ρ 4, ρ 5, ρ 6, ρ 7, ρ 8, ρ 9, ρ 10, ρ 11, ρ 12, ρ 13, ρ 14] := ha
  subst ha
  subst hg
  have hJ : jn75 [ρ 0, ρ 1, ρ 2, ρ 3, ρ 4, ρ 5, ρ 6, ρ 7, ρ 8, ρ 9, ρ 10, ρ 11, ρ 12, ρ 13, ρ 14] (γ 0) 0 [ρ 0, ρ 1, ρ 2, ρ 3, ρ 4, ρ 5, ρ 6, ρ 7, ρ 8, ρ 9, ρ 10, ρ 11, ρ 12, ρ 13, ρ 14, ρ 15, ρ 16, ρ 17, ρ 18, ρ 19] (γ 1) := hJ
  have r3 : (2 : Int) ≤ ρ 3 ∧ ρ 3 ≤ 2 := zRnA hr 3
  have r17 : (0 : Int) ≤ ρ 17 ∧ ρ 17 ≤ 0 := zRnA hr 17
  have r21 : (1 : Int) ≤ ρ 21 ∧ ρ 21 ≤ 1 := zRnA hr 21
  have r22 : (0 : Int) ≤ ρ 22 ∧ ρ 22 ≤ 2 := zRnA hr 22
  have f3 : (0 : Int) ≤ ρ 18 + -ρ 15 + (-1) := zAllA hf 3
  obtain ⟨w_0, w_1, w_2, w_3, w_4, w_5, w_6⟩ : (¬ (ρ 15 ≥ ρ 18)) ∧ (¬ (ρ 17 ≠ 0)) ∧ (ρ 3 ≤ 2) ∧ (ρ 3 ≠ 1) ∧ (¬ (0 ≥ ρ 21)) ∧ (ρ 22 ≠ 3) ∧ (1 ≥ ρ 21) := ⟨by omega, by omega, by omega, by omega, by omega, by omega, by omega⟩
  have m2 : γ 0 71 0 (ρ 0) = ρ 3 := zAllA hm 2
  have m6 : γ 0 69 0 (ρ 0) = ρ 7 := zAllA hm 6
  have m15 : γ 1 15 0 77 = ρ 17 := zAllA hm 15
  have m16 : γ 1 15 0 90 = ρ 18 := zAllA hm 16
  have m19 : γ 1 107 0 (ρ 15) = ρ 20 := zAllA hm 19
  have m20 : γ 0 66 0 (ρ 7) = ρ 21 := zAllA hm 20
  have m21 : γ 0 70 0 (4 * ρ 0) = ρ 22 := zAllA hm 21
  have m22 : γ 1 105 0 (4 * ρ 15) = ρ 23 := zAllA hm 22
  have m23 : γ 1 105 0 (4 * ρ 15 + 1) = ρ 24 := zAllA hm 23
  have m24 : γ 1 105 0 (4 * ρ 15 + 2) = ρ 25 := zAllA hm 24
  have m25 : γ 1 105 0 (4 * ρ 15 + 3) = ρ 26 := zAllA hm 25
  have c2 : γ 2 = rUp (γ 1) 102 0 0 (ρ 23) := And.right (zChA hc 4)
  have c3 : γ 3 = rUp (γ 2) 102 0 1 (ρ 24) := And.right (zChA hc 3)
  have c4 : γ 4 = rUp (γ 3) 102 0 2 (ρ 25) := And.right (zChA hc 2)
  have c5 : γ 5 = rUp (γ 4) 102 0 3 (ρ 26) := And.right (zChA hc 1)
  have l0 : sn57 [ρ 7, ρ 0, ρ 2, ρ 19, ρ 27, ρ 28, ρ 29, ρ 10, ρ 17] (γ 5) 0 0 (γ 6) := hS57 _ _ _ _ _ (zAllA hl 0)
  show jn75 [ρ 0, ρ 1, ρ 2, ρ 3, ρ 4, ρ 5, ρ 6, ρ 7, ρ 8, ρ 9, ρ 10, ρ 11, ρ 12, ρ 13, ρ 14] (γ 0) 0 [ρ 0, ρ 1, ρ 2, ρ 3, ρ 4, ρ 5, ρ 6, ρ 7, ρ 8, ρ 9, ρ 10, ρ 11, ρ 12, ρ 13, ρ 14, ρ 15 + 1, ρ 16, ρ 34, ρ 18, ρ 30] (γ 6)
  have hD : en75 (γ 0) (0, [ρ 0, ρ 15], γ 1) = .inl (0, [ρ 0, ρ 15 + 1], γ 6) := by
    unfold en75
    refine zIP (show (0 : Nat) = 0 by decide) (zLV (γ 1) rfl (zLV (ρ 0) rfl (zLV (ρ 15) rfl (zLE m2 (zLE m6 (zLE m15 (zLE m16 ?_)))))))
    refine zIN w_0 (zIN w_1 (zIP w_2 (zIP w_3 (zLE m19 (zLE m20 (zIN w_4 (zLE m21 ?_)))))))
    refine zIP w_5 (zLE m22 (zLE c2.symm (zIP w_6 (zLE m23 (zLE c3.symm (zLE m24 (zLE c4.symm ?_)))))))
    refine zLE m25 (zLE c5.symm (zLE (show fn57 [ρ 7, ρ 0] (γ 5) = (0, 0, γ 6) from l0.symm) (zLV (γ 6) rfl ?_)))
    rfl
  exact zGoo_ato hJ hD
theorem vn75a0_4 {S : Nat → zSpc} (hS57 : zIm S 57 sn57) (hS73 : zIm S 73 sn73) {a : List Int} {g : rHp} : ∀ (ρ : Nat → Int) (γ : Nat → rHp), jn75 a g 0 (zAg (zNA a75_ 0) ρ) (γ 1) → zO 15 S a g q75a0_4 ρ γ → zGl (fun i vs g1 => jn75 a g i vs g1) (sn75 a g) q75a0_4 ρ γ := by
  intro ρ γ hJ h
  obtain ⟨ha, hg, hr, hf, hm, hc, hl⟩ := h
  have ha : a = [ρ 0, ρ 1, ρ 2, ρ 3, ρ 4, ρ 5, ρ 6, ρ 7, ρ 8, ρ 9, ρ 10, ρ 11, ρ 12, ρ 13, ρ 14] := ha
  subst ha
  subst hg
  have hJ : jn75 [ρ 0, ρ 1, ρ 2, ρ 3, ρ 4, ρ 5, ρ 6, ρ 7, ρ 8, ρ 9, ρ 10, ρ 11, ρ 12, ρ 13, ρ 14] (γ 0) 0 [ρ 0, ρ 1, ρ 2, ρ 3, ρ 4, ρ 5, ρ 6, ρ 7, ρ 8, ρ 9, ρ 10, ρ 11, ρ 12, ρ 13, ρ 14, ρ 15, ρ 16, ρ 17, ρ 18, ρ 19] (γ 1) := hJ
  have r3 : (2 : Int) ≤ ρ 3 ∧ ρ 3 ≤ 2 := zRnA hr 3
  have r17 : (0 : Int) ≤ ρ 17 ∧ ρ 17 ≤ 0 := zRnA hr 17
  have r21 : (2 : Int) ≤ ρ 21 ∧ ρ 21 ≤ 2 := zRnA hr 21
  have r22 : (0 : Int) ≤ ρ 22 ∧ ρ 22 ≤ 2 := zRnA hr 22
  have r24 : (0 : Int) ≤ ρ 24 ∧ ρ 24 ≤ 2 := zRnA hr 24
  have f3 : (0 : Int) ≤ ρ 18 + -ρ 15 + (-1) := zAllA hf 3
  obtain ⟨w_0, w_1, w_2, w_3, w_4, w_5, w_6, w_7, w_8⟩ : (¬ (ρ 15 ≥ ρ 18)) ∧ (¬ (ρ 17 ≠ 0)) ∧ (ρ 3 ≤ 2) ∧ (ρ 3 ≠ 1) ∧ (¬ (0 ≥ ρ 21)) ∧ (ρ 22 ≠ 3) ∧ (¬ (1 ≥ ρ 21)) ∧ (ρ 24 ≠ 3) ∧ (2 ≥ ρ 21) := ⟨by omega, by omega, by omega, by omega, by omega, by omega, by omega, by omega, by omega⟩
  have m2 : γ 0 71 0 (ρ 0) = ρ 3 := zAllA hm 2
  have m6 : γ 0 69 0 (ρ 0) = ρ 7 := zAllA hm 6
  have m15 : γ 1 15 0 77 = ρ 17 := zAllA hm 15
  have m16 : γ 1 15 0 90 = ρ 18 := zAllA hm 16
  have m19 : γ 1 107 0 (ρ 15) = ρ 20 := zAllA hm 19
  have m20 : γ 0 66 0 (ρ 7) = ρ 21 := zAllA hm 20
  have m21 : γ 0 70 0 (4 * ρ 0) = ρ 22 := zAllA hm 21
  have m22 : γ 1 105 0 (4 * ρ 15) = ρ 23 := zAllA hm 22
  have m23 : γ 0 70 0 (4 * ρ 0 + 1) = ρ 24 := zAllA hm 23
  have m24 : γ 1 105 0 (4 * ρ 15 + 1) = ρ 25 := zAllA hm 24
  have m25 : γ 1 105 0 (4 * ρ 15 + 2) = ρ 26 := zAllA hm 25
  have m26 : γ 1 105 0 (4 * ρ 15 + 3) = ρ 27 := zAllA hm 26
  have c2 : γ 2 = rUp (γ 1) 102 0 0 (ρ 23) := And.right (zChA hc 4)
  have c3 : γ 3 = rUp (γ 2) 102 0 1 (ρ 25) := And.right (zChA hc 3)
  have c4 : γ 4 = rUp (γ 3) 102 0 2 (ρ 26) := And.right (zChA hc 2)
  have c5 : γ 5 = rUp (γ 4) 102 0 3 (ρ 27) := And.right (zChA hc 1)
  have l0 : sn57 [ρ 7, ρ 0, ρ 2, ρ 19, ρ 28, ρ 29, ρ 30, ρ 10, ρ 17] (γ 5) 0 0 (γ 6) := hS57 _ _ _ _ _ (zAllA hl 0)
  show jn75 [ρ 0, ρ 1, ρ 2, ρ 3, ρ 4, ρ 5, ρ 6, ρ 7, ρ 8, ρ 9, ρ 10, ρ 11, ρ 12, ρ 13, ρ 14] (γ 0) 0 [ρ 0, ρ 1, ρ 2, ρ 3, ρ 4, ρ 5, ρ 6, ρ 7, ρ 8, ρ 9, ρ 10, ρ 11, ρ 12, ρ 13, ρ 14, ρ 15 + 1, ρ 16, ρ 35, ρ 18, ρ 31] (γ 6)
  have hD : en75 (γ 0) (0, [ρ 0, ρ 15], γ 1) = .inl (0, [ρ 0, ρ 15 + 1], γ 6) := by
    unfold en75
    refine zIP (show (0 : Nat) = 0 by decide) (zLV (γ 1) rfl (zLV (ρ 0) rfl (zLV (ρ 15) rfl (zLE m2 (zLE m6 (zLE m15 (zLE m16 ?_)))))))
    refine zIN w_0 (zIN w_1 (zIP w_2 (zIP w_3 (zLE m19 (zLE m20 (zIN w_4 (zLE m21 ?_)))))))
    refine zIP w_5 (zLE m22 (zLE c2.symm (zIN w_6 (zLE m23 (zIP w_7 (zLE m24 (zLE c3.symm ?_)))))))
    refine zIP w_8 (zLE m25 (zLE c4.symm (zLE m26 (zLE c5.symm (zLE (show fn57 [ρ 7, ρ 0] (γ 5) = (0, 0, γ 6) from l0.symm) (zLV (γ 6) rfl ?_))))))
    rfl
  exact zGoo_ato hJ hD
theorem vn75a0_5 {S : Nat → zSpc} (hS57 : zIm S 57 sn57) (hS73 : zIm S 73 sn73) {a : List Int} {g : rHp} : ∀ (ρ : Nat → Int) (γ : Nat → rHp), jn75 a g 0 (zAg (zNA a75_ 0) ρ) (γ 1) → zO 15 S a g q75a0_5 ρ γ → zGl (fun i vs g1 => jn75 a g i vs g1) (sn75 a g) q75a0_5 ρ γ := by
  intro ρ γ hJ h
  obtain ⟨ha, hg, hr, hf, hm, hc, hl⟩ := h
  have ha : a = [ρ 0, ρ 1, ρ 2, ρ 3, ρ 4, ρ 5, ρ 6, ρ 7, ρ 8, ρ 9, ρ 10, ρ 11, ρ 12, ρ 13, ρ 14] := ha
  subst ha
  subst hg
  have hJ : jn75 [ρ 0, ρ 1, ρ 2, ρ 3, ρ 4, ρ 5, ρ 6, ρ 7, ρ 8, ρ 9, ρ 10, ρ 11, ρ 12, ρ 13, ρ 14] (γ 0) 0 [ρ 0, ρ 1, ρ 2, ρ 3, ρ 4, ρ 5, ρ 6, ρ 7, ρ 8, ρ 9, ρ 10, ρ 11, ρ 12, ρ 13, ρ 14, ρ 15, ρ 16, ρ 17, ρ 18, ρ 19] (γ 1) := hJ
  have r3 : (2 : Int) ≤ ρ 3 ∧ ρ 3 ≤ 2 := zRnA hr 3
  have r17 : (0 : Int) ≤ ρ 17 ∧ ρ 17 ≤ 0 := zRnA hr 17
  have r21 : (3 : Int) ≤ ρ 21 ∧ ρ 21 ≤ 3 := zRnA hr 21
  have r22 : (0 : Int) ≤ ρ 22 ∧ ρ 22 ≤ 2 := zRnA hr 22
  have r24 : (0 : Int) ≤ ρ 24 ∧ ρ 24 ≤ 2 := zRnA hr 24
  have r26 : (0 : Int) ≤ ρ 26 ∧ ρ 26 ≤ 2 := zRnA hr 26
  have f3 : (0 : Int) ≤ ρ 18 + -ρ 15 + (-1) := zAllA hf 3
  obtain ⟨w_0, w_1, w_2, w_3, w_4, w_5, w_6, w_7, w_8, w_9, w_10⟩ : (¬ (ρ 15 ≥ ρ 18)) ∧ (¬ (ρ 17 ≠ 0)) ∧ (ρ 3 ≤ 2) ∧ (ρ 3 ≠ 1) ∧ (¬ (0 ≥ ρ 21)) ∧ (ρ 22 ≠ 3) ∧ (¬ (1 ≥ ρ 21)) ∧ (ρ 24 ≠ 3) ∧ (¬ (2 ≥ ρ 21)) ∧ (ρ 26 ≠ 3) ∧ (3 ≥ ρ 21) := ⟨by omega, by omega, by omega, by omega, by omega, by omega, by omega, by omega, by omega, by omega, by omega⟩
  have m2 : γ 0 71 0 (ρ 0) = ρ 3 := zAllA hm 2
  have m6 : γ 0 69 0 (ρ 0) = ρ 7 := zAllA hm 6
  have m15 : γ 1 15 0 77 = ρ 17 := zAllA hm 15
  have m16 : γ 1 15 0 90 = ρ 18 := zAllA hm 16
  have m19 : γ 1 107 0 (ρ 15) = ρ 20 := zAllA hm 19
  have m20 : γ 0 66 0 (ρ 7) = ρ 21 := zAllA hm 20
  have m21 : γ 0 70 0 (4 * ρ 0) = ρ 22 := zAllA hm 21
  have m22 : γ 1 105 0 (4 * ρ 15) = ρ 23 := zAllA hm 22
  have m23 : γ 0 70 0 (4 * ρ 0 + 1) = ρ 24 := zAllA hm 23
  have m24 : γ 1 105 0 (4 * ρ 15 + 1) = ρ 25 := zAllA hm 24
  have m25 : γ 0 70 0 (4 * ρ 0 + 2) = ρ 26 := zAllA hm 25
  have m26 : γ 1 105 0 (4 * ρ 15 + 2) = ρ 27 := zAllA hm 26
  have m27 : γ 1 105 0 (4 * ρ 15 + 3) = ρ 28 := zAllA hm 27
  have c2 : γ 2 = rUp (γ 1) 102 0 0 (ρ 23) := And.right (zChA hc 4)
  have c3 : γ 3 = rUp (γ 2) 102 0 1 (ρ 25) := And.right (zChA hc 3)
  have c4 : γ 4 = rUp (γ 3) 102 0 2 (ρ 27) := And.right (zChA hc 2)
  have c5 : γ 5 = rUp (γ 4) 102 0 3 (ρ 28) := And.right (zChA hc 1)
  have l0 : sn57 [ρ 7, ρ 0, ρ 2, ρ 19, ρ 29, ρ 30, ρ 31, ρ 10, ρ 17] (γ 5) 0 0 (γ 6) := hS57 _ _ _ _ _ (zAllA hl 0)
  show jn75 [ρ 0, ρ 1, ρ 2, ρ 3, ρ 4, ρ 5, ρ 6, ρ 7, ρ 8, ρ 9, ρ 10, ρ 11, ρ 12, ρ 13, ρ 14] (γ 0) 0 [ρ 0, ρ 1, ρ 2, ρ 3, ρ 4, ρ 5, ρ 6, ρ 7, ρ 8, ρ 9, ρ 10, ρ 11, ρ 12, ρ 13, ρ 14, ρ 15 + 1, ρ 16, ρ 36, ρ 18, ρ 32] (γ 6)
  have hD : en75 (γ 0) (0, [ρ 0, ρ 15], γ 1) = .inl (0, [ρ 0, ρ 15 + 1], γ 6) := by
    unfold en75
    refine zIP (show (0 : Nat) = 0 by decide) (zLV (γ 1) rfl (zLV (ρ 0) rfl (zLV (ρ 15) rfl (zLE m2 (zLE m6 (zLE m15 (zLE m16 ?_)))))))
    refine zIN w_0 (zIN w_1 (zIP w_2 (zIP w_3 (zLE m19 (zLE m20 (zIN w_4 (zLE m21 ?_)))))))
    refine zIP w_5 (zLE m22 (zLE c2.symm (zIN w_6 (zLE m23 (zIP w_7 (zLE m24 (zLE c3.symm ?_)))))))
    refine zIN w_8 (zLE m25 (zIP w_9 (zLE m26 (zLE c4.symm (zIP w_10 (zLE m27 (zLE c5.symm ?_)))))))
    refine zLE (show fn57 [ρ 7, ρ 0] (γ 5) = (0, 0, γ 6) from l0.symm) (zLV (γ 6) rfl ?_)
    rfl
  exact zGoo_ato hJ hD
theorem vn75a0_6 {S : Nat → zSpc} (hS57 : zIm S 57 sn57) (hS73 : zIm S 73 sn73) {a : List Int} {g : rHp} : ∀ (ρ : Nat → Int) (γ : Nat → rHp), jn75 a g 0 (zAg (zNA a75_ 0) ρ) (γ 1) → zO 15 S a g q75a0_6 ρ γ → zGl (fun i vs g1 => jn75 a g i vs g1) (sn75 a g) q75a0_6 ρ γ := by
  intro ρ γ hJ h
  obtain ⟨ha, hg, hr, hf, hm, hc, hl⟩ := h
  have ha : a = [ρ 0, ρ 1, ρ 2, ρ 3, ρ 4, ρ 5, ρ 6, ρ 7, ρ 8, ρ 9, ρ 10, ρ 11, ρ 12, ρ 13, ρ 14] := ha
  subst ha
  subst hg
  have hJ : jn75 [ρ 0, ρ 1, ρ 2, ρ 3, ρ 4, ρ 5, ρ 6, ρ 7, ρ 8, ρ 9, ρ 10, ρ 11, ρ 12, ρ 13, ρ 14] (γ 0) 0 [ρ 0, ρ 1, ρ 2, ρ 3, ρ 4, ρ 5, ρ 6, ρ 7, ρ 8, ρ 9, ρ 10, ρ 11, ρ 12, ρ 13, ρ 14, ρ 15, ρ 16, ρ 17, ρ 18, ρ 19] (γ 1) := hJ
  have r3 : (2 : Int) ≤ ρ 3 ∧ ρ 3 ≤ 2 := zRnA hr 3
  have r17 : (0 : Int) ≤ ρ 17 ∧ ρ 17 ≤ 0 := zRnA hr 17
  have r21 : (4 : Int) ≤ ρ 21 ∧ ρ 21 ≤ 4 := zRnA hr 21
  have r22 : (0 : Int) ≤ ρ 22 ∧ ρ 22 ≤ 2 := zRnA hr 22
  have r24 : (0 : Int) ≤ ρ 24 ∧ ρ 24 ≤ 2 := zRnA hr 24
  have r26 : (0 : Int) ≤ ρ 26 ∧ ρ 26 ≤ 2 := zRnA hr 26
  have r28 : (0 : Int) ≤ ρ 28 ∧ ρ 28 ≤ 2 := zRnA hr 28
  have f3 : (0 : Int) ≤ ρ 18 + -ρ 15 + (-1) := zAllA hf 3
  obtain ⟨w_0, w_1, w_2, w_3, w_4, w_5, w_6, w_7, w_8, w_9, w_10, w_11⟩ : (¬ (ρ 15 ≥ ρ 18)) ∧ (¬ (ρ 17 ≠ 0)) ∧ (ρ 3 ≤ 2) ∧ (ρ 3 ≠ 1) ∧ (¬ (0 ≥ ρ 21)) ∧ (ρ 22 ≠ 3) ∧ (¬ (1 ≥ ρ 21)) ∧ (ρ 24 ≠ 3) ∧ (¬ (2 ≥ ρ 21)) ∧ (ρ 26 ≠ 3) ∧ (¬ (3 ≥ ρ 21)) ∧ (ρ 28 ≠ 3) := ⟨by omega, by omega, by omega, by omega, by omega, by omega, by omega, by omega, by omega, by omega, by omega, by omega⟩
  have m2 : γ 0 71 0 (ρ 0) = ρ 3 := zAllA hm 2
  have m6 : γ 0 69 0 (ρ 0) = ρ 7 := zAllA hm 6
  have m15 : γ 1 15 0 77 = ρ 17 := zAllA hm 15
  have m16 : γ 1 15 0 90 = ρ 18 := zAllA hm 16
  have m19 : γ 1 107 0 (ρ 15) = ρ 20 := zAllA hm 19
  have m20 : γ 0 66 0 (ρ 7) = ρ 21 := zAllA hm 20
  have m21 : γ 0 70 0 (4 * ρ 0) = ρ 22 := zAllA hm 21
  have m22 : γ 1 105 0 (4 * ρ 15) = ρ 23 := zAllA hm 22
  have m23 : γ 0 70 0 (4 * ρ 0 + 1) = ρ 24 := zAllA hm 23
  have m24 : γ 1 105 0 (4 * ρ 15 + 1) = ρ 25 := zAllA hm 24
  have m25 : γ 0 70 0 (4 * ρ 0 + 2) = ρ 26 := zAllA hm 25
  have m26 : γ 1 105 0 (4 * ρ 15 + 2) = ρ 27 := zAllA hm 26
  have m27 : γ 0 70 0 (4 * ρ 0 + 3) = ρ 28 := zAllA hm 27
  have m28 : γ 1 105 0 (4 * ρ 15 + 3) = ρ 29 := zAllA hm 28
  have c2 : γ 2 = rUp (γ 1) 102 0 0 (ρ 23) := And.right (zChA hc 4)
  have c3 : γ 3 = rUp (γ 2) 102 0 1 (ρ 25) := And.right (zChA hc 3)
  have c4 : γ 4 = rUp (γ 3) 102 0 2 (ρ 27) := And.right (zChA hc 2)
  have c5 : γ 5 = rUp (γ 4) 102 0 3 (ρ 29) := And.right (zChA hc 1)
  have l0 : sn57 [ρ 7, ρ 0, ρ 2, ρ 19, ρ 30, ρ 31, ρ 32, ρ 10, ρ 17] (γ 5) 0 0 (γ 6) := hS57 _ _ _ _ _ (zAllA hl 0)
  show jn75 [ρ 0, ρ 1, ρ 2, ρ 3, ρ 4, ρ 5, ρ 6, ρ 7, ρ 8, ρ 9, ρ 10, ρ 11, ρ 12, ρ 13, ρ 14] (γ 0) 0 [ρ 0, ρ 1, ρ 2, ρ 3, ρ 4, ρ 5, ρ 6, ρ 7, ρ 8, ρ 9, ρ 10, ρ 11, ρ 12, ρ 13, ρ 14, ρ 15 + 1, ρ 16, ρ 37, ρ 18, ρ 33] (γ 6)
  have hD : en75 (γ 0) (0, [ρ 0, ρ 15], γ 1) = .inl (0, [ρ 0, ρ 15 + 1], γ 6) := by
    unfold en75
    refine zIP (show (0 : Nat) = 0 by decide) (zLV (γ 1) rfl (zLV (ρ 0) rfl (zLV (ρ 15) rfl (zLE m2 (zLE m6 (zLE m15 (zLE m16 ?_)))))))
    refine zIN w_0 (zIN w_1 (zIP w_2 (zIP w_3 (zLE m19 (zLE m20 (zIN w_4 (zLE m21 ?_)))))))
    refine zIP w_5 (zLE m22 (zLE c2.symm (zIN w_6 (zLE m23 (zIP w_7 (zLE m24 (zLE c3.symm ?_)))))))
    refine zIN w_8 (zLE m25 (zIP w_9 (zLE m26 (zLE c4.symm (zIN w_10 (zLE m27 (zIP w_11 ?_)))))))
    refine zLE m28 (zLE c5.symm (zLE (show fn57 [ρ 7, ρ 0] (γ 5) = (0, 0, γ 6) from l0.symm) (zLV (γ 6) rfl ?_)))
    rfl
  exact zGoo_ato hJ hD
theorem vn75a0_7 {S : Nat → zSpc} (hS57 : zIm S 57 sn57) (hS73 : zIm S 73 sn73) {a : List Int} {g : rHp} : ∀ (ρ : Nat → Int) (γ : Nat → rHp), jn75 a g 0 (zAg (zNA a75_ 0) ρ) (γ 1) → zO 15 S a g q75a0_7 ρ γ → zGl (fun i vs g1 => jn75 a g i vs g1) (sn75 a g) q75a0_7 ρ γ := by
  intro ρ γ hJ h
  obtain ⟨ha, hg, hr, hf, hm, hc, hl⟩ := h
  have ha : a = [ρ 0, ρ 1, ρ 2, ρ 3, ρ 4, ρ 5, ρ 6, ρ 7, ρ 8, ρ 9, ρ 10, ρ 11, ρ 12, ρ 13, ρ 14] := ha
  subst ha
  subst hg
  have hJ : jn75 [ρ 0, ρ 1, ρ 2, ρ 3, ρ 4, ρ 5, ρ 6, ρ 7, ρ 8, ρ 9, ρ 10, ρ 11, ρ 12, ρ 13, ρ 14] (γ 0) 0 [ρ 0, ρ 1, ρ 2, ρ 3, ρ 4, ρ 5, ρ 6, ρ 7, ρ 8, ρ 9, ρ 10, ρ 11, ρ 12, ρ 13, ρ 14, ρ 15, ρ 16, ρ 17, ρ 18, ρ 19] (γ 1) := hJ
  have r3 : (2 : Int) ≤ ρ 3 ∧ ρ 3 ≤ 2 := zRnA hr 3
  have r17 : (0 : Int) ≤ ρ 17 ∧ ρ 17 ≤ 0 := zRnA hr 17
  have r21 : (4 : Int) ≤ ρ 21 ∧ ρ 21 ≤ 4 := zRnA hr 21
  have r22 : (0 : Int) ≤ ρ 22 ∧ ρ 22 ≤ 2 := zRnA hr 22
  have r24 : (0 : Int) ≤ ρ 24 ∧ ρ 24 ≤ 2 := zRnA hr 24
  have r26 : (0 : Int) ≤ ρ 26 ∧ ρ 26 ≤ 2 := zRnA hr 26
  have r28 : (3 : Int) ≤ ρ 28 ∧ ρ 28 ≤ 3 := zRnA hr 28
  have f3 : (0 : Int) ≤ ρ 18 + -ρ 15 + (-1) := zAllA hf 3
  obtain ⟨w_0, w_1, w_2, w_3, w_4, w_5, w_6, w_7, w_8, w_9, w_10, w_11⟩ : (¬ (ρ 15 ≥ ρ 18)) ∧ (¬ (ρ 17 ≠ 0)) ∧ (ρ 3 ≤ 2) ∧ (ρ 3 ≠ 1) ∧ (¬ (0 ≥ ρ 21)) ∧ (ρ 22 ≠ 3) ∧ (¬ (1 ≥ ρ 21)) ∧ (ρ 24 ≠ 3) ∧ (¬ (2 ≥ ρ 21)) ∧ (ρ 26 ≠ 3) ∧ (¬ (3 ≥ ρ 21)) ∧ (¬ (ρ 28 ≠ 3)) := ⟨by omega, by omega, by omega, by omega, by omega, by omega, by omega, by omega, by omega, by omega, by omega, by omega⟩
  have m2 : γ 0 71 0 (ρ 0) = ρ 3 := zAllA hm 2
  have m6 : γ 0 69 0 (ρ 0) = ρ 7 := zAllA hm 6
  have m15 : γ 1 15 0 77 = ρ 17 := zAllA hm 15
  have m16 : γ 1 15 0 90 = ρ 18 := zAllA hm 16
  have m19 : γ 1 107 0 (ρ 15) = ρ 20 := zAllA hm 19
  have m20 : γ 0 66 0 (ρ 7) = ρ 21 := zAllA hm 20
  have m21 : γ 0 70 0 (4 * ρ 0) = ρ 22 := zAllA hm 21
  have m22 : γ 1 105 0 (4 * ρ 15) = ρ 23 := zAllA hm 22
  have m23 : γ 0 70 0 (4 * ρ 0 + 1) = ρ 24 := zAllA hm 23
  have m24 : γ 1 105 0 (4 * ρ 15 + 1) = ρ 25 := zAllA hm 24
  have m25 : γ 0 70 0 (4 * ρ 0 + 2) = ρ 26 := zAllA hm 25
  have m26 : γ 1 105 0 (4 * ρ 15 + 2) = ρ 27 := zAllA hm 26
  have m27 : γ 0 70 0 (4 * ρ 0 + 3) = ρ 28 := zAllA hm 27
  have c2 : γ 2 = rUp (γ 1) 102 0 0 (ρ 23) := And.right (zChA hc 4)
  have c3 : γ 3 = rUp (γ 2) 102 0 1 (ρ 25) := And.right (zChA hc 3)
  have c4 : γ 4 = rUp (γ 3) 102 0 2 (ρ 27) := And.right (zChA hc 2)
  have c5 : γ 5 = rUp (γ 4) 102 0 3 (ρ 20) := And.right (zChA hc 1)
  have l0 : sn57 [ρ 7, ρ 0, ρ 2, ρ 19, ρ 29, ρ 30, ρ 31, ρ 10, ρ 17] (γ 5) 0 0 (γ 6) := hS57 _ _ _ _ _ (zAllA hl 0)
  show jn75 [ρ 0, ρ 1, ρ 2, ρ 3, ρ 4, ρ 5, ρ 6, ρ 7, ρ 8, ρ 9, ρ 10, ρ 11, ρ 12, ρ 13, ρ 14] (γ 0) 0 [ρ 0, ρ 1, ρ 2, ρ 3, ρ 4, ρ 5, ρ 6, ρ 7, ρ 8, ρ 9, ρ 10, ρ 11, ρ 12, ρ 13, ρ 14, ρ 15 + 1, ρ 16, ρ 36, ρ 18, ρ 32] (γ 6)
  have hD : en75 (γ 0) (0, [ρ 0, ρ 15], γ 1) = .inl (0, [ρ 0, ρ 15 + 1], γ 6) := by
    unfold en75
    refine zIP (show (0 : Nat) = 0 by decide) (zLV (γ 1) rfl (zLV (ρ 0) rfl (zLV (ρ 15) rfl (zLE m2 (zLE m6 (zLE m15 (zLE m16 ?_)))))))
    refine zIN w_0 (zIN w_1 (zIP w_2 (zIP w_3 (zLE m19 (zLE m20 (zIN w_4 (zLE m21 ?_)))))))
    refine zIP w_5 (zLE m22 (zLE c2.symm (zIN w_6 (zLE m23 (zIP w_7 (zLE m24 (zLE c3.symm ?_)))))))
    refine zIN w_8 (zLE m25 (zIP w_9 (zLE m26 (zLE c4.symm (zIN w_10 (zLE m27 (zIN w_11 ?_)))))))
    refine zLE c5.symm (zLE (show fn57 [ρ 7, ρ 0] (γ 5) = (0, 0, γ 6) from l0.symm) (zLV (γ 6) rfl ?_))
    rfl
  exact zGoo_ato hJ hD
theorem vn75a0_8 {S : Nat → zSpc} (hS57 : zIm S 57 sn57) (hS73 : zIm S 73 sn73) {a : List Int} {g : rHp} : ∀ (ρ : Nat → Int) (γ : Nat → rHp), jn75 a g 0 (zAg (zNA a75_ 0) ρ) (γ 1) → zO 15 S a g q75a0_8 ρ γ → zGl (fun i vs g1 => jn75 a g i vs g1) (sn75 a g) q75a0_8 ρ γ := by
  intro ρ γ hJ h
  obtain ⟨ha, hg, hr, hf, hm, hc, hl⟩ := h
  have ha : a = [ρ 0, ρ 1, ρ 2, ρ 3, ρ 4, ρ 5, ρ 6, ρ 7, ρ 8, ρ 9, ρ 10, ρ 11, ρ 12, ρ 13, ρ 14] := ha
  subst ha
  subst hg
  have hJ : jn75 [ρ 0, ρ 1, ρ 2, ρ 3, ρ 4, ρ 5, ρ 6, ρ 7, ρ 8, ρ 9, ρ 10, ρ 11, ρ 12, ρ 13, ρ 14] (γ 0) 0 [ρ 0, ρ 1, ρ 2, ρ 3, ρ 4, ρ 5, ρ 6, ρ 7, ρ 8, ρ 9, ρ 10, ρ 11, ρ 12, ρ 13, ρ 14, ρ 15, ρ 16, ρ 17, ρ 18, ρ 19] (γ 1) := hJ
  have r3 : (2 : Int) ≤ ρ 3 ∧ ρ 3 ≤ 2 := zRnA hr 3
  have r17 : (0 : Int) ≤ ρ 17 ∧ ρ 17 ≤ 0 := zRnA hr 17
  have r21 : (3 : Int) ≤ ρ 21 ∧ ρ 21 ≤ 3 := zRnA hr 21
  have r22 : (0 : Int) ≤ ρ 22 ∧ ρ 22 ≤ 2 := zRnA hr 22
  have r24 : (0 : Int) ≤ ρ 24 ∧ ρ 24 ≤ 2 := zRnA hr 24
  have r26 : (3 : Int) ≤ ρ 26 ∧ ρ 26 ≤ 3 := zRnA hr 26
  have f3 : (0 : Int) ≤ ρ 18 + -ρ 15 + (-1) := zAllA hf 3
  obtain ⟨w_0, w_1, w_2, w_3, w_4, w_5, w_6, w_7, w_8, w_9, w_10⟩ : (¬ (ρ 15 ≥ ρ 18)) ∧ (¬ (ρ 17 ≠ 0)) ∧ (ρ 3 ≤ 2) ∧ (ρ 3 ≠ 1) ∧ (¬ (0 ≥ ρ 21)) ∧ (ρ 22 ≠ 3) ∧ (¬ (1 ≥ ρ 21)) ∧ (ρ 24 ≠ 3) ∧ (¬ (2 ≥ ρ 21)) ∧ (¬ (ρ 26 ≠ 3)) ∧ (3 ≥ ρ 21) := ⟨by omega, by omega, by omega, by omega, by omega, by omega, by omega, by omega, by omega, by omega, by omega⟩
  have m2 : γ 0 71 0 (ρ 0) = ρ 3 := zAllA hm 2
  have m6 : γ 0 69 0 (ρ 0) = ρ 7 := zAllA hm 6
  have m15 : γ 1 15 0 77 = ρ 17 := zAllA hm 15
  have m16 : γ 1 15 0 90 = ρ 18 := zAllA hm 16
  have m19 : γ 1 107 0 (ρ 15) = ρ 20 := zAllA hm 19
  have m20 : γ 0 66 0 (ρ 7) = ρ 21 := zAllA hm 20
  have m21 : γ 0 70 0 (4 * ρ 0) = ρ 22 := zAllA hm 21
  have m22 : γ 1 105 0 (4 * ρ 15) = ρ 23 := zAllA hm 22
  have m23 : γ 0 70 0 (4 * ρ 0 + 1) = ρ 24 := zAllA hm 23
  have m24 : γ 1 105 0 (4 * ρ 15 + 1) = ρ 25 := zAllA hm 24
  have m25 : γ 0 70 0 (4 * ρ 0 + 2) = ρ 26 := zAllA hm 25
  have m26 : γ 1 105 0 (4 * ρ 15 + 3) = ρ 27 := zAllA hm 26
  have c2 : γ 2 = rUp (γ 1) 102 0 0 (ρ 23) := And.right (zChA hc 4)
  have c3 : γ 3 = rUp (γ 2) 102 0 1 (ρ 25) := And.right (zChA hc 3)
  have c4 : γ 4 = rUp (γ 3) 102 0 2 (ρ 20) := And.right (zChA hc 2)
  have c5 : γ 5 = rUp (γ 4) 102 0 3 (ρ 27) := And.right (zChA hc 1)
  have l0 : sn57 [ρ 7, ρ 0, ρ 2, ρ 19, ρ 28, ρ 29, ρ 30, ρ 10, ρ 17] (γ 5) 0 0 (γ 6) := hS57 _ _ _ _ _ (zAllA hl 0)
  show jn75 [ρ 0, ρ 1, ρ 2, ρ 3, ρ 4, ρ 5, ρ 6, ρ 7, ρ 8, ρ 9, ρ 10, ρ 11, ρ 12, ρ 13, ρ 14] (γ 0) 0 [ρ 0, ρ 1, ρ 2, ρ 3, ρ 4, ρ 5, ρ 6, ρ 7, ρ 8, ρ 9, ρ 10, ρ 11, ρ 12, ρ 13, ρ 14, ρ 15 + 1, ρ 16, ρ 35, ρ 18, ρ 31] (γ 6)
  have hD : en75 (γ 0) (0, [ρ 0, ρ 15], γ 1) = .inl (0, [ρ 0, ρ 15 + 1], γ 6) := by
    unfold en75
    refine zIP (show (0 : Nat) = 0 by decide) (zLV (γ 1) rfl (zLV (ρ 0) rfl (zLV (ρ 15) rfl (zLE m2 (zLE m6 (zLE m15 (zLE m16 ?_)))))))
    refine zIN w_0 (zIN w_1 (zIP w_2 (zIP w_3 (zLE m19 (zLE m20 (zIN w_4 (zLE m21 ?_)))))))
    refine zIP w_5 (zLE m22 (zLE c2.symm (zIN w_6 (zLE m23 (zIP w_7 (zLE m24 (zLE c3.symm ?_)))))))
    refine zIN w_8 (zLE m25 (zIN w_9 (zLE c4.symm (zIP w_10 (zLE m26 (zLE c5.symm (zLE (show fn57 [ρ 7, ρ 0] (γ 5) = (0, 0, γ 6) from l0.symm) ?_)))))))
    refine zLV (γ 6) rfl ?_
    rfl
  exact zGoo_ato hJ hD
theorem vn75a0_9 {S : Nat → zSpc} (hS57 : zIm S 57 sn57) (hS73 : zIm S 73 sn73) {a : List Int} {g : rHp} : ∀ (ρ : Nat → Int) (γ : Nat → rHp), jn75 a g 0 (zAg (zNA a75_ 0) ρ) (γ 1) → zO 15 S a g q75a0_9 ρ γ → zGl (fun i vs g1 => jn75 a g i vs g1) (sn75 a g) q75a0_9 ρ γ := by
  intro ρ γ hJ h
  obtain ⟨ha, hg, hr, hf, hm, hc, hl⟩ := h
  have ha : a = [ρ 0, ρ 1, ρ 2, ρ 3, ρ 4, ρ 5, ρ 6, ρ 7, ρ 8, ρ 9, ρ 10, ρ 11, ρ 12, ρ 13, ρ 14] := ha
  subst ha
  subst hg
  have hJ : jn75 [ρ 0, ρ 1, ρ 2, ρ 3, ρ 4, ρ 5, ρ 6, ρ 7, ρ 8, ρ 9, ρ 10, ρ 11, ρ 12, ρ 13, ρ 14] (γ 0) 0 [ρ 0, ρ 1, ρ 2, ρ 3, ρ 4, ρ 5, ρ 6, ρ 7, ρ 8, ρ 9, ρ 10, ρ 11, ρ 12, ρ 13, ρ 14, ρ 15, ρ 16, ρ 17, ρ 18, ρ 19] (γ 1) := hJ
  have r3 : (2 : Int) ≤ ρ 3 ∧ ρ 3 ≤ 2 := zRnA hr 3
  have r17 : (0 : Int) ≤ ρ 17 ∧ ρ 17 ≤ 0 := zRnA hr 17
  have r21 : (4 : Int) ≤ ρ 21 ∧ ρ 21 ≤ 4 := zRnA hr 21
  have r22 : (0 : Int) ≤ ρ 22 ∧ ρ 22 ≤ 2 := zRnA hr 22
  have r24 : (0 : Int) ≤ ρ 24 ∧ ρ 24 ≤ 2 := zRnA hr 24
  have r26 : (3 : Int) ≤ ρ 26 ∧ ρ 26 ≤ 3 := zRnA hr 26
  have r27 : (0 : Int) ≤ ρ 27 ∧ ρ 27 ≤ 2 := zRnA hr 27
  have f3 : (0 : Int) ≤ ρ 18 + -ρ 15 + (-1) := zAllA hf 3
  obtain ⟨w_0, w_1, w_2, w_3, w_4, w_5, w_6, w_7, w_8, w_9, w_10, w_11⟩ : (¬ (ρ 15 ≥ ρ 18)) ∧ (¬ (ρ 17 ≠ 0)) ∧ (ρ 3 ≤ 2) ∧ (ρ 3 ≠ 1) ∧ (¬ (0 ≥ ρ 21)) ∧ (ρ 22 ≠ 3) ∧ (¬ (1 ≥ ρ 21)) ∧ (ρ 24 ≠ 3) ∧ (¬ (2 ≥ ρ 21)) ∧ (¬ (ρ 26 ≠ 3)) ∧ (¬ (3 ≥ ρ 21)) ∧ (ρ 27 ≠ 3) := ⟨by omega, by omega, by omega, by omega, by omega, by omega, by omega, by omega, by omega, by omega, by omega, by omega⟩
  have m2 : γ 0 71 0 (ρ 0) = ρ 3 := zAllA hm 2
  have m6 : γ 0 69 0 (ρ 0) = ρ 7 := zAllA hm 6
  have m15 : γ 1 15 0 77 = ρ 17 := zAllA hm 15
  have m16 : γ 1 15 0 90 = ρ 18 := zAllA hm 16
  have m19 : γ 1 107 0 (ρ 15) = ρ 20 := zAllA hm 19
  have m20 : γ 0 66 0 (ρ 7) = ρ 21 := zAllA hm 20
  have m21 : γ 0 70 0 (4 * ρ 0) = ρ 22 := zAllA hm 21
  have m22 : γ 1 105 0 (4 * ρ 15) = ρ 23 := zAllA hm 22
  have m23 : γ 0 70 0 (4 * ρ 0 + 1) = ρ 24 := zAllA hm 23
  have m24 : γ 1 105 0 (4 * ρ 15 + 1) = ρ 25 := zAllA hm 24
  have m25 : γ 0 70 0 (4 * ρ 0 + 2) = ρ 26 := zAllA hm 25
  have m26 : γ 0 70 0 (4 * ρ 0 + 3) = ρ 27 := zAllA hm 26
  have m27 : γ 1 105 0 (4 * ρ 15 + 3) = ρ 28 := zAllA hm 27
  have c2 : γ 2 = rUp (γ 1) 102 0 0 (ρ 23) := And.right (zChA hc 4)
  have c3 : γ 3 = rUp (γ 2) 102 0 1 (ρ 25) := And.right (zChA hc 3)
  have c4 : γ 4 = rUp (γ 3) 102 0 2 (ρ 20) := And.right (zChA hc 2)
  have c5 : γ 5 = rUp (γ 4) 102 0 3 (ρ 28) := And.right (zChA hc 1)
  have l0 : sn57 [ρ 7, ρ 0, ρ 2, ρ 19, ρ 29, ρ 30, ρ 31, ρ 10, ρ 17] (γ 5) 0 0 (γ 6) := hS57 _ _ _ _ _ (zAllA hl 0)
  show jn75 [ρ 0, ρ 1, ρ 2, ρ 3, ρ 4, ρ 5, ρ 6, ρ 7, ρ 8, ρ 9, ρ 10, ρ 11, ρ 12, ρ 13, ρ 14] (γ 0) 0 [ρ 0, ρ 1, ρ 2, ρ 3, ρ 4, ρ 5, ρ 6, ρ 7, ρ 8, ρ 9, ρ 10, ρ 11, ρ 12, ρ 13, ρ 14, ρ 15 + 1, ρ 16, ρ 36, ρ 18, ρ 32] (γ 6)
  have hD : en75 (γ 0) (0, [ρ 0, ρ 15], γ 1) = .inl (0, [ρ 0, ρ 15 + 1], γ 6) := by
    unfold en75
    refine zIP (show (0 : Nat) = 0 by decide) (zLV (γ 1) rfl (zLV (ρ 0) rfl (zLV (ρ 15) rfl (zLE m2 (zLE m6 (zLE m15 (zLE m16 ?_)))))))
    refine zIN w_0 (zIN w_1 (zIP w_2 (zIP w_3 (zLE m19 (zLE m20 (zIN w_4 (zLE m21 ?_)))))))
    refine zIP w_5 (zLE m22 (zLE c2.symm (zIN w_6 (zLE m23 (zIP w_7 (zLE m24 (zLE c3.symm ?_)))))))
    refine zIN w_8 (zLE m25 (zIN w_9 (zLE c4.symm (zIN w_10 (zLE m26 (zIP w_11 (zLE m27 ?_)))))))
    refine zLE c5.symm (zLE (show fn57 [ρ 7, ρ 0] (γ 5) = (0, 0, γ 6) from l0.symm) (zLV (γ 6) rfl ?_))
    rfl
  exact zGoo_ato hJ hD
theorem vn75a0_10 {S : Nat → zSpc} (hS57 : zIm S 57 sn57) (hS73 : zIm S 73 sn73) {a : List Int} {g : rHp} : ∀ (ρ : Nat → Int) (γ : Nat → rHp), jn75 a g 0 (zAg (zNA a75_ 0) ρ) (γ 1) → zO 15 S a g q75a0_10 ρ γ → zGl (fun i vs g1 => jn75 a g i vs g1) (sn75 a g) q75a0_10 ρ γ := by
  intro ρ γ hJ h
  obtain ⟨ha, hg, hr, hf, hm, hc, hl⟩ := h
  have ha : a = [ρ 0, ρ 1, ρ 2, ρ 3, ρ 4, ρ 5, ρ 6, ρ 7, ρ 8, ρ 9, ρ 10, ρ 11, ρ 12, ρ 13, ρ 14] := ha
  subst ha
  subst hg
  have hJ : jn75 [ρ 0, ρ 1, ρ 2, ρ 3, ρ 4, ρ 5, ρ 6, ρ 7, ρ 8, ρ 9, ρ 10, ρ 11, ρ 12, ρ 13, ρ 14] (γ 0) 0 [ρ 0, ρ 1, ρ 2, ρ 3, ρ 4, ρ 5, ρ 6, ρ 7, ρ 8, ρ 9, ρ 10, ρ 11, ρ 12, ρ 13, ρ 14, ρ 15, ρ 16, ρ 17, ρ 18, ρ 19] (γ 1) := hJ
  have r3 : (2 : Int) ≤ ρ 3 ∧ ρ 3 ≤ 2 := zRnA hr 3
  have r17 : (0 : Int) ≤ ρ 17 ∧ ρ 17 ≤ 0 := zRnA hr 17
  have r21 : (4 : Int) ≤ ρ 21 ∧ ρ 21 ≤ 4 := zRnA hr 21
  have r22 : (0 : Int) ≤ ρ 22 ∧ ρ 22 ≤ 2 := zRnA hr 22
  have r24 : (0 : Int) ≤ ρ 24 ∧ ρ 24 ≤ 2 := zRnA hr 24
  have r26 : (3 : Int) ≤ ρ 26 ∧ ρ 26 ≤ 3 := zRnA hr 26
  have r27 : (3 : Int) ≤ ρ 27 ∧ ρ 27 ≤ 3 := zRnA hr 27
  have f3 : (0 : Int) ≤ ρ 18 + -ρ 15 + (-1) := zAllA hf 3
  obtain ⟨w_0, w_1, w_2, w_3, w_4, w_5, w_6, w_7, w_8, w_9, w_10, w_11⟩ : (¬ (ρ 15 ≥ ρ 18)) ∧ (¬ (ρ 17 ≠ 0)) ∧ (ρ 3 ≤ 2) ∧ (ρ 3 ≠ 1) ∧ (¬ (0 ≥ ρ 21)) ∧ (ρ 22 ≠ 3) ∧ (¬ (1 ≥ ρ 21)) ∧ (ρ 24 ≠ 3) ∧ (¬ (2 ≥ ρ 21)) ∧ (¬ (ρ 26 ≠ 3)) ∧ (¬ (3 ≥ ρ 21)) ∧ (¬ (ρ 27 ≠ 3)) := ⟨by omega, by omega, by omega, by omega, by omega, by omega, by omega, by omega, by omega, by omega, by omega, by omega⟩
  have m2 : γ 0 71 0 (ρ 0) = ρ 3 := zAllA hm 2
  have m6 : γ 0 69 0 (ρ 0) = ρ 7 := zAllA hm 6
  have m15 : γ 1 15 0 77 = ρ 17 := zAllA hm 15
  have m16 : γ 1 15 0 90 = ρ 18 := zAllA hm 16
  have m19 : γ 1 107 0 (ρ 15) = ρ 20 := zAllA hm 19
  have m20 : γ 0 66 0 (ρ 7) = ρ 21 := zAllA hm 20
  have m21 : γ 0 70 0 (4 * ρ 0) = ρ 22 := zAllA hm 21
  have m22 : γ 1 105 0 (4 * ρ 15) = ρ 23 := zAllA hm 22
  have m23 : γ 0 70 0 (4 * ρ 0 + 1) = ρ 24 := zAllA hm 23
  have m24 : γ 1 105 0 (4 * ρ 15 + 1) = ρ 25 := zAllA hm 24
  have m25 : γ 0 70 0 (4 * ρ 0 + 2) = ρ 26 := zAllA hm 25
  have m26 : γ 0 70 0 (4 * ρ 0 + 3) = ρ 27 := zAllA hm 26
  have c2 : γ 2 = rUp (γ 1) 102 0 0 (ρ 23) := And.right (zChA hc 4)
  have c3 : γ 3 = rUp (γ 2) 102 0 1 (ρ 25) := And.right (zChA hc 3)
  have c4 : γ 4 = rUp (γ 3) 102 0 2 (ρ 20) := And.right (zChA hc 2)
  have c5 : γ 5 = rUp (γ 4) 102 0 3 (ρ 20) := And.right (zChA hc 1)
  have l0 : sn57 [ρ 7, ρ 0, ρ 2, ρ 19, ρ 28, ρ 29, ρ 30, ρ 10, ρ 17] (γ 5) 0 0 (γ 6) := hS57 _ _ _ _ _ (zAllA hl 0)
  show jn75 [ρ 0, ρ 1, ρ 2, ρ 3, ρ 4, ρ 5, ρ 6, ρ 7, ρ 8, ρ 9, ρ 10, ρ 11, ρ 12, ρ 13, ρ 14] (γ 0) 0 [ρ 0, ρ 1, ρ 2, ρ 3, ρ 4, ρ 5, ρ 6, ρ 7, ρ 8, ρ 9, ρ 10, ρ 11, ρ 12, ρ 13, ρ 14, ρ 15 + 1, ρ 16, ρ 35, ρ 18, ρ 31] (γ 6)
  have hD : en75 (γ 0) (0, [ρ 0, ρ 15], γ 1) = .inl (0, [ρ 0, ρ 15 + 1], γ 6) := by
    unfold en75
    refine zIP (show (0 : Nat) = 0 by decide) (zLV (γ 1) rfl (zLV (ρ 0) rfl (zLV (ρ 15) rfl (zLE m2 (zLE m6 (zLE m15 (zLE m16 ?_)))))))
    refine zIN w_0 (zIN w_1 (zIP w_2 (zIP w_3 (zLE m19 (zLE m20 (zIN w_4 (zLE m21 ?_)))))))
    refine zIP w_5 (zLE m22 (zLE c2.symm (zIN w_6 (zLE m23 (zIP w_7 (zLE m24 (zLE c3.symm ?_)))))))
    refine zIN w_8 (zLE m25 (zIN w_9 (zLE c4.symm (zIN w_10 (zLE m26 (zIN w_11 (zLE c5.symm ?_)))))))
    refine zLE (show fn57 [ρ 7, ρ 0] (γ 5) = (0, 0, γ 6) from l0.symm) (zLV (γ 6) rfl ?_)
    rfl
  exact zGoo_ato hJ hD
theorem vn75a0_11 {S : Nat → zSpc} (hS57 : zIm S 57 sn57) (hS73 : zIm S 73 sn73) {a : List Int} {g : rHp} : ∀ (ρ : Nat → Int) (γ : Nat → rHp), jn75 a g 0 (zAg (zNA a75_ 0) ρ) (γ 1) → zO 15 S a g q75a0_11 ρ γ → zGl (fun i vs g1 => jn75 a g i vs g1) (sn75 a g) q75a0_11 ρ γ := by
  intro ρ γ hJ h
  obtain ⟨ha, hg, hr, hf, hm, hc, hl⟩ := h
  have ha : a = [ρ 0, ρ 1, ρ 2, ρ 3, ρ 4, ρ 5, ρ 6, ρ 7, ρ 8, ρ 9, ρ 10, ρ 11, ρ 12, ρ 13, ρ 14] := ha
  subst ha
  subst hg
  have hJ : jn75 [ρ 0, ρ 1, ρ 2, ρ 3, ρ 4, ρ 5, ρ 6, ρ 7, ρ 8, ρ 9, ρ 10, ρ 11, ρ 12, ρ 13, ρ 14] (γ 0) 0 [ρ 0, ρ 1, ρ 2, ρ 3, ρ 4, ρ 5, ρ 6, ρ 7, ρ 8, ρ 9, ρ 10, ρ 11, ρ 12, ρ 13, ρ 14, ρ 15, ρ 16, ρ 17, ρ 18, ρ 19] (γ 1) := hJ
  have r3 : (2 : Int) ≤ ρ 3 ∧ ρ 3 ≤ 2 := zRnA hr 3
  have r17 : (0 : Int) ≤ ρ 17 ∧ ρ 17 ≤ 0 := zRnA hr 17
  have r21 : (2 : Int) ≤ ρ 21 ∧ ρ 21 ≤ 2 := zRnA hr 21
  have r22 : (0 : Int) ≤ ρ 22 ∧ ρ 22 ≤ 2 := zRnA hr 22
  have r24 : (3 : Int) ≤ ρ 24 ∧ ρ 24 ≤ 3 := zRnA hr 24
  have f3 : (0 : Int) ≤ ρ 18 + -ρ 15 + (-1) := zAllA hf 3
  obtain ⟨w_0, w_1, w_2, w_3, w_4, w_5, w_6, w_7, w_8⟩ : (¬ (ρ 15 ≥ ρ 18)) ∧ (¬ (ρ 17 ≠ 0)) ∧ (ρ 3 ≤ 2) ∧ (ρ 3 ≠ 1) ∧ (¬ (0 ≥ ρ 21)) ∧ (ρ 22 ≠ 3) ∧ (¬ (1 ≥ ρ 21)) ∧ (¬ (ρ 24 ≠ 3)) ∧ (2 ≥ ρ 21) := ⟨by omega, by omega, by omega, by omega, by omega, by omega, by omega, by omega, by omega⟩
  have m2 : γ 0 71 0 (ρ 0) = ρ 3 := zAllA hm 2
  have m6 : γ 0 69 0 (ρ 0) = ρ 7 := zAllA hm 6
  have m15 : γ 1 15 0 77 = ρ 17 := zAllA hm 15
  have m16 : γ 1 15 0 90 = ρ 18 := zAllA hm 16
  have m19 : γ 1 107 0 (ρ 15) = ρ 20 := zAllA hm 19
  have m20 : γ 0 66 0 (ρ 7) = ρ 21 := zAllA hm 20
  have m21 : γ 0 70 0 (4 * ρ 0) = ρ 22 := zAllA hm 21
  have m22 : γ 1 105 0 (4 * ρ 15) = ρ 23 := zAllA hm 22
  have m23 : γ 0 70 0 (4 * ρ 0 + 1) = ρ 24 := zAllA hm 23
  have m24 : γ 1 105 0 (4 * ρ 15 + 2) = ρ 25 := zAllA hm 24
  have m25 : γ 1 105 0 (4 * ρ 15 + 3) = ρ 26 := zAllA hm 25
  have c2 : γ 2 = rUp (γ 1) 102 0 0 (ρ 23) := And.right (zChA hc 4)
  have c3 : γ 3 = rUp (γ 2) 102 0 1 (ρ 20) := And.right (zChA hc 3)
  have c4 : γ 4 = rUp (γ 3) 102 0 2 (ρ 25) := And.right (zChA hc 2)
  have c5 : γ 5 = rUp (γ 4) 102 0 3 (ρ 26) := And.right (zChA hc 1)
  have l0 : sn57 [ρ 7, ρ 0, ρ 2, ρ 19, ρ 27, ρ 28, ρ 29, ρ 10, ρ 17] (γ 5) 0 0 (γ 6) := hS57 _ _ _ _ _ (zAllA hl 0)
  show jn75 [ρ 0, ρ 1, ρ 2, ρ 3, ρ 4, ρ 5, ρ 6, ρ 7, ρ 8, ρ 9, ρ 10, ρ 11, ρ 12, ρ 13, ρ 14] (γ 0) 0 [ρ 0, ρ 1, ρ 2, ρ 3, ρ 4, ρ 5, ρ 6, ρ 7, ρ 8, ρ 9, ρ 10, ρ 11, ρ 12, ρ 13, ρ 14, ρ 15 + 1, ρ 16, ρ 34, ρ 18, ρ 30] (γ 6)
  have hD : en75 (γ 0) (0, [ρ 0, ρ 15], γ 1) = .inl (0, [ρ 0, ρ 15 + 1], γ 6) := by
    unfold en75
    refine zIP (show (0 : Nat) = 0 by decide) (zLV (γ 1) rfl (zLV (ρ 0) rfl (zLV (ρ 15) rfl (zLE m2 (zLE m6 (zLE m15 (zLE m16 ?_)))))))
    refine zIN w_0 (zIN w_1 (zIP w_2 (zIP w_3 (zLE m19 (zLE m20 (zIN w_4 (zLE m21 ?_)))))))
    refine zIP w_5 (zLE m22 (zLE c2.symm (zIN w_6 (zLE m23 (zIN w_7 (zLE c3.symm (zIP w_8 ?_)))))))
    refine zLE m24 (zLE c4.symm (zLE m25 (zLE c5.symm (zLE (show fn57 [ρ 7, ρ 0] (γ 5) = (0, 0, γ 6) from l0.symm) (zLV (γ 6) rfl ?_)))))
    rfl
  exact zGoo_ato hJ hD
theorem vn75a0_12 {S : Nat → zSpc} (hS57 : zIm S 57 sn57) (hS73 : zIm S 73 sn73) {a : List Int} {g : rHp} : ∀ (ρ : Nat → Int) (γ : Nat → rHp), jn75 a g 0 (zAg (zNA a75_ 0) ρ) (γ 1) → zO 15 S a g q75a0_12 ρ γ → zGl (fun i vs g1 => jn75 a g i vs g1) (sn75 a g) q75a0_12 ρ γ := by
  intro ρ γ hJ h
  obtain ⟨ha, hg, hr, hf, hm, hc, hl⟩ := h
  have ha : a = [ρ 0, ρ 1, ρ 2, ρ 3, ρ 4, ρ 5, ρ 6, ρ 7, ρ 8, ρ 9, ρ 10, ρ 11, ρ 12, ρ 13, ρ 14] := ha
  subst ha
  subst hg
  have hJ : jn75 [ρ 0, ρ 1, ρ 2, ρ 3, ρ 4, ρ 5, ρ 6, ρ 7, ρ 8, ρ 9, ρ 10, ρ 11, ρ 12, ρ 13, ρ 14] (γ 0) 0 [ρ 0, ρ 1, ρ 2, ρ 3, ρ 4, ρ 5, ρ 6, ρ 7, ρ 8, ρ 9, ρ 10, ρ 11, ρ 12, ρ 13, ρ 14, ρ 15, ρ 16, ρ 17, ρ 18, ρ 19] (γ 1) := hJ
  have r3 : (2 : Int) ≤ ρ 3 ∧ ρ 3 ≤ 2 := zRnA hr 3
  have r17 : (0 : Int) ≤ ρ 17 ∧ ρ 17 ≤ 0 := zRnA hr 17
  have r21 : (3 : Int) ≤ ρ 21 ∧ ρ 21 ≤ 3 := zRnA hr 21
  have r22 : (0 : Int) ≤ ρ 22 ∧ ρ 22 ≤ 2 := zRnA hr 22
  have r24 : (3 : Int) ≤ ρ 24 ∧ ρ 24 ≤ 3 := zRnA hr 24
  have r25 : (0 : Int) ≤ ρ 25 ∧ ρ 25 ≤ 2 := zRnA hr 25
  have f3 : (0 : Int) ≤ ρ 18 + -ρ 15 + (-1) := zAllA hf 3
  obtain ⟨w_0, w_1, w_2, w_3, w_4, w_5, w_6, w_7, w_8, w_9, w_10⟩ : (¬ (ρ 15 ≥ ρ 18)) ∧ (¬ (ρ 17 ≠ 0)) ∧ (ρ 3 ≤ 2) ∧ (ρ 3 ≠ 1) ∧ (¬ (0 ≥ ρ 21)) ∧ (ρ 22 ≠ 3) ∧ (¬ (1 ≥ ρ 21)) ∧ (¬ (ρ 24 ≠ 3)) ∧ (¬ (2 ≥ ρ 21)) ∧ (ρ 25 ≠ 3) ∧ (3 ≥ ρ 21) := ⟨by omega, by omega, by omega, by omega, by omega, by omega, by omega, by omega, by omega, by omega, by omega⟩
  have m2 : γ 0 71 0 (ρ 0) = ρ 3 := zAllA hm 2
  have m6 : γ 0 69 0 (ρ 0) = ρ 7 := zAllA hm 6
  have m15 : γ 1 15 0 77 = ρ 17 := zAllA hm 15
  have m16 : γ 1 15 0 90 = ρ 18 := zAllA hm 16
  have m19 : γ 1 107 0 (ρ 15) = ρ 20 := zAllA hm 19
  have m20 : γ 0 66 0 (ρ 7) = ρ 21 := zAllA hm 20
  have m21 : γ 0 70 0 (4 * ρ 0) = ρ 22 := zAllA hm 21
  have m22 : γ 1 105 0 (4 * ρ 15) = ρ 23 := zAllA hm 22
  have m23 : γ 0 70 0 (4 * ρ 0 + 1) = ρ 24 := zAllA hm 23
  have m24 : γ 0 70 0 (4 * ρ 0 + 2) = ρ 25 := zAllA hm 24
  have m25 : γ 1 105 0 (4 * ρ 15 + 2) = ρ 26 := zAllA hm 25
  have m26 : γ 1 105 0 (4 * ρ 15 + 3) = ρ 27 := zAllA hm 26
  have c2 : γ 2 = rUp (γ 1) 102 0 0 (ρ 23) := And.right (zChA hc 4)
  have c3 : γ 3 = rUp (γ 2) 102 0 1 (ρ 20) := And.right (zChA hc 3)
  have c4 : γ 4 = rUp (γ 3) 102 0 2 (ρ 26) := And.right (zChA hc 2)
  have c5 : γ 5 = rUp (γ 4) 102 0 3 (ρ 27) := And.right (zChA hc 1)
  have l0 : sn57 [ρ 7, ρ 0, ρ 2, ρ 19, ρ 28, ρ 29, ρ 30, ρ 10, ρ 17] (γ 5) 0 0 (γ 6) := hS57 _ _ _ _ _ (zAllA hl 0)
  show jn75 [ρ 0, ρ 1, ρ 2, ρ 3, ρ 4, ρ 5, ρ 6, ρ 7, ρ 8, ρ 9, ρ 10, ρ 11, ρ 12, ρ 13, ρ 14] (γ 0) 0 [ρ 0, ρ 1, ρ 2, ρ 3, ρ 4, ρ 5, ρ 6, ρ 7, ρ 8, ρ 9, ρ 10, ρ 11, ρ 12, ρ 13, ρ 14, ρ 15 + 1, ρ 16, ρ 35, ρ 18, ρ 31] (γ 6)
  have hD : en75 (γ 0) (0, [ρ 0, ρ 15], γ 1) = .inl (0, [ρ 0, ρ 15 + 1], γ 6) := by
    unfold en75
    refine zIP (show (0 : Nat) = 0 by decide) (zLV (γ 1) rfl (zLV (ρ 0) rfl (zLV (ρ 15) rfl (zLE m2 (zLE m6 (zLE m15 (zLE m16 ?_)))))))
    refine zIN w_0 (zIN w_1 (zIP w_2 (zIP w_3 (zLE m19 (zLE m20 (zIN w_4 (zLE m21 ?_)))))))
    refine zIP w_5 (zLE m22 (zLE c2.symm (zIN w_6 (zLE m23 (zIN w_7 (zLE c3.symm (zIN w_8 ?_)))))))
    refine zLE m24 (zIP w_9 (zLE m25 (zLE c4.symm (zIP w_10 (zLE m26 (zLE c5.symm (zLE (show fn57 [ρ 7, ρ 0] (γ 5) = (0, 0, γ 6) from l0.symm) ?_)))))))
    refine zLV (γ 6) rfl ?_
    rfl
  exact zGoo_ato hJ hD
theorem vn75a0_13 {S : Nat → zSpc} (hS57 : zIm S 57 sn57) (hS73 : zIm S 73 sn73) {a : List Int} {g : rHp} : ∀ (ρ : Nat → Int) (γ : Nat → rHp), jn75 a g 0 (zAg (zNA a75_ 0) ρ) (γ 1) → zO 15 S a g q75a0_13 ρ γ → zGl (fun i vs g1 => jn75 a g i vs g1) (sn75 a g) q75a0_13 ρ γ := by
  intro ρ γ hJ h
  obtain ⟨ha, hg, hr, hf, hm, hc, hl⟩ := h
  have ha : a = [ρ 0, ρ 1, ρ 2, ρ 3, ρ 4, ρ 5, ρ 6, ρ 7, ρ 8, ρ 9, ρ 10, ρ 11, ρ 12, ρ 13, ρ 14] := ha
  subst ha
  subst hg
  have hJ : jn75 [ρ 0, ρ 1, ρ 2, ρ 3, ρ 4, ρ 5, ρ 6, ρ 7, ρ 8, ρ 9, ρ 10, ρ 11, ρ 12, ρ 13, ρ 14] (γ 0) 0 [ρ 0, ρ 1, ρ 2, ρ 3, ρ 4, ρ 5, ρ 6, ρ 7, ρ 8, ρ 9, ρ 10, ρ 11, ρ 12, ρ 13, ρ 14, ρ 15, ρ 16, ρ 17, ρ 18, ρ 19] (γ 1) := hJ
  have r3 : (2 : Int) ≤ ρ 3 ∧ ρ 3 ≤ 2 := zRnA hr 3
  have r17 : (0 : Int) ≤ ρ 17 ∧ ρ 17 ≤ 0 := zRnA hr 17
  have r21 : (4 : Int) ≤ ρ 21 ∧ ρ 21 ≤ 4 := zRnA hr 21
  have r22 : (0 : Int) ≤ ρ 22 ∧ ρ 22 ≤ 2 := zRnA hr 22
  have r24 : (3 : Int) ≤ ρ 24 ∧ ρ 24 ≤ 3 := zRnA hr 24
  have r25 : (0 : Int) ≤ ρ 25 ∧ ρ 25 ≤ 2 := zRnA hr 25
  have r27 : (0 : Int) ≤ ρ 27 ∧ ρ 27 ≤ 2 := zRnA hr 27
  have f3 : (0 : Int) ≤ ρ 18 + -ρ 15 + (-1) := zAllA hf 3
  obtain ⟨w_0, w_1, w_2, w_3, w_4, w_5, w_6, w_7, w_8, w_9, w_10, w_11⟩ : (¬ (ρ 15 ≥ ρ 18)) ∧ (¬ (ρ 17 ≠ 0)) ∧ (ρ 3 ≤ 2) ∧ (ρ 3 ≠ 1) ∧ (¬ (0 ≥ ρ 21)) ∧ (ρ 22 ≠ 3) ∧ (¬ (1 ≥ ρ 21)) ∧ (¬ (ρ 24 ≠ 3)) ∧ (¬ (2 ≥ ρ 21)) ∧ (ρ 25 ≠ 3) ∧ (¬ (3 ≥ ρ 21)) ∧ (ρ 27 ≠ 3) := ⟨by omega, by omega, by omega, by omega, by omega, by omega, by omega, by omega, by omega, by omega, by omega, by omega⟩
  have m2 : γ 0 71 0 (ρ 0) = ρ 3 := zAllA hm 2
  have m6 : γ 0 69 0 (ρ 0) = ρ 7 := zAllA hm 6
  have m15 : γ 1 15 0 77 = ρ 17 := zAllA hm 15
  have m16 : γ 1 15 0 90 = ρ 18 := zAllA hm 16
  have m19 : γ 1 107 0 (ρ 15) = ρ 20 := zAllA hm 19
  have m20 : γ 0 66 0 (ρ 7) = ρ 21 := zAllA hm 20
  have m21 : γ 0 70 0 (4 * ρ 0) = ρ 22 := zAllA hm 21
  have m22 : γ 1 105 0 (4 * ρ 15) = ρ 23 := zAllA hm 22
  have m23 : γ 0 70 0 (4 * ρ 0 + 1) = ρ 24 := zAllA hm 23
  have m24 : γ 0 70 0 (4 * ρ 0 + 2) = ρ 25 := zAllA hm 24
  have m25 : γ 1 105 0 (4 * ρ 15 + 2) = ρ 26 := zAllA hm 25
  have m26 : γ 0 70 0 (4 * ρ 0 + 3) = ρ 27 := zAllA hm 26
  have m27 : γ 1 105 0 (4 * ρ 15 + 3) = ρ 28 := zAllA hm 27
  have c2 : γ 2 = rUp (γ 1) 102 0 0 (ρ 23) := And.right (zChA hc 4)
  have c3 : γ 3 = rUp (γ 2) 102 0 1 (ρ 20) := And.right (zChA hc 3)
  have c4 : γ 4 = rUp (γ 3) 102 0 2 (ρ 26) := And.right (zChA hc 2)
  have c5 : γ 5 = rUp (γ 4) 102 0 3 (ρ 28) := And.right (zChA hc 1)
  have l0 : sn57 [ρ 7, ρ 0, ρ 2, ρ 19, ρ 29, ρ 30, ρ 31, ρ 10, ρ 17] (γ 5) 0 0 (γ 6) := hS57 _ _ _ _ _ (zAllA hl 0)
  show jn75 [ρ 0, ρ 1, ρ 2, ρ 3, ρ 4, ρ 5, ρ 6, ρ 7, ρ 8, ρ 9, ρ 10, ρ 11, ρ 12, ρ 13, ρ 14] (γ 0) 0 [ρ 0, ρ 1, ρ 2, ρ 3, ρ 4, ρ 5, ρ 6, ρ 7, ρ 8, ρ 9, ρ 10, ρ 11, ρ 12, ρ 13, ρ 14, ρ 15 + 1, ρ 16, ρ 36, ρ 18, ρ 32] (γ 6)
  have hD : en75 (γ 0) (0, [ρ 0, ρ 15], γ 1) = .inl (0, [ρ 0, ρ 15 + 1], γ 6) := by
    unfold en75
    refine zIP (show (0 : Nat) = 0 by decide) (zLV (γ 1) rfl (zLV (ρ 0) rfl (zLV (ρ 15) rfl (zLE m2 (zLE m6 (zLE m15 (zLE m16 ?_)))))))
    refine zIN w_0 (zIN w_1 (zIP w_2 (zIP w_3 (zLE m19 (zLE m20 (zIN w_4 (zLE m21 ?_)))))))
    refine zIP w_5 (zLE m22 (zLE c2.symm (zIN w_6 (zLE m23 (zIN w_7 (zLE c3.symm (zIN w_8 ?_)))))))
    refine zLE m24 (zIP w_9 (zLE m25 (zLE c4.symm (zIN w_10 (zLE m26 (zIP w_11 (zLE m27 ?_)))))))
    refine zLE c5.symm (zLE (show fn57 [ρ 7, ρ 0] (γ 5) = (0, 0, γ 6) from l0.symm) (zLV (γ 6) rfl ?_))
    rfl
  exact zGoo_ato hJ hD
theorem vn75a0_14 {S : Nat → zSpc} (hS57 : zIm S 57 sn57) (hS73 : zIm S 73 sn73) {a : List Int} {g : rHp} : ∀ (ρ : Nat → Int) (γ : Nat → rHp), jn75 a g 0 (zAg (zNA a75_ 0) ρ) (γ 1) → zO 15 S a g q75a0_14 ρ γ → zGl (fun i vs g1 => jn75 a g i vs g1) (sn75 a g) q75a0_14 ρ γ := by
  intro ρ γ hJ h
  obtain ⟨ha, hg, hr, hf, hm, hc, hl⟩ := h
  have ha : a = [ρ 0, ρ 1, ρ 2, ρ 3, ρ 4, ρ 5, ρ 6, ρ 7, ρ 8, ρ 9, ρ 10, ρ 11, ρ 12, ρ 13, ρ 14] := ha
  subst ha
  subst hg
  have hJ : jn75 [ρ 0, ρ 1, ρ 2, ρ 3, ρ 4, ρ 5, ρ 6, ρ 7, ρ 8, ρ 9, ρ 10, ρ 11, ρ 12, ρ 13, ρ 14] (γ 0) 0 [ρ 0, ρ 1, ρ 2, ρ 3, ρ 4, ρ 5, ρ 6, ρ 7, ρ 8, ρ 9, ρ 10, ρ 11, ρ 12, ρ 13, ρ 14, ρ 15, ρ 16, ρ 17, ρ 18, ρ 19] (γ 1) := hJ
  have r3 : (2 : Int) ≤ ρ 3 ∧ ρ 3 ≤ 2 := zRnA hr 3
  have r17 : (0 : Int) ≤ ρ 17 ∧ ρ 17 ≤ 0 := zRnA hr 17
  have r21 : (4 : Int) ≤ ρ 21 ∧ ρ 21 ≤ 4 := zRnA hr 21
  have r22 : (0 : Int) ≤ ρ 22 ∧ ρ 22 ≤ 2 := zRnA hr 22
  have r24 : (3 : Int) ≤ ρ 24 ∧ ρ 24 ≤ 3 := zRnA hr 24
  have r25 : (0 : Int) ≤ ρ 25 ∧ ρ 25 ≤ 2 := zRnA hr 25
  have r27 : (3 : Int) ≤ ρ 27 ∧ ρ 27 ≤ 3 := zRnA hr 27
  have f3 : (0 : Int) ≤ ρ 18 + -ρ 15 + (-1) := zAllA hf 3
  obtain ⟨w_0, w_1, w_2, w_3, w_4, w_5, w_6, w_7, w_8, w_9, w_10, w_11⟩ : (¬ (ρ 15 ≥ ρ 18)) ∧ (¬ (ρ 17 ≠ 0)) ∧ (ρ 3 ≤ 2) ∧ (ρ 3 ≠ 1) ∧ (¬ (0 ≥ ρ 21)) ∧ (ρ 22 ≠ 3) ∧ (¬ (1 ≥ ρ 21)) ∧ (¬ (ρ 24 ≠ 3)) ∧ (¬ (2 ≥ ρ 21)) ∧ (ρ 25 ≠ 3) ∧ (¬ (3 ≥ ρ 21)) ∧ (¬ (ρ 27 ≠ 3)) := ⟨by omega, by omega, by omega, by omega, by omega, by omega, by omega, by omega, by omega, by omega, by omega, by omega⟩
  have m2 : γ 0 71 0 (ρ 0) = ρ 3 := zAllA hm 2
  have m6 : γ 0 69 0 (ρ 0) = ρ 7 := zAllA hm 6
  have m15 : γ 1 15 0 77 = ρ 17 := zAllA hm 15
  have m16 : γ 1 15 0 90 = ρ 18 := zAllA hm 16
  have m19 : γ 1 107 0 (ρ 15) = ρ 20 := zAllA hm 19
  have m20 : γ 0 66 0 (ρ 7) = ρ 21 := zAllA hm 20
  have m21 : γ 0 70 0 (4 * ρ 0) = ρ 22 := zAllA hm 21
  have m22 : γ 1 105 0 (4 * ρ 15) = ρ 23 := zAllA hm 22
  have m23 : γ 0 70 0 (4 * ρ 0 + 1) = ρ 24 := zAllA hm 23
  have m24 : γ 0 70 0 (4 * ρ 0 + 2) = ρ 25 := zAllA hm 24
  have m25 : γ 1 105 0 (4 * ρ 15 + 2) = ρ 26 := zAllA hm 25
  have m26 : γ 0 70 0 (4 * ρ 0 + 3) = ρ 27 := zAllA hm 26
  have c2 : γ 2 = rUp (γ 1) 102 0 0 (ρ 23) := And.right (zChA hc 4)
  have c3 : γ 3 = rUp (γ 2) 102 0 1 (ρ 20) := And.right (zChA hc 3)
  have c4 : γ 4 = rUp (γ 3) 102 0 2 (ρ 26) := And.right (zChA hc 2)
  have c5 : γ 5 = rUp (γ 4) 102 0 3 (ρ 20) := And.right (zChA hc 1)
  have l0 : sn57 [ρ 7, ρ 0, ρ 2, ρ 19, ρ 28, ρ 29, ρ 30, ρ 10, ρ 17] (γ 5) 0 0 (γ 6) := hS57 _ _ _ _ _ (zAllA hl 0)
  show jn75 [ρ 0, ρ 1, ρ 2, ρ 3, ρ 4, ρ 5, ρ 6, ρ 7, ρ 8, ρ 9, ρ 10, ρ 11, ρ 12, ρ 13, ρ 14] (γ 0) 0 [ρ 0, ρ 1, ρ 2, ρ 3, ρ 4, ρ 5, ρ 6, ρ 7, ρ 8, ρ 9, ρ 10, ρ 11, ρ 12, ρ 13, ρ 14, ρ 15 + 1, ρ 16, ρ 35, ρ 18, ρ 31] (γ 6)
  have hD : en75 (γ 0) (0, [ρ 0, ρ 15], γ 1) = .inl (0, [ρ 0, ρ 15 + 1], γ 6) := by
    unfold en75
    refine zIP (show (0 : Nat) = 0 by decide) (zLV (γ 1) rfl (zLV (ρ 0) rfl (zLV (ρ 15) rfl (zLE m2 (zLE m6 (zLE m15 (zLE m16 ?_)))))))
    refine zIN w_0 (zIN w_1 (zIP w_2 (zIP w_3 (zLE m19 (zLE m20 (zIN w_4 (zLE m21 ?_)))))))
    refine zIP w_5 (zLE m22 (zLE c2.symm (zIN w_6 (zLE m23 (zIN w_7 (zLE c3.symm (zIN w_8 ?_)))))))
    refine zLE m24 (zIP w_9 (zLE m25 (zLE c4.symm (zIN w_10 (zLE m26 (zIN w_11 (zLE c5.symm ?_)))))))
    refine zLE (show fn57 [ρ 7, ρ 0] (γ 5) = (0, 0, γ 6) from l0.symm) (zLV (γ 6) rfl ?_)
    rfl
  exact zGoo_ato hJ hD
theorem vn75a0_15 {S : Nat → zSpc} (hS57 : zIm S 57 sn57) (hS73 : zIm S 73 sn73) {a : List Int} {g : rHp} : ∀ (ρ : Nat → Int) (γ : Nat → rHp), jn75 a g 0 (zAg (zNA a75_ 0) ρ) (γ 1) → zO 15 S a g q75a0_15 ρ γ → zGl (fun i vs g1 => jn75 a g i vs g1) (sn75 a g) q75a0_15 ρ γ := by
  intro ρ γ hJ h
  obtain ⟨ha, hg, hr, hf, hm, hc, hl⟩ := h
  have ha : a = [ρ 0, ρ 1, ρ 2, ρ 3, ρ 4, ρ 5, ρ 6, ρ 7, ρ 8, ρ 9, ρ 10, ρ 11, ρ 12, ρ 13, ρ 14] := ha
  subst ha
  subst hg
  have hJ : jn75 [ρ 0, ρ 1, ρ 2, ρ 3, ρ 4, ρ 5, ρ 6, ρ 7, ρ 8, ρ 9, ρ 10, ρ 11, ρ 12, ρ 13, ρ 14] (γ 0) 0 [ρ 0, ρ 1, ρ 2, ρ 3, ρ 4, ρ 5, ρ 6, ρ 7, ρ 8, ρ 9, ρ 10, ρ 11, ρ 12, ρ 13, ρ 14, ρ 15, ρ 16, ρ 17, ρ 18, ρ 19] (γ 1) := hJ
  have r3 : (2 : Int) ≤ ρ 3 ∧ ρ 3 ≤ 2 := zRnA hr 3
  have r17 : (0 : Int) ≤ ρ 17 ∧ ρ 17 ≤ 0 := zRnA hr 17
  have r21 : (3 : Int) ≤ ρ 21 ∧ ρ 21 ≤ 3 := zRnA hr 21
  have r22 : (0 : Int) ≤ ρ 22 ∧ ρ 22 ≤ 2 := zRnA hr 22
  have r24 : (3 : Int) ≤ ρ 24 ∧ ρ 24 ≤ 3 := zRnA hr 24
  have r25 : (3 : Int) ≤ ρ 25 ∧ ρ 25 ≤ 3 := zRnA hr 25
  have f3 : (0 : Int) ≤ ρ 18 + -ρ 15 + (-1) := zAllA hf 3
  obtain ⟨w_0, w_1, w_2, w_3, w_4, w_5, w_6, w_7, w_8, w_9, w_10⟩ : (¬ (ρ 15 ≥ ρ 18)) ∧ (¬ (ρ 17 ≠ 0)) ∧ (ρ 3 ≤ 2) ∧ (ρ 3 ≠ 1) ∧ (¬ (0 ≥ ρ 21)) ∧ (ρ 22 ≠ 3) ∧ (¬ (1 ≥ ρ 21)) ∧ (¬ (ρ 24 ≠ 3)) ∧ (¬ (2 ≥ ρ 21)) ∧ (¬ (ρ 25 ≠ 3)) ∧ (3 ≥ ρ 21) := ⟨by omega, by omega, by omega, by omega, by omega, by omega, by omega, by omega, by omega, by omega, by omega⟩
  have m2 : γ 0 71 0 (ρ 0) = ρ 3 := zAllA hm 2
  have m6 : γ 0 69 0 (ρ 0) = ρ 7 := zAllA hm 6
  have m15 : γ 1 15 0 77 = ρ 17 := zAllA hm 15
  have m16 : γ 1 15 0 90 = ρ 18 := zAllA hm 16
  have m19 : γ 1 107 0 (ρ 15) = ρ 20 := zAllA hm 19
  have m20 : γ 0 66 0 (ρ 7) = ρ 21 := zAllA hm 20
  have m21 : γ 0 70 0 (4 * ρ 0) = ρ 22 := zAllA hm 21
  have m22 : γ 1 105 0 (4 * ρ 15) = ρ 23 := zAllA hm 22
  have m23 : γ 0 70 0 (4 * ρ 0 + 1) = ρ 24 := zAllA hm 23
  have m24 : γ 0 70 0 (4 * ρ 0 + 2) = ρ 25 := zAllA hm 24
  have m25 : γ 1 105 0 (4 * ρ 15 + 3) = ρ 26 := zAllA hm 25
  have c2 : γ 2 = rUp (γ 1) 102 0 0 (ρ 23) := And.right (zChA hc 4)
  have c3 : γ 3 = rUp (γ 2) 102 0 1 (ρ 20) := And.right (zChA hc 3)
  have c4 : γ 4 = rUp (γ 3) 102 0 2 (ρ 20) := And.right (zChA hc 2)
  have c5 : γ 5 = rUp (γ 4) 102 0 3 (ρ 26) := And.right (zChA hc 1)
  have l0 : sn57 [ρ 7, ρ 0, ρ 2, ρ 19, ρ 27, ρ 28, ρ 29, ρ 10, ρ 17] (γ 5) 0 0 (γ 6) := hS57 _ _ _ _ _ (zAllA hl 0)
  show jn75 [ρ 0, ρ 1, ρ 2, ρ 3, ρ 4, ρ 5, ρ 6, ρ 7, ρ 8, ρ 9, ρ 10, ρ 11, ρ 12, ρ 13, ρ 14] (γ 0) 0 [ρ 0, ρ 1, ρ 2, ρ 3, ρ 4, ρ 5, ρ 6, ρ 7, ρ 8, ρ 9, ρ 10, ρ 11, ρ 12, ρ 13, ρ 14, ρ 15 + 1, ρ 16, ρ 34, ρ 18, ρ 30] (γ 6)
  have hD : en75 (γ 0) (0, [ρ 0, ρ 15], γ 1) = .inl (0, [ρ 0, ρ 15 + 1], γ 6) := by
    unfold en75
    refine zIP (show (0 : Nat) = 0 by decide) (zLV (γ 1) rfl (zLV (ρ 0) rfl (zLV (ρ 15) rfl (zLE m2 (zLE m6 (zLE m15 (zLE m16 ?_)))))))
    refine zIN w_0 (zIN w_1 (zIP w_2 (zIP w_3 (zLE m19 (zLE m20 (zIN w_4 (zLE m21 ?_)))))))
    refine zIP w_5 (zLE m22 (zLE c2.symm (zIN w_6 (zLE m23 (zIN w_7 (zLE c3.symm (zIN w_8 ?_)))))))
    refine zLE m24 (zIN w_9 (zLE c4.symm (zIP w_10 (zLE m25 (zLE c5.symm (zLE (show fn57 [ρ 7, ρ 0] (γ 5) = (0, 0, γ 6) from l0.symm) (zLV (γ 6) rfl ?_)))))))
    rfl
  exact zGoo_ato hJ hD
theorem vn75a0_16 {S : Nat → zSpc} (hS57 : zIm S 57 sn57) (hS73 : zIm S 73 sn73) {a : List Int} {g : rHp} : ∀ (ρ : Nat → Int) (γ : Nat → rHp), jn75 a g 0 (zAg (zNA a75_ 0) ρ) (γ 1) → zO 15 S a g q75a0_16 ρ γ → zGl (fun i vs g1 => jn75 a g i vs g1) (sn75 a g) q75a0_16 ρ γ := by
  intro ρ γ hJ h
  obtain ⟨ha, hg, hr, hf, hm, hc, hl⟩ := h
  have ha : a = [ρ 0, ρ 1, ρ 2, ρ 3, ρ 4, ρ 5, ρ 6, ρ 7, ρ 8, ρ 9, ρ 10, ρ 11, ρ 12, ρ 13, ρ 14] := ha
  subst ha
  subst hg
  have hJ : jn75 [ρ 0, ρ 1, ρ 2, ρ 3, ρ 4, ρ 5, ρ 6, ρ 7, ρ 8, ρ 9, ρ 10, ρ 11, ρ 12, ρ 13, ρ 14] (γ 0) 0 [ρ 0, ρ 1, ρ 2, ρ 3, ρ 4, ρ 5, ρ 6, ρ 7, ρ 8, ρ 9, ρ 10, ρ 11, ρ 12, ρ 13, ρ 14, ρ 15, ρ 16, ρ 17, ρ 18, ρ 19] (γ 1) := hJ
  have r3 : (2 : Int) ≤ ρ 3 ∧ ρ 3 ≤ 2 := zRnA hr 3
  have r17 : (0 : Int) ≤ ρ 17 ∧ ρ 17 ≤ 0 := zRnA hr 17
  have r21 : (4 : Int) ≤ ρ 21 ∧ ρ 21 ≤ 4 := zRnA hr 21
  have r22 : (0 : Int) ≤ ρ 22 ∧ ρ 22 ≤ 2 := zRnA hr 22
  have r24 : (3 : Int) ≤ ρ 24 ∧ ρ 24 ≤ 3 := zRnA hr 24
  have r25 : (3 : Int) ≤ ρ 25 ∧ ρ 25 ≤ 3 := zRnA hr 25
  have r26 : (0 : Int) ≤ ρ 26 ∧ ρ 26 ≤ 2 := zRnA hr 26
  have f3 : (0 : Int) ≤ ρ 18 + -ρ 15 + (-1) := zAllA hf 3
  obtain ⟨w_0, w_1, w_2, w_3, w_4, w_5, w_6, w_7, w_8, w_9, w_10, w_11⟩ : (¬ (ρ 15 ≥ ρ 18)) ∧ (¬ (ρ 17 ≠ 0)) ∧ (ρ 3 ≤ 2) ∧ (ρ 3 ≠ 1) ∧ (¬ (0 ≥ ρ 21)) ∧ (ρ 22 ≠ 3) ∧ (¬ (1 ≥ ρ 21)) ∧ (¬ (ρ 24 ≠ 3)) ∧ (¬ (2 ≥ ρ 21)) ∧ (¬ (ρ 25 ≠ 3)) ∧ (¬ (3 ≥ ρ 21)) ∧ (ρ 26 ≠ 3) := ⟨by omega, by omega, by omega, by omega, by omega, by omega, by omega, by omega, by omega, by omega, by omega, by omega⟩
  have m2 : γ 0 71 0 (ρ 0) = ρ 3 := zAllA hm 2
  have m6 : γ 0 69 0 (ρ 0) = ρ 7 := zAllA hm 6
  have m15 : γ 1 15 0 77 = ρ 17 := zAllA hm 15
  have m16 : γ 1 15 0 90 = ρ 18 := zAllA hm 16
  have m19 : γ 1 107 0 (ρ 15) = ρ 20 := zAllA hm 19
  have m20 : γ 0 66 0 (ρ 7) = ρ 21 := zAllA hm 20
  have m21 : γ 0 70 0 (4 * ρ 0) = ρ 22 := zAllA hm 21
  have m22 : γ 1 105 0 (4 * ρ 15) = ρ 23 := zAllA hm 22
  have m23 : γ 0 70 0 (4 * ρ 0 + 1) = ρ 24 := zAllA hm 23
  have m24 : γ 0 70 0 (4 * ρ 0 + 2) = ρ 25 := zAllA hm 24
  have m25 : γ 0 70 0 (4 * ρ 0 + 3) = ρ 26 := zAllA hm 25
  have m26 : γ 1 105 0 (4 * ρ 15 + 3) = ρ 27 := zAllA hm 26
  have c2 : γ 2 = rUp (γ 1) 102 0 0 (ρ 23) := And.right (zChA hc 4)
  have c3 : γ 3 = rUp (γ 2) 102 0 1 (ρ 20) := And.right (zChA hc 3)
  have c4 : γ 4 = rUp (γ 3) 102 0 2 (ρ 20) := And.right (zChA hc 2)
  have c5 : γ 5 = rUp (γ 4) 102 0 3 (ρ 27) := And.right (zChA hc 1)
  have l0 : sn57 [ρ 7, ρ 0, ρ 2, ρ 19, ρ 28, ρ 29, ρ 30, ρ 10, ρ 17] (γ 5) 0 0 (γ 6) := hS57 _ _ _ _ _ (zAllA hl 0)
  show jn75 [ρ 0, ρ 1, ρ 2, ρ 3, ρ 4, ρ 5, ρ 6, ρ 7, ρ 8, ρ 9, ρ 10, ρ 11, ρ 12, ρ 13, ρ 14] (γ 0) 0 [ρ 0, ρ 1, ρ 2, ρ 3, ρ 4, ρ 5, ρ 6, ρ 7, ρ 8, ρ 9, ρ 10, ρ 11, ρ 12, ρ 13, ρ 14, ρ 15 + 1, ρ 16, ρ 35, ρ 18, ρ 31] (γ 6)
  have hD : en75 (γ 0) (0, [ρ 0, ρ 15], γ 1) = .inl (0, [ρ 0, ρ 15 + 1], γ 6) := by
    unfold en75
    refine zIP (show (0 : Nat) = 0 by decide) (zLV (γ 1) rfl (zLV (ρ 0) rfl (zLV (ρ 15) rfl (zLE m2 (zLE m6 (zLE m15 (zLE m16 ?_)))))))
    refine zIN w_0 (zIN w_1 (zIP w_2 (zIP w_3 (zLE m19 (zLE m20 (zIN w_4 (zLE m21 ?_)))))))
    refine zIP w_5 (zLE m22 (zLE c2.symm (zIN w_6 (zLE m23 (zIN w_7 (zLE c3.symm (zIN w_8 ?_)))))))
    refine zLE m24 (zIN w_9 (zLE c4.symm (zIN w_10 (zLE m25 (zIP w_11 (zLE m26 (zLE c5.symm ?_)))))))
    refine zLE (show fn57 [ρ 7, ρ 0] (γ 5) = (0, 0, γ 6) from l0.symm) (zLV (γ 6) rfl ?_)
    rfl
  exact zGoo_ato hJ hD
theorem vn75a0_17 {S : Nat → zSpc} (hS57 : zIm S 57 sn57) (hS73 : zIm S 73 sn73) {a : List Int} {g : rHp} : ∀ (ρ : Nat → Int) (γ : Nat → rHp), jn75 a g 0 (zAg (zNA a75_ 0) ρ) (γ 1) → zO 15 S a g q75a0_17 ρ γ → zGl (fun i vs g1 => jn75 a g i vs g1) (sn75 a g) q75a0_17 ρ γ := by
  intro ρ γ hJ h
  obtain ⟨ha, hg, hr, hf, hm, hc, hl⟩ := h
  have ha : a = [ρ 0, ρ 1, ρ 2, ρ 3, ρ 4, ρ 5, ρ 6, ρ 7, ρ 8, ρ 9, ρ 10, ρ 11, ρ 12, ρ 13, ρ 14] := ha
  subst ha
  subst hg
  have hJ : jn75 [ρ 0, ρ 1, ρ 2, ρ 3, ρ 4, ρ 5, ρ 6, ρ 7, ρ 8, ρ 9, ρ 10, ρ 11, ρ 12, ρ 13, ρ 14] (γ 0) 0 [ρ 0, ρ 1, ρ 2, ρ 3, ρ 4, ρ 5, ρ 6, ρ 7, ρ 8, ρ 9, ρ 10, ρ 11, ρ 12, ρ 13, ρ 14, ρ 15, ρ 16, ρ 17, ρ 18, ρ 19] (γ 1) := hJ
  have r3 : (2 : Int) ≤ ρ 3 ∧ ρ 3 ≤ 2 := zRnA hr 3
  have r17 : (0 : Int) ≤ ρ 17 ∧ ρ 17 ≤ 0 := zRnA hr 17
  have r21 : (4 : Int) ≤ ρ 21 ∧ ρ 21 ≤ 4 := zRnA hr 21
  have r22 : (0 : Int) ≤ ρ 22 ∧ ρ 22 ≤ 2 := zRnA hr 22
  have r24 : (3 : Int) ≤ ρ 24 ∧ ρ 24 ≤ 3 := zRnA hr 24
  have r25 : (3 : Int) ≤ ρ 25 ∧ ρ 25 ≤ 3 := zRnA hr 25
  have r26 : (3 : Int) ≤ ρ 26 ∧ ρ 26 ≤ 3 := zRnA hr 26
  have f3 : (0 : Int) ≤ ρ 18 + -ρ 15 + (-1) := zAllA hf 3
  obtain ⟨w_0, w_1, w_2, w_3, w_4, w_5, w_6, w_7, w_8, w_9, w_10, w_11⟩ : (¬ (ρ 15 ≥ ρ 18)) ∧ (¬ (ρ 17 ≠ 0)) ∧ (ρ 3 ≤ 2) ∧ (ρ 3 ≠ 1) ∧ (¬ (0 ≥ ρ 21)) ∧ (ρ 22 ≠ 3) ∧ (¬ (1 ≥ ρ 21)) ∧ (¬ (ρ 24 ≠ 3)) ∧ (¬ (2 ≥ ρ 21)) ∧ (¬ (ρ 25 ≠ 3)) ∧ (¬ (3 ≥ ρ 21)) ∧ (¬ (ρ 26 ≠ 3)) := ⟨by omega, by omega, by omega, by omega, by omega, by omega, by omega, by omega, by omega, by omega, by omega, by omega⟩
  have m2 : γ 0 71 0 (ρ 0) = ρ 3 := zAllA hm 2
  have m6 : γ 0 69 0 (ρ 0) = ρ 7 := zAllA hm 6
  have m15 : γ 1 15 0 77 = ρ 17 := zAllA hm 15
  have m16 : γ 1 15 0 90 = ρ 18 := zAllA hm 16
  have m19 : γ 1 107 0 (ρ 15) = ρ 20 := zAllA hm 19
  have m20 : γ 0 66 0 (ρ 7) = ρ 21 := zAllA hm 20
  have m21 : γ 0 70 0 (4 * ρ 0) = ρ 22 := zAllA hm 21
  have m22 : γ 1 105 0 (4 * ρ 15) = ρ 23 := zAllA hm 22
  have m23 : γ 0 70 0 (4 * ρ 0 + 1) = ρ 24 := zAllA hm 23
  have m24 : γ 0 70 0 (4 * ρ 0 + 2) = ρ 25 := zAllA hm 24
  have m25 : γ 0 70 0 (4 * ρ 0 + 3) = ρ 26 := zAllA hm 25
  have c2 : γ 2 = rUp (γ 1) 102 0 0 (ρ 23) := And.right (zChA hc 4)
  have c3 : γ 3 = rUp (γ 2) 102 0 1 (ρ 20) := And.right (zChA hc 3)
  have c4 : γ 4 = rUp (γ 3) 102 0 2 (ρ 20) := And.right (zChA hc 2)
  have c5 : γ 5 = rUp (γ 4) 102 0 3 (ρ 20) := And.right (zChA hc 1)
  have l0 : sn57 [ρ 7, ρ 0, ρ 2, ρ 19, ρ 27, ρ 28, ρ 29, ρ 10, ρ 17] (γ 5) 0 0 (γ 6) := hS57 _ _ _ _ _ (zAllA hl 0)
  show jn75 [ρ 0, ρ 1, ρ 2, ρ 3, ρ 4, ρ 5, ρ 6, ρ 7, ρ 8, ρ 9, ρ 10, ρ 11, ρ 12, ρ 13, ρ 14] (γ 0) 0 [ρ 0, ρ 1, ρ 2, ρ 3, ρ 4, ρ 5, ρ 6, ρ 7, ρ 8, ρ 9, ρ 10, ρ 11, ρ 12, ρ 13, ρ 14, ρ 15 + 1, ρ 16, ρ 34, ρ 18, ρ 30] (γ 6)
  have hD : en75 (γ 0) (0, [ρ 0, ρ 15], γ 1) = .inl (0, [ρ 0, ρ 15 + 1], γ 6) := by
    unfold en75
    refine zIP (show (0 : Nat) = 0 by decide) (zLV (γ 1) rfl (zLV (ρ 0) rfl (zLV (ρ 15) rfl (zLE m2 (zLE m6 (zLE m15 (zLE m16 ?_)))))))
    refine zIN w_0 (zIN w_1 (zIP w_2 (zIP w_3 (zLE m19 (zLE m20 (zIN w_4 (zLE m21 ?_)))))))
    refine zIP w_5 (zLE m22 (zLE c2.symm (zIN w_6 (zLE m23 (zIN w_7 (zLE c3.symm (zIN w_8 ?_)))))))
    refine zLE m24 (zIN w_9 (zLE c4.symm (zIN w_10 (zLE m25 (zIN w_11 (zLE c5.symm (zLE (show fn57 [ρ 7, ρ 0] (γ 5) = (0, 0, γ 6) from l0.symm) ?_)))))))
    refine zLV (γ 6) rfl ?_
    rfl
  exact zGoo_ato hJ hD
theorem vn75a0_18 {S : Nat → zSpc} (hS57 : zIm S 57 sn57) (hS73 : zIm S 73 sn73) {a : List Int} {g : rHp} : ∀ (ρ : Nat → Int) (γ : Nat → rHp), jn75 a g 0 (zAg (zNA a75_ 0) ρ) (γ 1) → zO 15 S a g q75a0_18 ρ γ → zGl (fun i vs g1 => jn75 a g i vs g1) (sn75 a g) q75a0_18 ρ γ := by
  intro ρ γ hJ h
  obtain ⟨ha, hg, hr, hf, hm, hc, hl⟩ := h
  have ha : a = [ρ 0, ρ 1, ρ 2, ρ 3, ρ 4, ρ 5, ρ 6, ρ 7, ρ 8, ρ 9, ρ 10, ρ 11, ρ 12, ρ 13, ρ 14] := ha
  subst ha
  subst hg
  have hJ : jn75 [ρ 0, ρ 1, ρ 2, ρ 3, ρ 4, ρ 5, ρ 6, ρ 7, ρ 8, ρ 9, ρ 10, ρ 11, ρ 12, ρ 13, ρ 14] (γ 0) 0 [ρ 0, ρ 1, ρ 2, ρ 3, ρ 4, ρ 5, ρ 6, ρ 7, ρ 8, ρ 9, ρ 10, ρ 11, ρ 12, ρ 13, ρ 14, ρ 15, ρ 16, ρ 17, ρ 18, ρ 19] (γ 1) := hJ
  have r3 : (2 : Int) ≤ ρ 3 ∧ ρ 3 ≤ 2 := zRnA hr 3
  have r17 : (0 : Int) ≤ ρ 17 ∧ ρ 17 ≤ 0 := zRnA hr 17
  have r21 : (1 : Int) ≤ ρ 21 ∧ ρ 21 ≤ 1 := zRnA hr 21
  have r22 : (3 : Int) ≤ ρ 22 ∧ ρ 22 ≤ 3 := zRnA hr 22
  have f3 : (0 : Int) ≤ ρ 18 + -ρ 15 + (-1) := zAllA hf 3
  obtain ⟨w_0, w_1, w_2, w_3, w_4, w_5, w_6⟩ : (¬ (ρ 15 ≥ ρ 18)) ∧ (¬ (ρ 17 ≠ 0)) ∧ (ρ 3 ≤ 2) ∧ (ρ 3 ≠ 1) ∧ (¬ (0 ≥ ρ 21)) ∧ (¬ (ρ 22 ≠ 3)) ∧ (1 ≥ ρ 21) := ⟨by omega, by omega, by omega, by omega, by omega, by omega, by omega⟩
  have m2 : γ 0 71 0 (ρ 0) = ρ 3 := zAllA hm 2
  have m6 : γ 0 69 0 (ρ 0) = ρ 7 := zAllA hm 6
  have m15 : γ 1 15 0 77 = ρ 17 := zAllA hm 15
  have m16 : γ 1 15 0 90 = ρ 18 := zAllA hm 16
  have m19 : γ 1 107 0 (ρ 15) = ρ 20 := zAllA hm 19
  have m20 : γ 0 66 0 (ρ 7) = ρ 21 := zAllA hm 20
  have m21 : γ 0 70 0 (4 * ρ 0) = ρ 22 := zAllA hm 21
  have m22 : γ 1 105 0 (4 * ρ 15 + 1) = ρ 23 := zAllA hm 22
  have m23 : γ 1 105 0 (4 * ρ 15 + 2) = ρ 24 := zAllA hm 23
  have m24 : γ 1 105 0 (4 * ρ 15 + 3) = ρ 25 := zAllA hm 24
  have c2 : γ 2 = rUp (γ 1) 102 0 0 (ρ 20) := And.right (zChA hc 4)
  have c3 : γ 3 = rUp (γ 2) 102 0 1 (ρ 23) := And.right (zChA hc 3)
  have c4 : γ 4 = rUp (γ 3) 102 0 2 (ρ 24) := And.right (zChA hc 2)
  have c5 : γ 5 = rUp (γ 4) 102 0 3 (ρ 25) := And.right (zChA hc 1)
  have l0 : sn57 [ρ 7, ρ 0, ρ 2, ρ 19, ρ 26, ρ 27, ρ 28, ρ 10, ρ 17] (γ 5) 0 0 (γ 6) := hS57 _ _ _ _ _ (zAllA hl 0)
  show jn75 [ρ 0, ρ 1, ρ 2, ρ 3, ρ 4, ρ 5, ρ 6, ρ 7, ρ 8, ρ 9, ρ 10, ρ 11, ρ 12, ρ 13, ρ 14] (γ 0) 0 [ρ 0, ρ 1, ρ 2, ρ 3, ρ 4, ρ 5, ρ 6, ρ 7, ρ 8, ρ 9, ρ 10, ρ 11, ρ 12, ρ 13, ρ 14, ρ 15 + 1, ρ 16, ρ 33, ρ 18, ρ 29] (γ 6)
  have hD : en75 (γ 0) (0, [ρ 0, ρ 15], γ 1) = .inl (0, [ρ 0, ρ 15 + 1], γ 6) := by
    unfold en75
    refine zIP (show (0 : Nat) = 0 by decide) (zLV (γ 1) rfl (zLV (ρ 0) rfl (zLV (ρ 15) rfl (zLE m2 (zLE m6 (zLE m15 (zLE m16 ?_)))))))
    refine zIN w_0 (zIN w_1 (zIP w_2 (zIP w_3 (zLE m19 (zLE m20 (zIN w_4 (zLE m21 ?_)))))))
    refine zIN w_5 (zLE c2.symm (zIP w_6 (zLE m22 (zLE c3.symm (zLE m23 (zLE c4.symm (zLE m24 ?_)))))))
    refine zLE c5.symm (zLE (show fn57 [ρ 7, ρ 0] (γ 5) = (0, 0, γ 6) from l0.symm) (zLV (γ 6) rfl ?_))
    rfl
  exact zGoo_ato hJ hD
theorem vn75a0_19 {S : Nat → zSpc} (hS57 : zIm S 57 sn57) (hS73 : zIm S 73 sn73) {a : List Int} {g : rHp} : ∀ (ρ : Nat → Int) (γ : Nat → rHp), jn75 a g 0 (zAg (zNA a75_ 0) ρ) (γ 1) → zO 15 S a g q75a0_19 ρ γ → zGl (fun i vs g1 => jn75 a g i vs g1) (sn75 a g) q75a0_19 ρ γ := by
  intro ρ γ hJ h
  obtain ⟨ha, hg, hr, hf, hm, hc, hl⟩ := h
  have ha : a = [ρ 0, ρ 1, ρ 2, ρ 3, ρ 4, ρ 5, ρ 6, ρ 7, ρ 8, ρ 9, ρ 10, ρ 11, ρ 12, ρ 13, ρ 14] := ha
  subst ha
  subst hg
  have hJ : jn75 [ρ 0, ρ 1, ρ 2, ρ 3, ρ 4, ρ 5, ρ 6, ρ 7, ρ 8, ρ 9, ρ 10, ρ 11, ρ 12, ρ 13, ρ 14] (γ 0) 0 [ρ 0, ρ 1, ρ 2, ρ 3, ρ 4, ρ 5, ρ 6, ρ 7, ρ 8, ρ 9, ρ 10, ρ 11, ρ 12, ρ 13, ρ 14, ρ 15, ρ 16, ρ 17, ρ 18, ρ 19] (γ 1) := hJ
  have r3 : (2 : Int) ≤ ρ 3 ∧ ρ 3 ≤ 2 := zRnA hr 3
  have r17 : (0 : Int) ≤ ρ 17 ∧ ρ 17 ≤ 0 := zRnA hr 17
  have r21 : (2 : Int) ≤ ρ 21 ∧ ρ 21 ≤ 2 := zRnA hr 21
  have r22 : (3 : Int) ≤ ρ 22 ∧ ρ 22 ≤ 3 := zRnA hr 22
  have r23 : (0 : Int) ≤ ρ 23 ∧ ρ 23 ≤ 2 := zRnA hr 23
  have f3 : (0 : Int) ≤ ρ 18 + -ρ 15 + (-1) := zAllA hf 3
  obtain ⟨w_0, w_1, w_2, w_3, w_4, w_5, w_6, w_7, w_8⟩ : (¬ (ρ 15 ≥ ρ 18)) ∧ (¬ (ρ 17 ≠ 0)) ∧ (ρ 3 ≤ 2) ∧ (ρ 3 ≠ 1) ∧ (¬ (0 ≥ ρ 21)) ∧ (¬ (ρ 22 ≠ 3)) ∧ (¬ (1 ≥ ρ 21)) ∧ (ρ 23 ≠ 3) ∧ (2 ≥ ρ 21) := ⟨by omega, by omega, by omega, by omega, by omega, by omega, by omega, by omega, by omega⟩
  have m2 : γ 0 71 0 (ρ 0) = ρ 3 := zAllA hm 2
  have m6 : γ 0 69 0 (ρ 0) = ρ 7 := zAllA hm 6
  have m15 : γ 1 15 0 77 = ρ 17 := zAllA hm 15
  have m16 : γ 1 15 0 90 = ρ 18 := zAllA hm 16
  have m19 : γ 1 107 0 (ρ 15) = ρ 20 := zAllA hm 19
  have m20 : γ 0 66 0 (ρ 7) = ρ 21 := zAllA hm 20
  have m21 : γ 0 70 0 (4 * ρ 0) = ρ 22 := zAllA hm 21
  have m22 : γ 0 70 0 (4 * ρ 0 + 1) = ρ 23 := zAllA hm 22
  have m23 : γ 1 105 0 (4 * ρ 15 + 1) = ρ 24 := zAllA hm 23
  have m24 : γ 1 105 0 (4 * ρ 15 + 2) = ρ 25 := zAllA hm 24
  have m25 : γ 1 105 0 (4 * ρ 15 + 3) = ρ 26 := zAllA hm 25
  have c2 : γ 2 = rUp (γ 1) 102 0 0 (ρ 20) := And.right (zChA hc 4)
  have c3 : γ 3 = rUp (γ 2) 102 0 1 (ρ 24) := And.right (zChA hc 3)
  have c4 : γ 4 = rUp (γ 3) 102 0 2 (ρ 25) := And.right (zChA hc 2)
  have c5 : γ 5 = rUp (γ 4) 102 0 3 (ρ 26) := And.right (zChA hc 1)
  have l0 : sn57 [ρ 7, ρ 0, ρ 2, ρ 19, ρ 27, ρ 28, ρ 29, ρ 10, ρ 17] (γ 5) 0 0 (γ 6) := hS57 _ _ _ _ _ (zAllA hl 0)
  show jn75 [ρ 0, ρ 1, ρ 2, ρ 3, ρ 4, ρ 5, ρ 6, ρ 7, ρ 8, ρ 9, ρ 10, ρ 11, ρ 12, ρ 13, ρ 14] (γ 0) 0 [ρ 0, ρ 1, ρ 2, ρ 3, ρ 4, ρ 5, ρ 6, ρ 7, ρ 8, ρ 9, ρ 10, ρ 11, ρ 12, ρ 13, ρ 14, ρ 15 + 1, ρ 16, ρ 34, ρ 18, ρ 30] (γ 6)
  have hD : en75 (γ 0) (0, [ρ 0, ρ 15], γ 1) = .inl (0, [ρ 0, ρ 15 + 1], γ 6) := by
    unfold en75
    refine zIP (show (0 : Nat) = 0 by decide) (zLV (γ 1) rfl (zLV (ρ 0) rfl (zLV (ρ 15) rfl (zLE m2 (zLE m6 (zLE m15 (zLE m16 ?_)))))))
    refine zIN w_0 (zIN w_1 (zIP w_2 (zIP w_3 (zLE m19 (zLE m20 (zIN w_4 (zLE m21 ?_)))))))
    refine zIN w_5 (zLE c2.symm (zIN w_6 (zLE m22 (zIP w_7 (zLE m23 (zLE c3.symm (zIP w_8 ?_)))))))
    refine zLE m24 (zLE c4.symm (zLE m25 (zLE c5.symm (zLE (show fn57 [ρ 7, ρ 0] (γ 5) = (0, 0, γ 6) from l0.symm) (zLV (γ 6) rfl ?_)))))
    rfl
  exact zGoo_ato hJ hD
theorem vn75a0_20 {S : Nat → zSpc} (hS57 : zIm S 57 sn57) (hS73 : zIm S 73 sn73) {a : List Int} {g : rHp} : ∀ (ρ : Nat → Int) (γ : Nat → rHp), jn75 a g 0 (zAg (zNA a75_ 0) ρ) (γ 1) → zO 15 S a g q75a0_20 ρ γ → zGl (fun i vs g1 => jn75 a g i vs g1) (sn75 a g) q75a0_20 ρ γ := by
  intro ρ γ hJ h
  obtain ⟨ha, hg, hr, hf, hm, hc, hl⟩ := h
  have ha : a = [ρ 0, ρ 1, ρ 2, ρ 3, ρ 4, ρ 5, ρ 6, ρ 7, ρ 8, ρ 9, ρ 10, ρ 11, ρ 12, ρ 13, ρ 14] := ha
  subst ha
  subst hg
  have hJ : jn75 [ρ 0, ρ 1, ρ 2, ρ 3, ρ 4, ρ 5, ρ 6, ρ 7, ρ 8, ρ 9, ρ 10, ρ 11, ρ 12, ρ 13, ρ 14] (γ 0) 0 [ρ 0, ρ 1, ρ 2, ρ 3, ρ 4, ρ 5, ρ 6, ρ 7, ρ 8, ρ 9, ρ 10, ρ 11, ρ 12, ρ 13, ρ 14, ρ 15, ρ 16, ρ 17, ρ 18, ρ 19] (γ 1) := hJ
  have r3 : (2 : Int) ≤ ρ 3 ∧ ρ 3 ≤ 2 := zRnA hr 3
  have r17 : (0 : Int) ≤ ρ 17 ∧ ρ 17 ≤ 0 := zRnA hr 17
  have r21 : (3 : Int) ≤ ρ 21 ∧ ρ 21 ≤ 3 := zRnA hr 21
  have r22 : (3 : Int) ≤ ρ 22 ∧ ρ 22 ≤ 3 := zRnA hr 22
  have r23 : (0 : Int) ≤ ρ 23 ∧ ρ 23 ≤ 2 := zRnA hr 23
  have r25 : (0 : Int) ≤ ρ 25 ∧ ρ 25 ≤ 2 := zRnA hr 25
  have f3 : (0 : Int) ≤ ρ 18 + -ρ 15 + (-1) := zAllA hf 3
  obtain ⟨w_0, w_1, w_2, w_3, w_4, w_5, w_6, w_7, w_8, w_9, w_10⟩ : (¬ (ρ 15 ≥ ρ 18)) ∧ (¬ (ρ 17 ≠ 0)) ∧ (ρ 3 ≤ 2) ∧ (ρ 3 ≠ 1) ∧ (¬ (0 ≥ ρ 21)) ∧ (¬ (ρ 22 ≠ 3)) ∧ (¬ (1 ≥ ρ 21)) ∧ (ρ 23 ≠ 3) ∧ (¬ (2 ≥ ρ 21)) ∧ (ρ 25 ≠ 3) ∧ (3 ≥ ρ 21) := ⟨by omega, by omega, by omega, by omega, by omega, by omega, by omega, by omega, by omega, by omega, by omega⟩
  have m2 : γ 0 71 0 (ρ 0) = ρ 3 := zAllA hm 2
  have m6 : γ 0 69 0 (ρ 0) = ρ 7 := zAllA hm 6
  have m15 : γ 1 15 0 77 = ρ 17 := zAllA hm 15
  have m16 : γ 1 15 0 90 = ρ 18 := zAllA hm 16
  have m19 : γ 1 107 0 (ρ 15) = ρ 20 := zAllA hm 19
  have m20 : γ 0 66 0 (ρ 7) = ρ 21 := zAllA hm 20
  have m21 : γ 0 70 0 (4 * ρ 0) = ρ 22 := zAllA hm 21
  have m22 : γ 0 70 0 (4 * ρ 0 + 1) = ρ 23 := zAllA hm 22
  have m23 : γ 1 105 0 (4 * ρ 15 + 1) = ρ 24 := zAllA hm 23
  have m24 : γ 0 70 0 (4 * ρ 0 + 2) = ρ 25 := zAllA hm 24
  have m25 : γ 1 105 0 (4 * ρ 15 + 2) = ρ 26 := zAllA hm 25
  have m26 : γ 1 105 0 (4 * ρ 15 + 3) = ρ 27 := zAllA hm 26
  have c2 : γ 2 = rUp (γ 1) 102 0 0 (ρ 20) := And.right (zChA hc 4)
  have c3 : γ 3 = rUp (γ 2) 102 0 1 (ρ 24) := And.right (zChA hc 3)
  have c4 : γ 4 = rUp (γ 3) 102 0 2 (ρ 26) := And.right (zChA hc 2)
  have c5 : γ 5 = rUp (γ 4) 102 0 3 (ρ 27) := And.right (zChA hc 1)
  have l0 : sn57 [ρ 7, ρ 0, ρ 2, ρ 19, ρ 28, ρ 29, ρ 30, ρ 10, ρ 17] (γ 5) 0 0 (γ 6) := hS57 _ _ _ _ _ (zAllA hl 0)
  show jn75 [ρ 0, ρ 1, ρ 2, ρ 3, ρ 4, ρ 5, ρ 6, ρ 7, ρ 8, ρ 9, ρ 10, ρ 11, ρ 12, ρ 13, ρ 14] (γ 0) 0 [ρ 0, ρ 1, ρ 2, ρ 3, ρ 4, ρ 5, ρ 6, ρ 7, ρ 8, ρ 9, ρ 10, ρ 11, ρ 12, ρ 13, ρ 14, ρ 15 + 1, ρ 16, ρ 35, ρ 18, ρ 31] (γ 6)
  have hD : en75 (γ 0) (0, [ρ 0, ρ 15], γ 1) = .inl (0, [ρ 0, ρ 15 + 1], γ 6) := by
    unfold en75
    refine zIP (show (0 : Nat) = 0 by decide) (zLV (γ 1) rfl (zLV (ρ 0) rfl (zLV (ρ 15) rfl (zLE m2 (zLE m6 (zLE m15 (zLE m16 ?_)))))))
    refine zIN w_0 (zIN w_1 (zIP w_2 (zIP w_3 (zLE m19 (zLE m20 (zIN w_4 (zLE m21 ?_)))))))
    refine zIN w_5 (zLE c2.symm (zIN w_6 (zLE m22 (zIP w_7 (zLE m23 (zLE c3.symm (zIN w_8 ?_)))))))
    refine zLE m24 (zIP w_9 (zLE m25 (zLE c4.symm (zIP w_10 (zLE m26 (zLE c5.symm (zLE (show fn57 [ρ 7, ρ 0] (γ 5) = (0, 0, γ 6) from l0.symm) ?_)))))))
    refine zLV (γ 6) rfl ?_
    rfl
  exact zGoo_ato hJ hD
theorem vn75a0_21 {S : Nat → zSpc} (hS57 : zIm S 57 sn57) (hS73 : zIm S 73 sn73) {a : List Int} {g : rHp} : ∀ (ρ : Nat → Int) (γ : Nat → rHp), jn75 a g 0 (zAg (zNA a75_ 0) ρ) (γ 1) → zO 15 S a g q75a0_21 ρ γ → zGl (fun i vs g1 => jn75 a g i vs g1) (sn75 a g) q75a0_21 ρ γ := by
  intro ρ γ hJ h
  obtain ⟨ha, hg, hr, hf, hm, hc, hl⟩ := h
  have ha : a = [ρ 0, ρ 1, ρ 2, ρ 3, ρ 4, ρ 5, ρ 6, ρ 7, ρ 8, ρ 9, ρ 10, ρ 11, ρ 12, ρ 13, ρ 14] := ha
  subst ha
  subst hg
  have hJ : jn75 [ρ 0, ρ 1, ρ 2, ρ 3, ρ 4, ρ 5, ρ 6, ρ 7, ρ 8, ρ 9, ρ 10, ρ 11, ρ 12, ρ 13, ρ 14] (γ 0) 0 [ρ 0, ρ 1, ρ 2, ρ 3, ρ 4, ρ 5, ρ 6, ρ 7, ρ 8, ρ 9, ρ 10, ρ 11, ρ 12, ρ 13, ρ 14, ρ 15, ρ 16, ρ 17, ρ 18, ρ 19] (γ 1) := hJ
  have r3 : (2 : Int) ≤ ρ 3 ∧ ρ 3 ≤ 2 := zRnA hr 3
  have r17 : (0 : Int) ≤ ρ 17 ∧ ρ 17 ≤ 0 := zRnA hr 17
  have r21 : (4 : Int) ≤ ρ 21 ∧ ρ 21 ≤ 4 := zRnA hr 21
  have r22 : (3 : Int) ≤ ρ 22 ∧ ρ 22 ≤ 3 := zRnA hr 22
  have r23 : (0 : Int) ≤ ρ 23 ∧ ρ 23 ≤ 2 := zRnA hr 23
  have r25 : (0 : Int) ≤ ρ 25 ∧ ρ 25 ≤ 2 := zRnA hr 25
  have r27 : (0 : Int) ≤ ρ 27 ∧ ρ 27 ≤ 2 := zRnA hr 27
  have f3 : (0 : Int) ≤ ρ 18 + -ρ 15 + (-1) := zAllA hf 3
  obtain ⟨w_0, w_1, w_2, w_3, w_4, w_5, w_6, w_7, w_8, w_9, w_10, w_11⟩ : (¬ (ρ 15 ≥ ρ 18)) ∧ (¬ (ρ 17 ≠ 0)) ∧ (ρ 3 ≤ 2) ∧ (ρ 3 ≠ 1) ∧ (¬ (0 ≥ ρ 21)) ∧ (¬ (ρ 22 ≠ 3)) ∧ (¬ (1 ≥ ρ 21)) ∧ (ρ 23 ≠ 3) ∧ (¬ (2 ≥ ρ 21)) ∧ (ρ 25 ≠ 3) ∧ (¬ (3 ≥ ρ 21)) ∧ (ρ 27 ≠ 3) := ⟨by omega, by omega, by omega, by omega, by omega, by omega, by omega, by omega, by omega, by omega, by omega, by omega⟩
  have m2 : γ 0 71 0 (ρ 0) = ρ 3 := zAllA hm 2
  have m6 : γ 0 69 0 (ρ 0) = ρ 7 := zAllA hm 6
  have m15 : γ 1 15 0 77 = ρ 17 := zAllA hm 15
  have m16 : γ 1 15 0 90 = ρ 18 := zAllA hm 16
  have m19 : γ 1 107 0 (ρ 15) = ρ 20 := zAllA hm 19
  have m20 : γ 0 66 0 (ρ 7) = ρ 21 := zAllA hm 20
  have m21 : γ 0 70 0 (4 * ρ 0) = ρ 22 := zAllA hm 21
  have m22 : γ 0 70 0 (4 * ρ 0 + 1) = ρ 23 := zAllA hm 22
  have m23 : γ 1 105 0 (4 * ρ 15 + 1) = ρ 24 := zAllA hm 23
  have m24 : γ 0 70 0 (4 * ρ 0 + 2) = ρ 25 := zAllA hm 24
  have m25 : γ 1 105 0 (4 * ρ 15 + 2) = ρ 26 := zAllA hm 25
  have m26 : γ 0 70 0 (4 * ρ 0 + 3) = ρ 27 := zAllA hm 26
  have m27 : γ 1 105 0 (4 * ρ 15 + 3) = ρ 28 := zAllA hm 27
  have c2 : γ 2 = rUp (γ 1) 102 0 0 (ρ 20) := And.right (zChA hc 4)
  have c3 : γ 3 = rUp (γ 2) 102 0 1 (ρ 24) := And.right (zChA hc 3)
  have c4 : γ 4 = rUp (γ 3) 102 0 2 (ρ 26) := And.right (zChA hc 2)
  have c5 : γ 5 = rUp (γ 4) 102 0 3 (ρ 28) := And.right (zChA hc 1)
  have l0 : sn57 [ρ 7, ρ 0, ρ 2, ρ 19, ρ 29, ρ 30, ρ 31, ρ 10, ρ 17] (γ 5) 0 0 (γ 6) := hS57 _ _ _ _ _ (zAllA hl 0)
  show jn75 [ρ 0, ρ 1, ρ 2, ρ 3, ρ 4, ρ 5, ρ 6, ρ 7, ρ 8, ρ 9, ρ 10, ρ 11, ρ 12, ρ 13, ρ 14] (γ 0) 0 [ρ 0, ρ 1, ρ 2, ρ 3, ρ 4, ρ 5, ρ 6, ρ 7, ρ 8, ρ 9, ρ 10, ρ 11, ρ 12, ρ 13, ρ 14, ρ 15 + 1, ρ 16, ρ 36, ρ 18, ρ 32] (γ 6)
  have hD : en75 (γ 0) (0, [ρ 0, ρ 15], γ 1) = .inl (0, [ρ 0, ρ 15 + 1], γ 6) := by
    unfold en75
    refine zIP (show (0 : Nat) = 0 by decide) (zLV (γ 1) rfl (zLV (ρ 0) rfl (zLV (ρ 15) rfl (zLE m2 (zLE m6 (zLE m15 (zLE m16 ?_)))))))
    refine zIN w_0 (zIN w_1 (zIP w_2 (zIP w_3 (zLE m19 (zLE m20 (zIN w_4 (zLE m21 ?_)))))))
    refine zIN w_5 (zLE c2.symm (zIN w_6 (zLE m22 (zIP w_7 (zLE m23 (zLE c3.symm (zIN w_8 ?_)))))))
    refine zLE m24 (zIP w_9 (zLE m25 (zLE c4.symm (zIN w_10 (zLE m26 (zIP w_11 (zLE m27 ?_)))))))
    refine zLE c5.symm (zLE (show fn57 [ρ 7, ρ 0] (γ 5) = (0, 0, γ 6) from l0.symm) (zLV (γ 6) rfl ?_))
    rfl
  exact zGoo_ato hJ hD
theorem vn75a0_22 {S : Nat → zSpc} (hS57 : zIm S 57 sn57) (hS73 : zIm S 73 sn73) {a : List Int} {g : rHp} : ∀ (ρ : Nat → Int) (γ : Nat → rHp), jn75 a g 0 (zAg (zNA a75_ 0) ρ) (γ 1) → zO 15 S a g q75a0_22 ρ γ → zGl (fun i vs g1 => jn75 a g i vs g1) (sn75 a g) q75a0_22 ρ γ := by
  intro ρ γ hJ h
  obtain ⟨ha, hg, hr, hf, hm, hc, hl⟩ := h
  have ha : a = [ρ 0, ρ 1, ρ 2, ρ 3, ρ 4, ρ 5, ρ 6, ρ 7, ρ 8, ρ 9, ρ 10, ρ 11, ρ 12, ρ 13, ρ 14] := ha
  subst ha
  subst hg
  have hJ : jn75 [ρ 0, ρ 1, ρ 2, ρ 3, ρ 4, ρ 5, ρ 6, ρ 7, ρ 8, ρ 9, ρ 10, ρ 11, ρ 12, ρ 13, ρ 14] (γ 0) 0 [ρ 0, ρ 1, ρ 2, ρ 3, ρ 4, ρ 5, ρ 6, ρ 7, ρ 8, ρ 9, ρ 10, ρ 11, ρ 12, ρ 13, ρ 14, ρ 15, ρ 16, ρ 17, ρ 18, ρ 19] (γ 1) := hJ
  have r3 : (2 : Int) ≤ ρ 3 ∧ ρ 3 ≤ 2 := zRnA hr 3
  have r17 : (0 : Int) ≤ ρ 17 ∧ ρ 17 ≤ 0 := zRnA hr 17
  have r21 : (4 : Int) ≤ ρ 21 ∧ ρ 21 ≤ 4 := zRnA hr 21
  have r22 : (3 : Int) ≤ ρ 22 ∧ ρ 22 ≤ 3 := zRnA hr 22
  have r23 : (0 : Int) ≤ ρ 23 ∧ ρ 23 ≤ 2 := zRnA hr 23
  have r25 : (0 : Int) ≤ ρ 25 ∧ ρ 25 ≤ 2 := zRnA hr 25
  have r27 : (3 : Int) ≤ ρ 27 ∧ ρ 27 ≤ 3 := zRnA hr 27
  have f3 : (0 : Int) ≤ ρ 18 + -ρ 15 + (-1) := zAllA hf 3
  obtain ⟨w_0, w_1, w_2, w_3, w_4, w_5, w_6, w_7, w_8, w_9, w_10, w_11⟩ : (¬ (ρ 15 ≥ ρ 18)) ∧ (¬ (ρ 17 ≠ 0)) ∧ (ρ 3 ≤ 2) ∧ (ρ 3 ≠ 1) ∧ (¬ (0 ≥ ρ 21)) ∧ (¬ (ρ 22 ≠ 3)) ∧ (¬ (1 ≥ ρ 21)) ∧ (ρ 23 ≠ 3) ∧ (¬ (2 ≥ ρ 21)) ∧ (ρ 25 ≠ 3) ∧ (¬ (3 ≥ ρ 21)) ∧ (¬ (ρ 27 ≠ 3)) := ⟨by omega, by omega, by omega, by omega, by omega, by omega, by omega, by omega, by omega, by omega, by omega, by omega⟩
  have m2 : γ 0 71 0 (ρ 0) = ρ 3 := zAllA hm 2
  have m6 : γ 0 69 0 (ρ 0) = ρ 7 := zAllA hm 6
  have m15 : γ 1 15 0 77 = ρ 17 := zAllA hm 15
  have m16 : γ 1 15 0 90 = ρ 18 := zAllA hm 16
  have m19 : γ 1 107 0 (ρ 15) = ρ 20 := zAllA hm 19
  have m20 : γ 0 66 0 (ρ 7) = ρ 21 := zAllA hm 20
  have m21 : γ 0 70 0 (4 * ρ 0) = ρ 22 := zAllA hm 21
  have m22 : γ 0 70 0 (4 * ρ 0 + 1) = ρ 23 := zAllA hm 22
  have m23 : γ 1 105 0 (4 * ρ 15 + 1) = ρ 24 := zAllA hm 23
  have m24 : γ 0 70 0 (4 * ρ 0 + 2) = ρ 25 := zAllA hm 24
  have m25 : γ 1 105 0 (4 * ρ 15 + 2) = ρ 26 := zAllA hm 25
  have m26 : γ 0 70 0 (4 * ρ 0 + 3) = ρ 27 := zAllA hm 26
  have c2 : γ 2 = rUp (γ 1) 102 0 0 (ρ 20) := And.right (zChA hc 4)
  have c3 : γ 3 = rUp (γ 2) 102 0 1 (ρ 24) := And.right (zChA hc 3)
  have c4 : γ 4 = rUp (γ 3) 102 0 2 (ρ 26) := And.right (zChA hc 2)
  have c5 : γ 5 = rUp (γ 4) 102 0 3 (ρ 20) := And.right (zChA hc 1)
  have l0 : sn57 [ρ 7, ρ 0, ρ 2, ρ 19, ρ 28, ρ 29, ρ 30, ρ 10, ρ 17] (γ 5) 0 0 (γ 6) := hS57 _ _ _ _ _ (zAllA hl 0)
  show jn75 [ρ 0, ρ 1, ρ 2, ρ 3, ρ 4, ρ 5, ρ 6, ρ 7, ρ 8, ρ 9, ρ 10, ρ 11, ρ 12, ρ 13, ρ 14] (γ 0) 0 [ρ 0, ρ 1, ρ 2, ρ 3, ρ 4, ρ 5, ρ 6, ρ 7, ρ 8, ρ 9, ρ 10, ρ 11, ρ 12, ρ 13, ρ 14, ρ 15 + 1, ρ 16, ρ 35, ρ 18, ρ 31] (γ 6)
  have hD : en75 (γ 0) (0, [ρ 0, ρ 15], γ 1) = .inl (0, [ρ 0, ρ 15 + 1], γ 6) := by
    unfold en75
    refine zIP (show (0 : Nat) = 0 by decide) (zLV (γ 1) rfl (zLV (ρ 0) rfl (zLV (ρ 15) rfl (zLE m2 (zLE m6 (zLE m15 (zLE m16 ?_)))))))
    refine zIN w_0 (zIN w_1 (zIP w_2 (zIP w_3 (zLE m19 (zLE m20 (zIN w_4 (zLE m21 ?_)))))))
    refine zIN w_5 (zLE c2.symm (zIN w_6 (zLE m22 (zIP w_7 (zLE m23 (zLE c3.symm (zIN w_8 ?_)))))))
    refine zLE m24 (zIP w_9 (zLE m25 (zLE c4.symm (zIN w_10 (zLE m26 (zIN w_11 (zLE c5.symm ?_)))))))
    refine zLE (show fn57 [ρ 7, ρ 0] (γ 5) = (0, 0, γ 6) from l0.symm) (zLV (γ 6) rfl ?_)
    rfl
  exact zGoo_ato hJ hD
theorem vn75a0_23 {S : Nat → zSpc} (hS57 : zIm S 57 sn57) (hS73 : zIm S 73 sn73) {a : List Int} {g : rHp} : ∀ (ρ : Nat → Int) (γ : Nat → rHp), jn75 a g 0 (zAg (zNA a75_ 0) ρ) (γ 1) → zO 15 S a g q75a0_23 ρ γ → zGl (fun i vs g1 => jn75 a g i vs g1) (sn75 a g) q75a0_23 ρ γ := by
  intro ρ γ hJ h
  obtain ⟨ha, hg, hr, hf, hm, hc, hl⟩ := h
  have ha : a = [ρ 0, ρ 1, ρ 2, ρ 3, ρ 4, ρ 5, ρ 6, ρ 7, ρ 8, ρ 9, ρ 10, ρ 11, ρ 12, ρ 13, ρ 14] := ha
  subst ha
  subst hg
  have hJ : jn75 [ρ 0, ρ 1, ρ 2, ρ 3, ρ 4, ρ 5, ρ 6, ρ 7, ρ 8, ρ 9, ρ 10, ρ 11, ρ 12, ρ 13, ρ 14] (γ 0) 0 [ρ 0, ρ 1, ρ 2, ρ 3, ρ 4, ρ 5, ρ 6, ρ 7, ρ 8, ρ 9, ρ 10, ρ 11, ρ 12, ρ 13, ρ 14, ρ 15, ρ 16, ρ 17, ρ 18, ρ 19] (γ 1) := hJ
  have r3 : (2 : Int) ≤ ρ 3 ∧ ρ 3 ≤ 2 := zRnA hr 3
  have r17 : (0 : Int) ≤ ρ 17 ∧ ρ 17 ≤ 0 := zRnA hr 17
  have r21 : (3 : Int) ≤ ρ 21 ∧ ρ 21 ≤ 3 := zRnA hr 21
  have r22 : (3 : Int) ≤ ρ 22 ∧ ρ 22 ≤ 3 := zRnA hr 22
  have r23 : (0 : Int) ≤ ρ 23 ∧ ρ 23 ≤ 2 := zRnA hr 23
  have r25 : (3 : Int) ≤ ρ 25 ∧ ρ 25 ≤ 3 := zRnA hr 25
  have f3 : (0 : Int) ≤ ρ 18 + -ρ 15 + (-1) := zAllA hf 3
  obtain ⟨w_0, w_1, w_2, w_3, w_4, w_5, w_6, w_7, w_8, w_9, w_10⟩ : (¬ (ρ 15 ≥ ρ 18)) ∧ (¬ (ρ 17 ≠ 0)) ∧ (ρ 3 ≤ 2) ∧ (ρ 3 ≠ 1) ∧ (¬ (0 ≥ ρ 21)) ∧ (¬ (ρ 22 ≠ 3)) ∧ (¬ (1 ≥ ρ 21)) ∧ (ρ 23 ≠ 3) ∧ (¬ (2 ≥ ρ 21)) ∧ (¬ (ρ 25 ≠ 3)) ∧ (3 ≥ ρ 21) := ⟨by omega, by omega, by omega, by omega, by omega, by omega, by omega, by omega, by omega, by omega, by omega⟩
  have m2 : γ 0 71 0 (ρ 0) = ρ 3 := zAllA hm 2
  have m6 : γ 0 69 0 (ρ 0) = ρ 7 := zAllA hm 6
  have m15 : γ 1 15 0 77 = ρ 17 := zAllA hm 15
  have m16 : γ 1 15 0 90 = ρ 18 := zAllA hm 16
  have m19 : γ 1 107 0 (ρ 15) = ρ 20 := zAllA hm 19
  have m20 : γ 0 66 0 (ρ 7) = ρ 21 := zAllA hm 20
  have m21 : γ 0 70 0 (4 * ρ 0) = ρ 22 := zAllA hm 21
  have m22 : γ 0 70 0 (4 * ρ 0 + 1) = ρ 23 := zAllA hm 22
  have m23 : γ 1 105 0 (4 * ρ 15 + 1) = ρ 24 := zAllA hm 23
  have m24 : γ 0 70 0 (4 * ρ 0 + 2) = ρ 25 := zAllA hm 24
  have m25 : γ 1 105 0 (4 * ρ 15 + 3) = ρ 26 := zAllA hm 25
  have c2 : γ 2 = rUp (γ 1) 102 0 0 (ρ 20) := And.right (zChA hc 4)
  have c3 : γ 3 = rUp (γ 2) 102 0 1 (ρ 24) := And.right (zChA hc 3)
  have c4 : γ 4 = rUp (γ 3) 102 0 2 (ρ 20) := And.right (zChA hc 2)
  have c5 : γ 5 = rUp (γ 4) 102 0 3 (ρ 26) := And.right (zChA hc 1)
  have l0 : sn57 [ρ 7, ρ 0, ρ 2, ρ 19, ρ 27, ρ 28, ρ 29, ρ 10, ρ 17] (γ 5) 0 0 (γ 6) := hS57 _ _ _ _ _ (zAllA hl 0)
  show jn75 [ρ 0, ρ 1, ρ 2, ρ 3, ρ 4, ρ 5, ρ 6, ρ 7, ρ 8, ρ 9, ρ 10, ρ 11, ρ 12, ρ 13, ρ 14] (γ 0) 0 [ρ 0, ρ 1, ρ 2, ρ 3, ρ 4, ρ 5, ρ 6, ρ 7, ρ 8, ρ 9, ρ 10, ρ 11, ρ 12, ρ 13, ρ 14, ρ 15 + 1, ρ 16, ρ 34, ρ 18, ρ 30] (γ 6)
  have hD : en75 (γ 0) (0, [ρ 0, ρ 15], γ 1) = .inl (0, [ρ 0, ρ 15 + 1], γ 6) := by
    unfold en75
    refine zIP (show (0 : Nat) = 0 by decide) (zLV (γ 1) rfl (zLV (ρ 0) rfl (zLV (ρ 15) rfl (zLE m2 (zLE m6 (zLE m15 (zLE m16 ?_)))))))
    refine zIN w_0 (zIN w_1 (zIP w_2 (zIP w_3 (zLE m19 (zLE m20 (zIN w_4 (zLE m21 ?_)))))))
    refine zIN w_5 (zLE c2.symm (zIN w_6 (zLE m22 (zIP w_7 (zLE m23 (zLE c3.symm (zIN w_8 ?_)))))))
    refine zLE m24 (zIN w_9 (zLE c4.symm (zIP w_10 (zLE m25 (zLE c5.symm (zLE (show fn57 [ρ 7, ρ 0] (γ 5) = (0, 0, γ 6) from l0.symm) (zLV (γ 6) rfl ?_)))))))
    rfl
  exact zGoo_ato hJ hD
theorem vn75a0_24 {S : Nat → zSpc} (hS57 : zIm S 57 sn57) (hS73 : zIm S 73 sn73) {a : List Int} {g : rHp} : ∀ (ρ : Nat → Int) (γ : Nat → rHp), jn75 a g 0 (zAg (zNA a75_ 0) ρ) (γ 1) → zO 15 S a g q75a0_24 ρ γ → zGl (fun i vs g1 => jn75 a g i vs g1) (sn75 a g) q75a0_24 ρ γ := by
  intro ρ γ hJ h
  obtain ⟨ha, hg, hr, hf, hm, hc, hl⟩ := h
  have ha : a = [ρ 0, ρ 1, ρ 2, ρ 3, ρ 4, ρ 5, ρ 6, ρ 7, ρ 8, ρ 9, ρ 10, ρ 11, ρ 12, ρ 13, ρ 14] := ha
  subst ha
  subst hg
  have hJ : jn75 [ρ 0, ρ 1, ρ 2, ρ 3, ρ 4, ρ 5, ρ 6, ρ 7, ρ 8, ρ 9, ρ 10, ρ 11, ρ 12, ρ 13, ρ 14] (γ 0) 0 [ρ 0, ρ 1, ρ 2, ρ 3, ρ 4, ρ 5, ρ 6, ρ 7, ρ 8, ρ 9, ρ 10, ρ 11, ρ 12, ρ 13, ρ 14, ρ 15, ρ 16, ρ 17, ρ 18, ρ 19] (γ 1) := hJ
  have r3 : (2 : Int) ≤ ρ 3 ∧ ρ 3 ≤ 2 := zRnA hr 3
  have r17 : (0 : Int) ≤ ρ 17 ∧ ρ 17 ≤ 0 := zRnA hr 17
  have r21 : (4 : Int) ≤ ρ 21 ∧ ρ 21 ≤ 4 := zRnA hr 21
  have r22 : (3 : Int) ≤ ρ 22 ∧ ρ 22 ≤ 3 := zRnA hr 22
  have r23 : (0 : Int) ≤ ρ 23 ∧ ρ 23 ≤ 2 := zRnA hr 23
  have r25 : (3 : Int) ≤ ρ 25 ∧ ρ 25 ≤ 3 := zRnA hr 25
  have r26 : (0 : Int) ≤ ρ 26 ∧ ρ 26 ≤ 2 := zRnA hr 26
  have f3 : (0 : Int) ≤ ρ 18 + -ρ 15 + (-1) := zAllA hf 3
  obtain ⟨w_0, w_1, w_2, w_3, w_4, w_5, w_6, w_7, w_8, w_9, w_10, w_11⟩ : (¬ (ρ 15 ≥ ρ 18)) ∧ (¬ (ρ 17 ≠ 0)) ∧ (ρ 3 ≤ 2) ∧ (ρ 3 ≠ 1) ∧ (¬ (0 ≥ ρ 21)) ∧ (¬ (ρ 22 ≠ 3)) ∧ (¬ (1 ≥ ρ 21)) ∧ (ρ 23 ≠ 3) ∧ (¬ (2 ≥ ρ 21)) ∧ (¬ (ρ 25 ≠ 3)) ∧ (¬ (3 ≥ ρ 21)) ∧ (ρ 26 ≠ 3) := ⟨by omega, by omega, by omega, by omega, by omega, by omega, by omega, by omega, by omega, by omega, by omega, by omega⟩
  have m2 : γ 0 71 0 (ρ 0) = ρ 3 := zAllA hm 2
  have m6 : γ 0 69 0 (ρ 0) = ρ 7 := zAllA hm 6
  have m15 : γ 1 15 0 77 = ρ 17 := zAllA hm 15
  have m16 : γ 1 15 0 90 = ρ 18 := zAllA hm 16
  have m19 : γ 1 107 0 (ρ 15) = ρ 20 := zAllA hm 19
  have m20 : γ 0 66 0 (ρ 7) = ρ 21 := zAllA hm 20
  have m21 : γ 0 70 0 (4 * ρ 0) = ρ 22 := zAllA hm 21
  have m22 : γ 0 70 0 (4 * ρ 0 + 1) = ρ 23 := zAllA hm 22
  have m23 : γ 1 105 0 (4 * ρ 15 + 1) = ρ 24 := zAllA hm 23
  have m24 : γ 0 70 0 (4 * ρ 0 + 2) = ρ 25 := zAllA hm 24
  have m25 : γ 0 70 0 (4 * ρ 0 + 3) = ρ 26 := zAllA hm 25
  have m26 : γ 1 105 0 (4 * ρ 15 + 3) = ρ 27 := zAllA hm 26
  have c2 : γ 2 = rUp (γ 1) 102 0 0 (ρ 20) := And.right (zChA hc 4)
  have c3 : γ 3 = rUp (γ 2) 102 0 1 (ρ 24) := And.right (zChA hc 3)
  have c4 : γ 4 = rUp (γ 3) 102 0 2 (ρ 20) := And.right (zChA hc 2)
  have c5 : γ 5 = rUp (γ 4) 102 0 3 (ρ 27) := And.right (zChA hc 1)
  have l0 : sn57 [ρ 7, ρ 0, ρ 2, ρ 19, ρ 28, ρ 29, ρ 30, ρ 10, ρ 17] (γ 5) 0 0 (γ 6) := hS57 _ _ _ _ _ (zAllA hl 0)
  show jn75 [ρ 0, ρ 1, ρ 2, ρ 3, ρ 4, ρ 5, ρ 6, ρ 7, ρ 8, ρ 9, ρ 10, ρ 11, ρ 12, ρ 13, ρ 14] (γ 0) 0 [ρ 0, ρ 1, ρ 2, ρ 3, ρ 4, ρ 5, ρ 6, ρ 7, ρ 8, ρ 9, ρ 10, ρ 11, ρ 12, ρ 13, ρ 14, ρ 15 + 1, ρ 16, ρ 35, ρ 18, ρ 31] (γ 6)
  have hD : en75 (γ 0) (0, [ρ 0, ρ 15], γ 1) = .inl (0, [ρ 0, ρ 15 + 1], γ 6) := by
    unfold en75
    refine zIP (show (0 : Nat) = 0 by decide) (zLV (γ 1) rfl (zLV (ρ 0) rfl (zLV (ρ 15) rfl (zLE m2 (zLE m6 (zLE m15 (zLE m16 ?_)))))))
    refine zIN w_0 (zIN w_1 (zIP w_2 (zIP w_3 (zLE m19 (zLE m20 (zIN w_4 (zLE m21 ?_)))))))
    refine zIN w_5 (zLE c2.symm (zIN w_6 (zLE m22 (zIP w_7 (zLE m23 (zLE c3.symm (zIN w_8 ?_)))))))
    refine zLE m24 (zIN w_9 (zLE c4.symm (zIN w_10 (zLE m25 (zIP w_11 (zLE m26 (zLE c5.symm ?_)))))))
    refine zLE (show fn57 [ρ 7, ρ 0] (γ 5) = (0, 0, γ 6) from l0.symm) (zLV (γ 6) rfl ?_)
    rfl
  exact zGoo_ato hJ hD
theorem vn75a0_25 {S : Nat → zSpc} (hS57 : zIm S 57 sn57) (hS73 : zIm S 73 sn73) {a : List Int} {g : rHp} : ∀ (ρ : Nat → Int) (γ : Nat → rHp), jn75 a g 0 (zAg (zNA a75_ 0) ρ) (γ 1) → zO 15 S a g q75a0_25 ρ γ → zGl (fun i vs g1 => jn75 a g i vs g1) (sn75 a g) q75a0_25 ρ γ := by
  intro ρ γ hJ h
  obtain ⟨ha, hg, hr, hf, hm, hc, hl⟩ := h
  have ha : a = [ρ 0, ρ 1, ρ 2, ρ 3, ρ 4, ρ 5, ρ 6, ρ 7, ρ 8, ρ 9, ρ 10, ρ 11, ρ 12, ρ 13, ρ 14] := ha
  subst ha
  subst hg
  have hJ : jn75 [ρ 0, ρ 1, ρ 2, ρ 3, ρ 4, ρ 5, ρ 6, ρ 7, ρ 8, ρ 9, ρ 10, ρ 11, ρ 12, ρ 13, ρ 14] (γ 0) 0 [ρ 0, ρ 1, ρ 2, ρ 3, ρ 4, ρ 5, ρ 6, ρ 7, ρ 8, ρ 9, ρ 10, ρ 11, ρ 12, ρ 13, ρ 14, ρ 15, ρ 16, ρ 17, ρ 18, ρ 19] (γ 1) := hJ
  have r3 : (2 : Int) ≤ ρ 3 ∧ ρ 3 ≤ 2 := zRnA hr 3
  have r17 : (0 : Int) ≤ ρ 17 ∧ ρ 17 ≤ 0 := zRnA hr 17
  have r21 : (4 : Int) ≤ ρ 21 ∧ ρ 21 ≤ 4 := zRnA hr 21
  have r22 : (3 : Int) ≤ ρ 22 ∧ ρ 22 ≤ 3 := zRnA hr 22
  have r23 : (0 : Int) ≤ ρ 23 ∧ ρ 23 ≤ 2 := zRnA hr 23
  have r25 : (3 : Int) ≤ ρ 25 ∧ ρ 25 ≤ 3 := zRnA hr 25
  have r26 : (3 : Int) ≤ ρ 26 ∧ ρ 26 ≤ 3 := zRnA hr 26
  have f3 : (0 : Int) ≤ ρ 18 + -ρ 15 + (-1) := zAllA hf 3
  obtain ⟨w_0, w_1, w_2, w_3, w_4, w_5, w_6, w_7, w_8, w_9, w_10, w_11⟩ : (¬ (ρ 15 ≥ ρ 18)) ∧ (¬ (ρ 17 ≠ 0)) ∧ (ρ 3 ≤ 2) ∧ (ρ 3 ≠ 1) ∧ (¬ (0 ≥ ρ 21)) ∧ (¬ (ρ 22 ≠ 3)) ∧ (¬ (1 ≥ ρ 21)) ∧ (ρ 23 ≠ 3) ∧ (¬ (2 ≥ ρ 21)) ∧ (¬ (ρ 25 ≠ 3)) ∧ (¬ (3 ≥ ρ 21)) ∧ (¬ (ρ 26 ≠ 3)) := ⟨by omega, by omega, by omega, by omega, by omega, by omega, by omega, by omega, by omega, by omega, by omega, by omega⟩
  have m2 : γ 0 71 0 (ρ 0) = ρ 3 := zAllA hm 2
  have m6 : γ 0 69 0 (ρ 0) = ρ 7 := zAllA hm 6
  have m15 : γ 1 15 0 77 = ρ 17 := zAllA hm 15
  have m16 : γ 1 15 0 90 = ρ 18 := zAllA hm 16
  have m19 : γ 1 107 0 (ρ 15) = ρ 20 := zAllA hm 19
  have m20 : γ 0 66 0 (ρ 7) = ρ 21 := zAllA hm 20
  have m21 : γ 0 70 0 (4 * ρ 0) = ρ 22 := zAllA hm 21
  have m22 : γ 0 70 0 (4 * ρ 0 + 1) = ρ 23 := zAllA hm 22
  have m23 : γ 1 105 0 (4 * ρ 15 + 1) = ρ 24 := zAllA hm 23
  have m24 : γ 0 70 0 (4 * ρ 0 + 2) = ρ 25 := zAllA hm 24
  have m25 : γ 0 70 0 (4 * ρ 0 + 3) = ρ 26 := zAllA hm 25
  have c2 : γ 2 = rUp (γ 1) 102 0 0 (ρ 20) := And.right (zChA hc 4)
  have c3 : γ 3 = rUp (γ 2) 102 0 1 (ρ 24) := And.right (zChA hc 3)
  have c4 : γ 4 = rUp (γ 3) 102 0 2 (ρ 20) := And.right (zChA hc 2)
  have c5 : γ 5 = rUp (γ 4) 102 0 3 (ρ 20) := And.right (zChA hc 1)
  have l0 : sn57 [ρ 7, ρ 0, ρ 2, ρ 19, ρ 27, ρ 28, ρ 29, ρ 10, ρ 17] (γ 5) 0 0 (γ 6) := hS57 _ _ _ _ _ (zAllA hl 0)
  show jn75 [ρ 0, ρ 1, ρ 2, ρ 3, ρ 4, ρ 5, ρ 6, ρ 7, ρ 8, ρ 9, ρ 10, ρ 11, ρ 12, ρ 13, ρ 14] (γ 0) 0 [ρ 0, ρ 1, ρ 2, ρ 3, ρ 4, ρ 5, ρ 6, ρ 7, ρ 8, ρ 9, ρ 10, ρ 11, ρ 12, ρ 13, ρ 14, ρ 15 + 1, ρ 16, ρ 34, ρ 18, ρ 30] (γ 6)
  have hD : en75 (γ 0) (0, [ρ 0, ρ 15], γ 1) = .inl (0, [ρ 0, ρ 15 + 1], γ 6) := by
    unfold en75
    refine zIP (show (0 : Nat) = 0 by decide) (zLV (γ 1) rfl (zLV (ρ 0) rfl (zLV (ρ 15) rfl (zLE m2 (zLE m6 (zLE m15 (zLE m16 ?_)))))))
    refine zIN w_0 (zIN w_1 (zIP w_2 (zIP w_3 (zLE m19 (zLE m20 (zIN w_4 (zLE m21 ?_)))))))
    refine zIN w_5 (zLE c2.symm (zIN w_6 (zLE m22 (zIP w_7 (zLE m23 (zLE c3.symm (zIN w_8 ?_)))))))
    refine zLE m24 (zIN w_9 (zLE c4.symm (zIN w_10 (zLE m25 (zIN w_11 (zLE c5.symm (zLE (show fn57 [ρ 7, ρ 0] (γ 5) = (0, 0, γ 6) from l0.symm) ?_)))))))
    refine zLV (γ 6) rfl ?_
    rfl
  exact zGoo_ato hJ hD
theorem vn75a0_26 {S : Nat → zSpc} (hS57 : zIm S 57 sn57) (hS73 : zIm S 73 sn73) {a : List Int} {g : rHp} : ∀ (ρ : Nat → Int) (γ : Nat → rHp), jn75 a g 0 (zAg (zNA a75_ 0) ρ) (γ 1) → zO 15 S a g q75a0_26 ρ γ → zGl (fun i vs g1 => jn75 a g i vs g1) (sn75 a g) q75a0_26 ρ γ := by
  intro ρ γ hJ h
  obtain ⟨ha, hg, hr, hf, hm, hc, hl⟩ := h
  have ha : a = [ρ 0, ρ 1, ρ 2, ρ 3, ρ 4, ρ 5, ρ 6, ρ 7, ρ 8, ρ 9, ρ 10, ρ 11, ρ 12, ρ 13, ρ 14] := ha
  subst ha
  subst hg
  have hJ : jn75 [ρ 0, ρ 1, ρ 2, ρ 3, ρ 4, ρ 5, ρ 6, ρ 7, ρ 8, ρ 9, ρ 10, ρ 11, ρ 12, ρ 13, ρ 14] (γ 0) 0 [ρ 0, ρ 1, ρ 2, ρ 3, ρ 4, ρ 5, ρ 6, ρ 7, ρ 8, ρ 9, ρ 10, ρ 11, ρ 12, ρ 13, ρ 14, ρ 15, ρ 16, ρ 17, ρ 18, ρ 19] (γ 1) := hJ
  have r3 : (2 : Int) ≤ ρ 3 ∧ ρ 3 ≤ 2 := zRnA hr 3
  have r17 : (0 : Int) ≤ ρ 17 ∧ ρ 17 ≤ 0 := zRnA hr 17
  have r21 : (2 : Int) ≤ ρ 21 ∧ ρ 21 ≤ 2 := zRnA hr 21
  have r22 : (3 : Int) ≤ ρ 22 ∧ ρ 22 ≤ 3 := zRnA hr 22
  have r23 : (3 : Int) ≤ ρ 23 ∧ ρ 23 ≤ 3 := zRnA hr 23
  have f3 : (0 : Int) ≤ ρ 18 + -ρ 15 + (-1) := zAllA hf 3
  obtain ⟨w_0, w_1, w_2, w_3, w_4, w_5, w_6, w_7, w_8⟩ : (¬ (ρ 15 ≥ ρ 18)) ∧ (¬ (ρ 17 ≠ 0)) ∧ (ρ 3 ≤ 2) ∧ (ρ 3 ≠ 1) ∧ (¬ (0 ≥ ρ 21)) ∧ (¬ (ρ 22 ≠ 3)) ∧ (¬ (1 ≥ ρ 21)) ∧ (¬ (ρ 23 ≠ 3)) ∧ (2 ≥ ρ 21) := ⟨by omega, by omega, by omega, by omega, by omega, by omega, by omega, by omega, by omega⟩
  have m2 : γ 0 71 0 (ρ 0) = ρ 3 := zAllA hm 2
  have m6 : γ 0 69 0 (ρ 0) = ρ 7 := zAllA hm 6
  have m15 : γ 1 15 0 77 = ρ 17 := zAllA hm 15
  have m16 : γ 1 15 0 90 = ρ 18 := zAllA hm 16
  have m19 : γ 1 107 0 (ρ 15) = ρ 20 := zAllA hm 19
  have m20 : γ 0 66 0 (ρ 7) = ρ 21 := zAllA hm 20
  have m21 : γ 0 70 0 (4 * ρ 0) = ρ 22 := zAllA hm 21
  have m22 : γ 0 70 0 (4 * ρ 0 + 1) = ρ 23 := zAllA hm 22
  have m23 : γ 1 105 0 (4 * ρ 15 + 2) = ρ 24 := zAllA hm 23
  have m24 : γ 1 105 0 (4 * ρ 15 + 3) = ρ 25 := zAllA hm 24
  have c2 : γ 2 = rUp (γ 1) 102 0 0 (ρ 20) := And.right (zChA hc 4)
  have c3 : γ 3 = rUp (γ 2) 102 0 1 (ρ 20) := And.right (zChA hc 3)
  have c4 : γ 4 = rUp (γ 3) 102 0 2 (ρ 24) := And.right (zChA hc 2)
  have c5 : γ 5 = rUp (γ 4) 102 0 3 (ρ 25) := And.right (zChA hc 1)
  have l0 : sn57 [ρ 7, ρ 0, ρ 2, ρ 19, ρ 26, ρ 27, ρ 28, ρ 10, ρ 17] (γ 5) 0 0 (γ 6) := hS57 _ _ _ _ _ (zAllA hl 0)
  show jn75 [ρ 0, ρ 1, ρ 2, ρ 3, ρ 4, ρ 5, ρ 6, ρ 7, ρ 8, ρ 9, ρ 10, ρ 11, ρ 12, ρ 13, ρ 14] (γ 0) 0 [ρ 0, ρ 1, ρ 2, ρ 3, ρ 4, ρ 5, ρ 6, ρ 7, ρ 8, ρ 9, ρ 10, ρ 11, ρ 12, ρ 13, ρ 14, ρ 15 + 1, ρ 16, ρ 33, ρ 18, ρ 29] (γ 6)
  have hD : en75 (γ 0) (0, [ρ 0, ρ 15], γ 1) = .inl (0, [ρ 0, ρ 15 + 1], γ 6) := by
    unfold en75
    refine zIP (show (0 : Nat) = 0 by decide) (zLV (γ 1) rfl (zLV (ρ 0) rfl (zLV (ρ 15) rfl (zLE m2 (zLE m6 (zLE m15 (zLE m16 ?_)))))))
    refine zIN w_0 (zIN w_1 (zIP w_2 (zIP w_3 (zLE m19 (zLE m20 (zIN w_4 (zLE m21 ?_)))))))
    refine zIN w_5 (zLE c2.symm (zIN w_6 (zLE m22 (zIN w_7 (zLE c3.symm (zIP w_8 (zLE m23 ?_)))))))
    refine zLE c4.symm (zLE m24 (zLE c5.symm (zLE (show fn57 [ρ 7, ρ 0] (γ 5) = (0, 0, γ 6) from l0.symm) (zLV (γ 6) rfl ?_))))
    rfl
  exact zGoo_ato hJ hD
theorem vn75a0_27 {S : Nat → zSpc} (hS57 : zIm S 57 sn57) (hS73 : zIm S 73 sn73) {a : List Int} {g : rHp} : ∀ (ρ : Nat → Int) (γ : Nat → rHp), jn75 a g 0 (zAg (zNA a75_ 0) ρ) (γ 1) → zO 15 S a g q75a0_27 ρ γ → zGl (fun i vs g1 => jn75 a g i vs g1) (sn75 a g) q75a0_27 ρ γ := by
  intro ρ γ hJ h
  obtain ⟨ha, hg, hr, hf, hm, hc, hl⟩ := h
  have ha : a = [ρ 0, ρ 1, ρ 2, ρ 3, ρ 4, ρ 5, ρ 6, ρ 7, ρ 8, ρ 9, ρ 10, ρ 11, ρ 12, ρ 13, ρ 14] := ha
  subst ha
  subst hg
  have hJ : jn75 [ρ 0, ρ 1, ρ 2, ρ 3, ρ 4, ρ 5, ρ 6, ρ 7, ρ 8, ρ 9, ρ 10, ρ 11, ρ 12, ρ 13, ρ 14] (γ 0) 0 [ρ 0, ρ 1, ρ 2, ρ 3, ρ 4, ρ 5, ρ 6, ρ 7, ρ 8, ρ 9, ρ 10, ρ 11, ρ 12, ρ 13, ρ 14, ρ 15, ρ 16, ρ 17, ρ 18, ρ 19] (γ 1) := hJ
  have r3 : (2 : Int) ≤ ρ 3 ∧ ρ 3 ≤ 2 := zRnA hr 3
  have r17 : (0 : Int) ≤ ρ 17 ∧ ρ 17 ≤ 0 := zRnA hr 17
  have r21 : (3 : Int) ≤ ρ 21 ∧ ρ 21 ≤ 3 := zRnA hr 21
  have r22 : (3 : Int) ≤ ρ 22 ∧ ρ 22 ≤ 3 := zRnA hr 22
  have r23 : (3 : Int) ≤ ρ 23 ∧ ρ 23 ≤ 3 := zRnA hr 23
  have r24 : (0 : Int) ≤ ρ 24 ∧ ρ 24 ≤ 2 := zRnA hr 24
  have f3 : (0 : Int) ≤ ρ 18 + -ρ 15 + (-1) := zAllA hf 3
  obtain ⟨w_0, w_1, w_2, w_3, w_4, w_5, w_6, w_7, w_8, w_9, w_10⟩ : (¬ (ρ 15 ≥ ρ 18)) ∧ (¬ (ρ 17 ≠ 0)) ∧ (ρ 3 ≤ 2) ∧ (ρ 3 ≠ 1) ∧ (¬ (0 ≥ ρ 21)) ∧ (¬ (ρ 22 ≠ 3)) ∧ (¬ (1 ≥ ρ 21)) ∧ (¬ (ρ 23 ≠ 3)) ∧ (¬ (2 ≥ ρ 21)) ∧ (ρ 24 ≠ 3) ∧ (3 ≥ ρ 21) := ⟨by omega, by omega, by omega, by omega, by omega, by omega, by omega, by omega, by omega, by omega, by omega⟩
  have m2 : γ 0 71 0 (ρ 0) = ρ 3 := zAllA hm 2
  have m6 : γ 0 69 0 (ρ 0) = ρ 7 := zAllA hm 6
  have m15 : γ 1 15 0 77 = ρ 17 := zAllA hm 15
  have m16 : γ 1 15 0 90 = ρ 18 := zAllA hm 16
  have m19 : γ 1 107 0 (ρ 15) = ρ 20 := zAllA hm 19
  have m20 : γ 0 66 0 (ρ 7) = ρ 21 := zAllA hm 20
  have m21 : γ 0 70 0 (4 * ρ 0) = ρ 22 := zAllA hm 21
  have m22 : γ 0 70 0 (4 * ρ 0 + 1) = ρ 23 := zAllA hm 22
  have m23 : γ 0 70 0 (4 * ρ 0 + 2) = ρ 24 := zAllA hm 23
  have m24 : γ 1 105 0 (4 * ρ 15 + 2) = ρ 25 := zAllA hm 24
  have m25 : γ 1 105 0 (4 * ρ 15 + 3) = ρ 26 := zAllA hm 25
  have c2 : γ 2 = rUp (γ 1) 102 0 0 (ρ 20) := And.right (zChA hc 4)
  have c3 : γ 3 = rUp (γ 2) 102 0 1 (ρ 20) := And.right (zChA hc 3)
  have c4 : γ 4 = rUp (γ 3) 102 0 2 (ρ 25) := And.right (zChA hc 2)
  have c5 : γ 5 = rUp (γ 4) 102 0 3 (ρ 26) := And.right (zChA hc 1)
  have l0 : sn57 [ρ 7, ρ 0, ρ 2, ρ 19, ρ 27, ρ 28, ρ 29, ρ 10, ρ 17] (γ 5) 0 0 (γ 6) := hS57 _ _ _ _ _ (zAllA hl 0)
  show jn75 [ρ 0, ρ 1, ρ 2, ρ 3, ρ 4, ρ 5, ρ 6, ρ 7, ρ 8, ρ 9, ρ 10, ρ 11, ρ 12, ρ 13, ρ 14] (γ 0) 0 [ρ 0, ρ 1, ρ 2, ρ 3, ρ 4, ρ 5, ρ 6, ρ 7, ρ 8, ρ 9, ρ 10, ρ 11, ρ 12, ρ 13, ρ 14, ρ 15 + 1, ρ 16, ρ 34, ρ 18, ρ 30] (γ 6)
  have hD : en75 (γ 0) (0, [ρ 0, ρ 15], γ 1) = .inl (0, [ρ 0, ρ 15 + 1], γ 6) := by
    unfold en75
    refine zIP (show (0 : Nat) = 0 by decide) (zLV (γ 1) rfl (zLV (ρ 0) rfl (zLV (ρ 15) rfl (zLE m2 (zLE m6 (zLE m15 (zLE m16 ?_)))))))
    refine zIN w_0 (zIN w_1 (zIP w_2 (zIP w_3 (zLE m19 (zLE m20 (zIN w_4 (zLE m21 ?_)))))))
    refine zIN w_5 (zLE c2.symm (zIN w_6 (zLE m22 (zIN w_7 (zLE c3.symm (zIN w_8 (zLE m23 ?_)))))))
    refine zIP w_9 (zLE m24 (zLE c4.symm (zIP w_10 (zLE m25 (zLE c5.symm (zLE (show fn57 [ρ 7, ρ 0] (γ 5) = (0, 0, γ 6) from l0.symm) (zLV (γ 6) rfl ?_)))))))
    rfl
  exact zGoo_ato hJ hD
theorem vn75a0_28 {S : Nat → zSpc} (hS57 : zIm S 57 sn57) (hS73 : zIm S 73 sn73) {a : List Int} {g : rHp} : ∀ (ρ : Nat → Int) (γ : Nat → rHp), jn75 a g 0 (zAg (zNA a75_ 0) ρ) (γ 1) → zO 15 S a g q75a0_28 ρ γ → zGl (fun i vs g1 => jn75 a g i vs g1) (sn75 a g) q75a0_28 ρ γ := by
  intro ρ γ hJ h
  obtain ⟨ha, hg, hr, hf, hm, hc, hl⟩ := h
  have ha : a = [ρ 0, ρ 1, ρ 2, ρ 3, ρ 4, ρ 5, ρ 6, ρ 7, ρ 8, ρ 9, ρ 10, ρ 11, ρ 12, ρ 13, ρ 14] := ha
  subst ha
  subst hg
  have hJ : jn75 [ρ 0, ρ 1, ρ 2, ρ 3, ρ 4, ρ 5, ρ 6, ρ 7, ρ 8, ρ 9, ρ 10, ρ 11, ρ 12, ρ 13, ρ 14] (γ 0) 0 [ρ 0, ρ 1, ρ 2, ρ 3, ρ 4, ρ 5, ρ 6, ρ 7, ρ 8, ρ 9, ρ 10, ρ 11, ρ 12, ρ 13, ρ 14, ρ 15, ρ 16, ρ 17, ρ 18, ρ 19] (γ 1) := hJ
  have r3 : (2 : Int) ≤ ρ 3 ∧ ρ 3 ≤ 2 := zRnA hr 3
  have r17 : (0 : Int) ≤ ρ 17 ∧ ρ 17 ≤ 0 := zRnA hr 17
  have r21 : (4 : Int) ≤ ρ 21 ∧ ρ 21 ≤ 4 := zRnA hr 21
  have r22 : (3 : Int) ≤ ρ 22 ∧ ρ 22 ≤ 3 := zRnA hr 22
  have r23 : (3 : Int) ≤ ρ 23 ∧ ρ 23 ≤ 3 := zRnA hr 23
  have r24 : (0 : Int) ≤ ρ 24 ∧ ρ 24 ≤ 2 := zRnA hr 24
  have r26 : (0 : Int) ≤ ρ 26 ∧ ρ 26 ≤ 2 := zRnA hr 26
  have f3 : (0 : Int) ≤ ρ 18 + -ρ 15 + (-1) := zAllA hf 3
  obtain ⟨w_0, w_1, w_2, w_3, w_4, w_5, w_6, w_7, w_8, w_9, w_10, w_11⟩ : (¬ (ρ 15 ≥ ρ 18)) ∧ (¬ (ρ 17 ≠ 0)) ∧ (ρ 3 ≤ 2) ∧ (ρ 3 ≠ 1) ∧ (¬ (0 ≥ ρ 21)) ∧ (¬ (ρ 22 ≠ 3)) ∧ (¬ (1 ≥ ρ 21)) ∧ (¬ (ρ 23 ≠ 3)) ∧ (¬ (2 ≥ ρ 21)) ∧ (ρ 24 ≠ 3) ∧ (¬ (3 ≥ ρ 21)) ∧ (ρ 26 ≠ 3) := ⟨by omega, by omega, by omega, by omega, by omega, by omega, by omega, by omega, by omega, by omega, by omega, by omega⟩
  have m2 : γ 0 71 0 (ρ 0) = ρ 3 := zAllA hm 2
  have m6 : γ 0 69 0 (ρ 0) = ρ 7 := zAllA hm 6
  have m15 : γ 1 15 0 77 = ρ 17 := zAllA hm 15
  have m16 : γ 1 15 0 90 = ρ 18 := zAllA hm 16
  have m19 : γ 1 107 0 (ρ 15) = ρ 20 := zAllA hm 19
  have m20 : γ 0 66 0 (ρ 7) = ρ 21 := zAllA hm 20
  have m21 : γ 0 70 0 (4 * ρ 0) = ρ 22 := zAllA hm 21
  have m22 : γ 0 70 0 (4 * ρ 0 + 1) = ρ 23 := zAllA hm 22
  have m23 : γ 0 70 0 (4 * ρ 0 + 2) = ρ 24 := zAllA hm 23
  have m24 : γ 1 105 0 (4 * ρ 15 + 2) = ρ 25 := zAllA hm 24
  have m25 : γ 0 70 0 (4 * ρ 0 + 3) = ρ 26 := zAllA hm 25
  have m26 : γ 1 105 0 (4 * ρ 15 + 3) = ρ 27 := zAllA hm 26
  have c2 : γ 2 = rUp (γ 1) 102 0 0 (ρ 20) := And.right (zChA hc 4)
  have c3 : γ 3 = rUp (γ 2) 102 0 1 (ρ 20) := And.right (zChA hc 3)
  have c4 : γ 4 = rUp (γ 3) 102 0 2 (ρ 25) := And.right (zChA hc 2)
  have c5 : γ 5 = rUp (γ 4) 102 0 3 (ρ 27) := And.right (zChA hc 1)
  have l0 : sn57 [ρ 7, ρ 0, ρ 2, ρ 19, ρ 28, ρ 29, ρ 30, ρ 10, ρ 17] (γ 5) 0 0 (γ 6) := hS57 _ _ _ _ _ (zAllA hl 0)
  show jn75 [ρ 0, ρ 1, ρ 2, ρ 3, ρ 4, ρ 5, ρ 6, ρ 7, ρ 8, ρ 9, ρ 10, ρ 11, ρ 12, ρ 13, ρ 14] (γ 0) 0 [ρ 0, ρ 1, ρ 2, ρ 3, ρ 4, ρ 5, ρ 6, ρ 7, ρ 8, ρ 9, ρ 10, ρ 11, ρ 12, ρ 13, ρ 14, ρ 15 + 1, ρ 16, ρ 35, ρ 18, ρ 31] (γ 6)
  have hD : en75 (γ 0) (0, [ρ 0, ρ 15], γ 1) = .inl (0, [ρ 0, ρ 15 + 1], γ 6) := by
    unfold en75
    refine zIP (show (0 : Nat) = 0 by decide) (zLV (γ 1) rfl (zLV (ρ 0) rfl (zLV (ρ 15) rfl (zLE m2 (zLE m6 (zLE m15 (zLE m16 ?_)))))))
    refine zIN w_0 (zIN w_1 (zIP w_2 (zIP w_3 (zLE m19 (zLE m20 (zIN w_4 (zLE m21 ?_)))))))
    refine zIN w_5 (zLE c2.symm (zIN w_6 (zLE m22 (zIN w_7 (zLE c3.symm (zIN w_8 (zLE m23 ?_)))))))
    refine zIP w_9 (zLE m24 (zLE c4.symm (zIN w_10 (zLE m25 (zIP w_11 (zLE m26 (zLE c5.symm ?_)))))))
    refine zLE (show fn57 [ρ 7, ρ 0] (γ 5) = (0, 0, γ 6) from l0.symm) (zLV (γ 6) rfl ?_)
    rfl
  exact zGoo_ato hJ hD
theorem vn75a0_29 {S : Nat → zSpc} (hS57 : zIm S 57 sn57) (hS73 : zIm S 73 sn73) {a : List Int} {g : rHp} : ∀ (ρ : Nat → Int) (γ : Nat → rHp), jn75 a g 0 (zAg (zNA a75_ 0) ρ) (γ 1) → zO 15 S a g q75a0_29 ρ γ → zGl (fun i vs g1 => jn75 a g i vs g1) (sn75 a g) q75a0_29 ρ γ := by
  intro ρ γ hJ h
  obtain ⟨ha, hg, hr, hf, hm, hc, hl⟩ := h
  have ha : a = [ρ 0, ρ 1, ρ 2, ρ 3, ρ 4, ρ 5, ρ 6, ρ 7, ρ 8, ρ 9, ρ 10, ρ 11, ρ 12, ρ 13, ρ 14] := ha
  subst ha
  subst hg
  have hJ : jn75 [ρ 0, ρ 1, ρ 2, ρ 3, ρ 4, ρ 5, ρ 6, ρ 7, ρ 8, ρ 9, ρ 10, ρ 11, ρ 12, ρ 13, ρ 14] (γ 0) 0 [ρ 0, ρ 1, ρ 2, ρ 3, ρ 4, ρ 5, ρ 6, ρ 7, ρ 8, ρ 9, ρ 10, ρ 11, ρ 12, ρ 13, ρ 14, ρ 15, ρ 16, ρ 17, ρ 18, ρ 19] (γ 1) := hJ
  have r3 : (2 : Int) ≤ ρ 3 ∧ ρ 3 ≤ 2 := zRnA hr 3
  have r17 : (0 : Int) ≤ ρ 17 ∧ ρ 17 ≤ 0 := zRnA hr 17
  have r21 : (4 : Int) ≤ ρ 21 ∧ ρ 21 ≤ 4 := zRnA hr 21
  have r22 : (3 : Int) ≤ ρ 22 ∧ ρ 22 ≤ 3 := zRnA hr 22
  have r23 : (3 : Int) ≤ ρ 23 ∧ ρ 23 ≤ 3 := zRnA hr 23
  have r24 : (0 : Int) ≤ ρ 24 ∧ ρ 24 ≤ 2 := zRnA hr 24
  have r26 : (3 : Int) ≤ ρ 26 ∧ ρ 26 ≤ 3 := zRnA hr 26
  have f3 : (0 : Int) ≤ ρ 18 + -ρ 15 + (-1) := zAllA hf 3
  obtain ⟨w_0, w_1, w_2, w_3, w_4, w_5, w_6, w_7, w_8, w_9, w_10, w_11⟩ : (¬ (ρ 15 ≥ ρ 18)) ∧ (¬ (ρ 17 ≠ 0)) ∧ (ρ 3 ≤ 2) ∧ (ρ 3 ≠ 1) ∧ (¬ (0 ≥ ρ 21)) ∧ (¬ (ρ 22 ≠ 3)) ∧ (¬ (1 ≥ ρ 21)) ∧ (¬ (ρ 23 ≠ 3)) ∧ (¬ (2 ≥ ρ 21)) ∧ (ρ 24 ≠ 3) ∧ (¬ (3 ≥ ρ 21)) ∧ (¬ (ρ 26 ≠ 3)) := ⟨by omega, by omega, by omega, by omega, by omega, by omega, by omega, by omega, by omega, by omega, by omega, by omega⟩
  have m2 : γ 0 71 0 (ρ 0) = ρ 3 := zAllA hm 2
  have m6 : γ 0 69 0 (ρ 0) = ρ 7 := zAllA hm 6
  have m15 : γ 1 15 0 77 = ρ 17 := zAllA hm 15
  have m16 : γ 1 15 0 90 = ρ 18 := zAllA hm 16
  have m19 : γ 1 107 0 (ρ 15) = ρ 20 := zAllA hm 19
  have m20 : γ 0 66 0 (ρ 7) = ρ 21 := zAllA hm 20
  have m21 : γ 0 70 0 (4 * ρ 0) = ρ 22 := zAllA hm 21
  have m22 : γ 0 70 0 (4 * ρ 0 + 1) = ρ 23 := zAllA hm 22
  have m23 : γ 0 70 0 (4 * ρ 0 + 2) = ρ 24 := zAllA hm 23
  have m24 : γ 1 105 0 (4 * ρ 15 + 2) = ρ 25 := zAllA hm 24
  have m25 : γ 0 70 0 (4 * ρ 0 + 3) = ρ 26 := zAllA hm 25
  have c2 : γ 2 = rUp (γ 1) 102 0 0 (ρ 20) := And.right (zChA hc 4)
  have c3 : γ 3 = rUp (γ 2) 102 0 1 (ρ 20) := And.right (zChA hc 3)
  have c4 : γ 4 = rUp (γ 3) 102 0 2 (ρ 25) := And.right (zChA hc 2)
  have c5 : γ 5 = rUp (γ 4) 102 0 3 (ρ 20) := And.right (zChA hc 1)
  have l0 : sn57 [ρ 7, ρ 0, ρ 2, ρ 19, ρ 27, ρ 28, ρ 29, ρ 10, ρ 17] (γ 5) 0 0 (γ 6) := hS57 _ _ _ _ _ (zAllA hl 0)
  show jn75 [ρ 0, ρ 1, ρ 2, ρ 3, ρ 4, ρ 5, ρ 6, ρ 7, ρ 8, ρ 9, ρ 10, ρ 11, ρ 12, ρ 13, ρ 14] (γ 0) 0 [ρ 0, ρ 1, ρ 2, ρ 3, ρ 4, ρ 5, ρ 6, ρ 7, ρ 8, ρ 9, ρ 10, ρ 11, ρ 12, ρ 13, ρ 14, ρ 15 + 1, ρ 16, ρ 34, ρ 18, ρ 30] (γ 6)
  have hD : en75 (γ 0) (0, [ρ 0, ρ 15], γ 1) = .inl (0, [ρ 0, ρ 15 + 1], γ 6) := by
    unfold en75
    refine zIP (show (0 : Nat) = 0 by decide) (zLV (γ 1) rfl (zLV (ρ 0) rfl (zLV (ρ 15) rfl (zLE m2 (zLE m6 (zLE m15 (zLE m16 ?_)))))))
    refine zIN w_0 (zIN w_1 (zIP w_2 (zIP w_3 (zLE m19 (zLE m20 (zIN w_4 (zLE m21 ?_)))))))
    refine zIN w_5 (zLE c2.symm (zIN w_6 (zLE m22 (zIN w_7 (zLE c3.symm (zIN w_8 (zLE m23 ?_)))))))
    refine zIP w_9 (zLE m24 (zLE c4.symm (zIN w_10 (zLE m25 (zIN w_11 (zLE c5.symm (zLE (show fn57 [ρ 7, ρ 0] (γ 5) = (0, 0, γ 6) from l0.symm) ?_)))))))
    refine zLV (γ 6) rfl ?_
    rfl
  exact zGoo_ato hJ hD
theorem vn75a0_30 {S : Nat → zSpc} (hS57 : zIm S 57 sn57) (hS73 : zIm S 73 sn73) {a : List Int} {g : rHp} : ∀ (ρ : Nat → Int) (γ : Nat → rHp), jn75 a g 0 (zAg (zNA a75_ 0) ρ) (γ 1) → zO 15 S a g q75a0_30 ρ γ → zGl (fun i vs g1 => jn75 a g i vs g1) (sn75 a g) q75a0_30 ρ γ := by
  intro ρ γ hJ h
  obtain ⟨ha, hg, hr, hf, hm, hc, hl⟩ := h
  have ha : a = [ρ 0, ρ 1, ρ 2, ρ 3, ρ 4, ρ 5, ρ 6, ρ 7, ρ 8, ρ 9, ρ 10, ρ 11, ρ 12, ρ 13, ρ 14] := ha
  subst ha
  subst hg
  have hJ : jn75 [ρ 0, ρ 1, ρ 2, ρ 3, ρ 4, ρ 5, ρ 6, ρ 7, ρ 8, ρ 9, ρ 10, ρ 11, ρ 12, ρ 13, ρ 14] (γ 0) 0 [ρ 0, ρ 1, ρ 2, ρ 3, ρ 4, ρ 5, ρ 6, ρ 7, ρ 8, ρ 9, ρ 10, ρ 11, ρ 12, ρ 13, ρ 14, ρ 15, ρ 16, ρ 17, ρ 18, ρ 19] (γ 1) := hJ
  have r3 : (2 : Int) ≤ ρ 3 ∧ ρ 3 ≤ 2 := zRnA hr 3
  have r17 : (0 : Int) ≤ ρ 17 ∧ ρ 17 ≤ 0 := zRnA hr 17
  have r21 : (3 : Int) ≤ ρ 21 ∧ ρ 21 ≤ 3 := zRnA hr 21
  have r22 : (3 : Int) ≤ ρ 22 ∧ ρ 22 ≤ 3 := zRnA hr 22
  have r23 : (3 : Int) ≤ ρ 23 ∧ ρ 23 ≤ 3 := zRnA hr 23
  have r24 : (3 : Int) ≤ ρ 24 ∧ ρ 24 ≤ 3 := zRnA hr 24
  have f3 : (0 : Int) ≤ ρ 18 + -ρ 15 + (-1) := zAllA hf 3
  obtain ⟨w_0, w_1, w_2, w_3, w_4, w_5, w_6, w_7, w_8, w_9, w_10⟩ : (¬ (ρ 15 ≥ ρ 18)) ∧ (¬ (ρ 17 ≠ 0)) ∧ (ρ 3 ≤ 2) ∧ (ρ 3 ≠ 1) ∧ (¬ (0 ≥ ρ 21)) ∧ (¬ (ρ 22 ≠ 3)) ∧ (¬ (1 ≥ ρ 21)) ∧ (¬ (ρ 23 ≠ 3)) ∧ (¬ (2 ≥ ρ 21)) ∧ (¬ (ρ 24 ≠ 3)) ∧ (3 ≥ ρ 21) := ⟨by omega, by omega, by omega, by omega, by omega, by omega, by omega, by omega, by omega, by omega, by omega⟩
  have m2 : γ 0 71 0 (ρ 0) = ρ 3 := zAllA hm 2
  have m6 : γ 0 69 0 (ρ 0) = ρ 7 := zAllA hm 6
  have m15 : γ 1 15 0 77 = ρ 17 := zAllA hm 15
  have m16 : γ 1 15 0 90 = ρ 18 := zAllA hm 16
  have m19 : γ 1 107 0 (ρ 15) = ρ 20 := zAllA hm 19
  have m20 : γ 0 66 0 (ρ 7) = ρ 21 := zAllA hm 20
  have m21 : γ 0 70 0 (4 * ρ 0) = ρ 22 := zAllA hm 21
  have m22 : γ 0 70 0 (4 * ρ 0 + 1) = ρ 23 := zAllA hm 22
  have m23 : γ 0 70 0 (4 * ρ 0 + 2) = ρ 24 := zAllA hm 23
  have m24 : γ 1 105 0 (4 * ρ 15 + 3) = ρ 25 := zAllA hm 24
  have c2 : γ 2 = rUp (γ 1) 102 0 0 (ρ 20) := And.right (zChA hc 4)
  have c3 : γ 3 = rUp (γ 2) 102 0 1 (ρ 20) := And.right (zChA hc 3)
  have c4 : γ 4 = rUp (γ 3) 102 0 2 (ρ 20) := And.right (zChA hc 2)
  have c5 : γ 5 = rUp (γ 4) 102 0 3 (ρ 25) := And.right (zChA hc 1)
  have l0 : sn57 [ρ 7, ρ 0, ρ 2, ρ 19, ρ 26, ρ 27, ρ 28, ρ 10, ρ 17] (γ 5) 0 0 (γ 6) := hS57 _ _ _ _ _ (zAllA hl 0)
  show jn75 [ρ 0, ρ 1, ρ 2, ρ 3, ρ 4, ρ 5, ρ 6, ρ 7, ρ 8, ρ 9, ρ 10, ρ 11, ρ 12, ρ 13, ρ 14] (γ 0) 0 [ρ 0, ρ 1, ρ 2, ρ 3, ρ 4, ρ 5, ρ 6, ρ 7, ρ 8, ρ 9, ρ 10, ρ 11, ρ 12, ρ 13, ρ 14, ρ 15 + 1, ρ 16, ρ 33, ρ 18, ρ 29] (γ 6)
  have hD : en75 (γ 0) (0, [ρ 0, ρ 15], γ 1) = .inl (0, [ρ 0, ρ 15 + 1], γ 6) := by
    unfold en75
    refine zIP (show (0 : Nat) = 0 by decide) (zLV (γ 1) rfl (zLV (ρ 0) rfl (zLV (ρ 15) rfl (zLE m2 (zLE m6 (zLE m15 (zLE m16 ?_)))))))
    refine zIN w_0 (zIN w_1 (zIP w_2 (zIP w_3 (zLE m19 (zLE m20 (zIN w_4 (zLE m21 ?_)))))))
    refine zIN w_5 (zLE c2.symm (zIN w_6 (zLE m22 (zIN w_7 (zLE c3.symm (zIN w_8 (zLE m23 ?_)))))))
    refine zIN w_9 (zLE c4.symm (zIP w_10 (zLE m24 (zLE c5.symm (zLE (show fn57 [ρ 7, ρ 0] (γ 5) = (0, 0, γ 6) from l0.symm) (zLV (γ 6) rfl ?_))))))
    rfl
  exact zGoo_ato hJ hD
theorem vn75a0_31 {S : Nat → zSpc} (hS57 : zIm S 57 sn57) (hS73 : zIm S 73 sn73) {a : List Int} {g : rHp} : ∀ (ρ : Nat → Int) (γ : Nat → rHp), jn75 a g 0 (zAg (zNA a75_ 0) ρ) (γ 1) → zO 15 S a g q75a0_31 ρ γ → zGl (fun i vs g1 => jn75 a g i vs g1) (sn75 a g) q75a0_31 ρ γ := by
  intro ρ γ hJ h
  obtain ⟨ha, hg, hr, hf, hm, hc, hl⟩ := h
  have ha : a = [ρ 0, ρ 1, ρ 2, ρ 3, ρ 4, ρ 5, ρ 6, ρ 7, ρ 8, ρ 9, ρ 10, ρ 11, ρ 12, ρ 13, ρ 14] := ha
  subst ha
  subst hg
  have hJ : jn75 [ρ 0, ρ 1, ρ 2, ρ 3, ρ 4, ρ 5, ρ 6, ρ 7, ρ 8, ρ 9, ρ 10, ρ 11, ρ 12, ρ 13, ρ 14] (γ 0) 0 [ρ 0, ρ 1, ρ 2, ρ 3, ρ 4, ρ 5, ρ 6, ρ 7, ρ 8, ρ 9, ρ 10, ρ 11, ρ 12, ρ 13, ρ 14, ρ 15, ρ 16, ρ 17, ρ 18, ρ 19] (γ 1) := hJ
  have r3 : (2 : Int) ≤ ρ 3 ∧ ρ 3 ≤ 2 := zRnA hr 3
  have r17 : (0 : Int) ≤ ρ 17 ∧ ρ 17 ≤ 0 := zRnA hr 17
  have r21 : (4 : Int) ≤ ρ 21 ∧ ρ 21 ≤ 4 := zRnA hr 21
  have r22 : (3 : Int) ≤ ρ 22 ∧ ρ 22 ≤ 3 := zRnA hr 22
  have r23 : (3 : Int) ≤ ρ 23 ∧ ρ 23 ≤ 3 := zRnA hr 23
  have r24 : (3 : Int) ≤ ρ 24 ∧ ρ 24 ≤ 3 := zRnA hr 24
  have r25 : (0 : Int) ≤ ρ 25 ∧ ρ 25 ≤ 2 := zRnA hr 25
  have f3 : (0 : Int) ≤ ρ 18 + -ρ 15 + (-1) := zAllA hf 3
  obtain ⟨w_0, w_1, w_2, w_3, w_4, w_5, w_6, w_7, w_8, w_9, w_10, w_11⟩ : (¬ (ρ 15 ≥ ρ 18)) ∧ (¬ (ρ 17 ≠ 0)) ∧ (ρ 3 ≤ 2) ∧ (ρ 3 ≠ 1) ∧ (¬ (0 ≥ ρ 21)) ∧ (¬ (ρ 22 ≠ 3)) ∧ (¬ (1 ≥ ρ 21)) ∧ (¬ (ρ 23 ≠ 3)) ∧ (¬ (2 ≥ ρ 21)) ∧ (¬ (ρ 24 ≠ 3)) ∧ (¬ (3 ≥ ρ 21)) ∧ (ρ 25 ≠ 3) := ⟨by omega, by omega, by omega, by omega, by omega, by omega, by omega, by omega, by omega, by omega, by omega, by omega⟩
  have m2 : γ 0 71 0 (ρ 0) = ρ 3 := zAllA hm 2
  have m6 : γ 0 69 0 (ρ 0) = ρ 7 := zAllA hm 6
  have m15 : γ 1 15 0 77 = ρ 17 := zAllA hm 15
  have m16 : γ 1 15 0 90 = ρ 18 := zAllA hm 16
  have m19 : γ 1 107 0 (ρ 15) = ρ 20 := zAllA hm 19
  have m20 : γ 0 66 0 (ρ 7) = ρ 21 := zAllA hm 20
  have m21 : γ 0 70 0 (4 * ρ 0) = ρ 22 := zAllA hm 21
  have m22 : γ 0 70 0 (4 * ρ 0 + 1) = ρ 23 := zAllA hm 22
  have m23 : γ 0 70 0 (4 * ρ 0 + 2) = ρ 24 := zAllA hm 23
  have m24 : γ 0 70 0 (4 * ρ 0 + 3) = ρ 25 := zAllA hm 24
  have m25 : γ 1 105 0 (4 * ρ 15 + 3) = ρ 26 := zAllA hm 25
  have c2 : γ 2 = rUp (γ 1) 102 0 0 (ρ 20) := And.right (zChA hc 4)
  have c3 : γ 3 = rUp (γ 2) 102 0 1 (ρ 20) := And.right (zChA hc 3)
  have c4 : γ 4 = rUp (γ 3) 102 0 2 (ρ 20) := And.right (zChA hc 2)
  have c5 : γ 5 = rUp (γ 4) 102 0 3 (ρ 26) := And.right (zChA hc 1)
  have l0 : sn57 [ρ 7, ρ 0, ρ 2, ρ 19, ρ 27, ρ 28, ρ 29, ρ 10, ρ 17] (γ 5) 0 0 (γ 6) := hS57 _ _ _ _ _ (zAllA hl 0)
  show jn75 [ρ 0, ρ 1, ρ 2, ρ 3, ρ 4, ρ 5, ρ 6, ρ 7, ρ 8, ρ 9, ρ 10, ρ 11, ρ 12, ρ 13, ρ 14] (γ 0) 0 [ρ 0, ρ 1, ρ 2, ρ 3, ρ 4, ρ 5, ρ 6, ρ 7, ρ 8, ρ 9, ρ 10, ρ 11, ρ 12, ρ 13, ρ 14, ρ 15 + 1, ρ 16, ρ 34, ρ 18, ρ 30] (γ 6)
  have hD : en75 (γ 0) (0, [ρ 0, ρ 15], γ 1) = .inl (0, [ρ 0, ρ 15 + 1], γ 6) := by
    unfold en75
    refine zIP (show (0 : Nat) = 0 by decide) (zLV (γ 1) rfl (zLV (ρ 0) rfl (zLV (ρ 15) rfl (zLE m2 (zLE m6 (zLE m15 (zLE m16 ?_)))))))
    refine zIN w_0 (zIN w_1 (zIP w_2 (zIP w_3 (zLE m19 (zLE m20 (zIN w_4 (zLE m21 ?_)))))))
    refine zIN w_5 (zLE c2.symm (zIN w_6 (zLE m22 (zIN w_7 (zLE c3.symm (zIN w_8 (zLE m23 ?_)))))))
    refine zIN w_9 (zLE c4.symm (zIN w_10 (zLE m24 (zIP w_11 (zLE m25 (zLE c5.symm (zLE (show fn57 [ρ 7, ρ 0] (γ 5) = (0, 0, γ 6) from l0.symm) ?_)))))))
    refine zLV (γ 6) rfl ?_
    rfl
  exact zGoo_ato hJ hD
theorem vn75a0_32 {S : Nat → zSpc} (hS57 : zIm S 57 sn57) (hS73 : zIm S 73 sn73) {a : List Int} {g : rHp} : ∀ (ρ : Nat → Int) (γ : Nat → rHp), jn75 a g 0 (zAg (zNA a75_ 0) ρ) (γ 1) → zO 15 S a g q75a0_32 ρ γ → zGl (fun i vs g1 => jn75 a g i vs g1) (sn75 a g) q75a0_32 ρ γ := by
  intro ρ γ hJ h
  obtain ⟨ha, hg, hr, hf, hm, hc, hl⟩ := h
  have ha : a = [ρ 0, ρ 1, ρ 2, ρ 3, ρ 4, ρ 5, ρ 6, ρ 7, ρ 8, ρ 9, ρ 10, ρ 11, ρ 12, ρ 13, ρ 14] := ha
  subst ha
  subst hg
  have hJ : jn75 [ρ 0, ρ 1, ρ 2, ρ 3, ρ 4, ρ 5, ρ 6, ρ 7, ρ 8, ρ 9, ρ 10, ρ 11, ρ 12, ρ 13, ρ 14] (γ 0) 0 [ρ 0, ρ 1, ρ 2, ρ 3, ρ 4, ρ 5, ρ 6, ρ 7, ρ 8, ρ 9, ρ 10, ρ 11, ρ 12, ρ 13, ρ 14, ρ 15, ρ 16, ρ 17, ρ 18, ρ 19] (γ 1) := hJ
  have r3 : (2 : Int) ≤ ρ 3 ∧ ρ 3 ≤ 2 := zRnA hr 3
  have r17 : (0 : Int) ≤ ρ 17 ∧ ρ 17 ≤ 0 := zRnA hr 17
  have r21 : (4 : Int) ≤ ρ 21 ∧ ρ 21 ≤ 4 := zRnA hr 21
  have r22 : (3 : Int) ≤ ρ 22 ∧ ρ 22 ≤ 3 := zRnA hr 22
  have r23 : (3 : Int) ≤ ρ 23 ∧ ρ 23 ≤ 3 := zRnA hr 23
  have r24 : (3 : Int) ≤ ρ 24 ∧ ρ 24 ≤ 3 := zRnA hr 24
  have r25 : (3 : Int) ≤ ρ 25 ∧ ρ 25 ≤ 3 := zRnA hr 25
  have f3 : (0 : Int) ≤ ρ 18 + -ρ 15 + (-1) := zAllA hf 3
  obtain ⟨w_0, w_1, w_2, w_3, w_4, w_5, w_6, w_7, w_8, w_9, w_10, w_11⟩ : (¬ (ρ 15 ≥ ρ 18)) ∧ (¬ (ρ 17 ≠ 0)) ∧ (ρ 3 ≤ 2) ∧ (ρ 3 ≠ 1) ∧ (¬ (0 ≥ ρ 21)) ∧ (¬ (ρ 22 ≠ 3)) ∧ (¬ (1 ≥ ρ 21)) ∧ (¬ (ρ 23 ≠ 3)) ∧ (¬ (2 ≥ ρ 21)) ∧ (¬ (ρ 24 ≠ 3)) ∧ (¬ (3 ≥ ρ 21)) ∧ (¬ (ρ 25 ≠ 3)) := ⟨by omega, by omega, by omega, by omega, by omega, by omega, by omega, by omega, by omega, by omega, by omega, by omega⟩
  have m2 : γ 0 71 0 (ρ 0) = ρ 3 := zAllA hm 2
  have m6 : γ 0 69 0 (ρ 0) = ρ 7 := zAllA hm 6
  have m15 : γ 1 15 0 77 = ρ 17 := zAllA hm 15
  have m16 : γ 1 15 0 90 = ρ 18 := zAllA hm 16
  have m19 : γ 1 107 0 (ρ 15) = ρ 20 := zAllA hm 19
  have m20 : γ 0 66 0 (ρ 7) = ρ 21 := zAllA hm 20
  have m21 : γ 0 70 0 (4 * ρ 0) = ρ 22 := zAllA hm 21
  have m22 : γ 0 70 0 (4 * ρ 0 + 1) = ρ 23 := zAllA hm 22
  have m23 : γ 0 70 0 (4 * ρ 0 + 2) = ρ 24 := zAllA hm 23
  have m24 : γ 0 70 0 (4 * ρ 0 + 3) = ρ 25 := zAllA hm 24
  have c2 : γ 2 = rUp (γ 1) 102 0 0 (ρ 20) := And.right (zChA hc 4)
  have c3 : γ 3 = rUp (γ 2) 102 0 1 (ρ 20) := And.right (zChA hc 3)
  have c4 : γ 4 = rUp (γ 3) 102 0 2 (ρ 20) := And.right (zChA hc 2)
  have c5 : γ 5 = rUp (γ 4) 102 0 3 (ρ 20) := And.right (zChA hc 1)
  have l0 : sn57 [ρ 7, ρ 0, ρ 2, ρ 19, ρ 26, ρ 27, ρ 28, ρ 10, ρ 17] (γ 5) 0 0 (γ 6) := hS57 _ _ _ _ _ (zAllA hl 0)
  show jn75 [ρ 0, ρ 1, ρ 2, ρ 3, ρ 4, ρ 5, ρ 6, ρ 7, ρ 8, ρ 9, ρ 10, ρ 11, ρ 12, ρ 13, ρ 14] (γ 0) 0 [ρ 0, ρ 1, ρ 2, ρ 3, ρ 4, ρ 5, ρ 6, ρ 7, ρ 8, ρ 9, ρ 10, ρ 11, ρ 12, ρ 13, ρ 14, ρ 15 + 1, ρ 16, ρ 33, ρ 18, ρ 29] (γ 6)
  have hD : en75 (γ 0) (0, [ρ 0, ρ 15], γ 1) = .inl (0, [ρ 0, ρ 15 + 1], γ 6) := by
    unfold en75
    refine zIP (show (0 : Nat) = 0 by decide) (zLV (γ 1) rfl (zLV (ρ 0) rfl (zLV (ρ 15) rfl (zLE m2 (zLE m6 (zLE m15 (zLE m16 ?_)))))))
    refine zIN w_0 (zIN w_1 (zIP w_2 (zIP w_3 (zLE m19 (zLE m20 (zIN w_4 (zLE m21 ?_)))))))
    refine zIN w_5 (zLE c2.symm (zIN w_6 (zLE m22 (zIN w_7 (zLE c3.symm (zIN w_8 (zLE m23 ?_)))))))
    refine zIN w_9 (zLE c4.symm (zIN w_10 (zLE m24 (zIN w_11 (zLE c5.symm (zLE (show fn57 [ρ 7, ρ 0] (γ 5) = (0, 0, γ 6) from l0.symm) (zLV (γ 6) rfl ?_)))))))
    rfl
  exact zGoo_ato hJ hD
theorem vn75a0_33 {S : Nat → zSpc} (hS57 : zIm S 57 sn57) (hS73 : zIm S 73 sn73) {a : List Int} {g : rHp} : ∀ (ρ : Nat → Int) (γ : Nat → rHp), jn75 a g 0 (zAg (zNA a75_ 0) ρ) (γ 1) → zO 15 S a g q75a0_33 ρ γ → zGl (fun i vs g1 => jn75 a g i vs g1) (sn75 a g) q75a0_33 ρ γ := by
  intro ρ γ hJ h
  obtain ⟨ha, hg, hr, hf, hm, hc, hl⟩ := h
  have ha : a = [ρ 0, ρ 1, ρ 2, ρ 3, ρ 4, ρ 5, ρ 6, ρ 7, ρ 8, ρ 9, ρ 10, ρ 11, ρ 12, ρ 13, ρ 14] := ha
  subst ha
  subst hg
  have hJ : jn75 [ρ 0, ρ 1, ρ 2, ρ 3, ρ 4, ρ 5, ρ 6, ρ 7, ρ 8, ρ 9, ρ 10, ρ 11, ρ 12, ρ 13, ρ 14] (γ 0) 0 [ρ 0, ρ 1, ρ 2, ρ 3, ρ 4, ρ 5, ρ 6, ρ 7, ρ 8, ρ 9, ρ 10, ρ 11, ρ 12, ρ 13, ρ 14, ρ 15, ρ 16, ρ 17, ρ 18, ρ 19] (γ 1) := hJ
  have r3 : (1 : Int) ≤ ρ 3 ∧ ρ 3 ≤ 1 := zRnA hr 3
  have r17 : (0 : Int) ≤ ρ 17 ∧ ρ 17 ≤ 0 := zRnA hr 17
  have r21 : (0 : Int) ≤ ρ 21 ∧ ρ 21 ≤ 0 := zRnA hr 21
  have f3 : (0 : Int) ≤ ρ 18 + -ρ 15 + (-1) := zAllA hf 3
  obtain ⟨w_0, w_1, w_2, w_3, w_4⟩ : (¬ (ρ 15 ≥ ρ 18)) ∧ (¬ (ρ 17 ≠ 0)) ∧ (ρ 3 ≤ 2) ∧ (¬ (ρ 3 ≠ 1)) ∧ (0 ≥ ρ 21) := ⟨by omega, by omega, by omega, by omega, by omega⟩
  have m2 : γ 0 71 0 (ρ 0) = ρ 3 := zAllA hm 2
  have m6 : γ 0 69 0 (ρ 0) = ρ 7 := zAllA hm 6
  have m15 : γ 1 15 0 77 = ρ 17 := zAllA hm 15
  have m16 : γ 1 15 0 90 = ρ 18 := zAllA hm 16
  have m19 : γ 1 106 0 (ρ 15) = ρ 20 := zAllA hm 19
  have m20 : γ 0 66 0 (ρ 7) = ρ 21 := zAllA hm 20
  have m21 : γ 1 105 0 (4 * ρ 15) = ρ 22 := zAllA hm 21
  have m22 : γ 1 105 0 (4 * ρ 15 + 1) = ρ 23 := zAllA hm 22
  have m23 : γ 1 105 0 (4 * ρ 15 + 2) = ρ 24 := zAllA hm 23
  have m24 : γ 1 105 0 (4 * ρ 15 + 3) = ρ 25 := zAllA hm 24
  have c2 : γ 2 = rUp (γ 1) 102 0 0 (ρ 22) := And.right (zChA hc 4)
  have c3 : γ 3 = rUp (γ 2) 102 0 1 (ρ 23) := And.right (zChA hc 3)
  have c4 : γ 4 = rUp (γ 3) 102 0 2 (ρ 24) := And.right (zChA hc 2)
  have c5 : γ 5 = rUp (γ 4) 102 0 3 (ρ 25) := And.right (zChA hc 1)
  have l0 : sn57 [ρ 7, ρ 0, ρ 2, ρ 19, ρ 26, ρ 27, ρ 28, ρ 10, ρ 17] (γ 5) 0 0 (γ 6) := hS57 _ _ _ _ _ (zAllA hl 0)
  show jn75 [ρ 0, ρ 1, ρ 2, ρ 3, ρ 4, ρ 5, ρ 6, ρ 7, ρ 8, ρ 9, ρ 10, ρ 11, ρ 12, ρ 13, ρ 14] (γ 0) 0 [ρ 0, ρ 1, ρ 2, ρ 3, ρ 4, ρ 5, ρ 6, ρ 7, ρ 8, ρ 9, ρ 10, ρ 11, ρ 12, ρ 13, ρ 14, ρ 15 + 1, ρ 16, ρ 33, ρ 18, ρ 29] (γ 6)
  have hD : en75 (γ 0) (0, [ρ 0, ρ 15], γ 1) = .inl (0, [ρ 0, ρ 15 + 1], γ 6) := by
    unfold en75
    refine zIP (show (0 : Nat) = 0 by decide) (zLV (γ 1) rfl (zLV (ρ 0) rfl (zLV (ρ 15) rfl (zLE m2 (zLE m6 (zLE m15 (zLE m16 ?_)))))))
    refine zIN w_0 (zIN w_1 (zIP w_2 (zIN w_3 (zLE m19 (zLE m20 (zIP w_4 (zLE m21 ?_)))))))
    refine zLE c2.symm (zLE m22 (zLE c3.symm (zLE m23 (zLE c4.symm (zLE m24 (zLE c5.symm (zLE (show fn57 [ρ 7, ρ 0] (γ 5) = (0, 0, γ 6) from l0.symm) ?_)))))))
    refine zLV (γ 6) rfl ?_
    rfl
  exact zGoo_ato hJ hD
theorem vn75a0_34 {S : Nat → zSpc} (hS57 : zIm S 57 sn57) (hS73 : zIm S 73 sn73) {a : List Int} {g : rHp} : ∀ (ρ : Nat → Int) (γ : Nat → rHp), jn75 a g 0 (zAg (zNA a75_ 0) ρ) (γ 1) → zO 15 S a g q75a0_34 ρ γ → zGl (fun i vs g1 => jn75 a g i vs g1) (sn75 a g) q75a0_34 ρ γ := by
  intro ρ γ hJ h
  obtain ⟨ha, hg, hr, hf, hm, hc, hl⟩ := h
  have ha : a = [ρ 0, ρ 1, ρ 2, ρ 3, ρ 4, ρ 5, ρ 6, ρ 7, ρ 8, ρ 9, ρ 10, ρ 11, ρ 12, ρ 13, ρ 14] := ha
  subst ha
  subst hg
  have hJ : jn75 [ρ 0, ρ 1, ρ 2, ρ 3, ρ 4, ρ 5, ρ 6, ρ 7, ρ 8, ρ 9, ρ 10, ρ 11, ρ 12, ρ 13, ρ 14] (γ 0) 0 [ρ 0, ρ 1, ρ 2, ρ 3, ρ 4, ρ 5, ρ 6, ρ 7, ρ 8, ρ 9, ρ 10, ρ 11, ρ 12, ρ 13, ρ 14, ρ 15, ρ 16, ρ 17, ρ 18, ρ 19] (γ 1) := hJ
  have r3 : (1 : Int) ≤ ρ 3 ∧ ρ 3 ≤ 1 := zRnA hr 3
  have r17 : (0 : Int) ≤ ρ 17 ∧ ρ 17 ≤ 0 := zRnA hr 17
  have r21 : (1 : Int) ≤ ρ 21 ∧ ρ 21 ≤ 1 := zRnA hr 21
  have r22 : (0 : Int) ≤ ρ 22 ∧ ρ 22 ≤ 2 := zRnA hr 22
  have f3 : (0 : Int) ≤ ρ 18 + -ρ 15 + (-1) := zAllA hf 3
  obtain ⟨w_0, w_1, w_2, w_3, w_4, w_5, w_6⟩ : (¬ (ρ 15 ≥ ρ 18)) ∧ (¬ (ρ 17 ≠ 0)) ∧ (ρ 3 ≤ 2) ∧ (¬ (ρ 3 ≠ 1)) ∧ (¬ (0 ≥ ρ 21)) ∧ (ρ 22 ≠ 3) ∧ (1 ≥ ρ 21) := ⟨by omega, by omega, by omega, by omega, by omega, by omega, by omega⟩
  have m2 : γ 0 71 0 (ρ 0) = ρ 3 := zAllA hm 2
  have m6 : γ 0 69 0 (ρ 0) = ρ 7 := zAllA hm 6
  have m15 : γ 1 15 0 77 = ρ 17 := zAllA hm 15
  have m16 : γ 1 15 0 90 = ρ 18 := zAllA hm 16
  have m19 : γ 1 106 0 (ρ 15) = ρ 20 := zAllA hm 19
  have m20 : γ 0 66 0 (ρ 7) = ρ 21 := zAllA hm 20
  have m21 : γ 0 70 0 (4 * ρ 0) = ρ 22 := zAllA hm 21
  have m22 : γ 1 105 0 (4 * ρ 15) = ρ 23 := zAllA hm 22
  have m23 : γ 1 105 0 (4 * ρ 15 + 1) = ρ 24 := zAllA hm 23
  have m24 : γ 1 105 0 (4 * ρ 15 + 2) = ρ 25 := zAllA hm 24
  have m25 : γ 1 105 0 (4 * ρ 15 + 3) = ρ 26 := zAllA hm 25
  have c2 : γ 2 = rUp (γ 1) 102 0 0 (ρ 23) := And.right (zChA hc 4)
  have c3 : γ 3 = rUp (γ 2) 102 0 1 (ρ 24) := And.right (zChA hc 3)
  have c4 : γ 4 = rUp (γ 3) 102 0 2 (ρ 25) := And.right (zChA hc 2)
  have c5 : γ 5 = rUp (γ 4) 102 0 3 (ρ 26) := And.right (zChA hc 1)
  have l0 : sn57 [ρ 7, ρ 0, ρ 2, ρ 19, ρ 27, ρ 28, ρ 29, ρ 10, ρ 17] (γ 5) 0 0 (γ 6) := hS57 _ _ _ _ _ (zAllA hl 0)
  show jn75 [ρ 0, ρ 1, ρ 2, ρ 3, ρ 4, ρ 5, ρ 6, ρ 7, ρ 8, ρ 9, ρ 10, ρ 11, ρ 12, ρ 13, ρ 14] (γ 0) 0 [ρ 0, ρ 1, ρ 2, ρ 3, ρ 4, ρ 5, ρ 6, ρ 7, ρ 8, ρ 9, ρ 10, ρ 11, ρ 12, ρ 13, ρ 14, ρ 15 + 1, ρ 16, ρ 34, ρ 18, ρ 30] (γ 6)
  have hD : en75 (γ 0) (0, [ρ 0, ρ 15], γ 1) = .inl (0, [ρ 0, ρ 15 + 1], γ 6) := by
    unfold en75
    refine zIP (show (0 : Nat) = 0 by decide) (zLV (γ 1) rfl (zLV (ρ 0) rfl (zLV (ρ 15) rfl (zLE m2 (zLE m6 (zLE m15 (zLE m16 ?_)))))))
    refine zIN w_0 (zIN w_1 (zIP w_2 (zIN w_3 (zLE m19 (zLE m20 (zIN w_4 (zLE m21 ?_)))))))
    refine zIP w_5 (zLE m22 (zLE c2.symm (zIP w_6 (zLE m23 (zLE c3.symm (zLE m24 (zLE c4.symm ?_)))))))
    refine zLE m25 (zLE c5.symm (zLE (show fn57 [ρ 7, ρ 0] (γ 5) = (0, 0, γ 6) from l0.symm) (zLV (γ 6) rfl ?_)))
    rfl
  exact zGoo_ato hJ hD
theorem vn75a0_35 {S : Nat → zSpc} (hS57 : zIm S 57 sn57) (hS73 : zIm S 73 sn73) {a : List Int} {g : rHp} : ∀ (ρ : Nat → Int) (γ : Nat → rHp), jn75 a g 0 (zAg (zNA a75_ 0) ρ) (γ 1) → zO 15 S a g q75a0_35 ρ γ → zGl (fun i vs g1 => jn75 a g i vs g1) (sn75 a g) q75a0_35 ρ γ := by
  intro ρ γ hJ h
  obtain ⟨ha, hg, hr, hf, hm, hc, hl⟩ := h
  have ha : a = [ρ 0, ρ 1, ρ 2, ρ 3, ρ 4, ρ 5, ρ 6, ρ 7, ρ 8, ρ 9, ρ 10, ρ 11, ρ 12, ρ 13, ρ 14] := ha
  subst ha
  subst hg
  have hJ : jn75 [ρ 0, ρ 1, ρ 2, ρ 3, ρ 4, ρ 5, ρ 6, ρ 7, ρ 8, ρ 9, ρ 10, ρ 11, ρ 12, ρ 13, ρ 14] (γ 0) 0 [ρ 0, ρ 1, ρ 2, ρ 3, ρ 4, ρ 5, ρ 6, ρ 7, ρ 8, ρ 9, ρ 10, ρ 11, ρ 12, ρ 13, ρ 14, ρ 15, ρ 16, ρ 17, ρ 18, ρ 19] (γ 1) := hJ
  have r3 : (1 : Int) ≤ ρ 3 ∧ ρ 3 ≤ 1 := zRnA hr 3
  have r17 : (0 : Int) ≤ ρ 17 ∧ ρ 17 ≤ 0 := zRnA hr 17
  have r21 : (2 : Int) ≤ ρ 21 ∧ ρ 21 ≤ 2 := zRnA hr 21
  have r22 : (0 : Int) ≤ ρ 22 ∧ ρ 22 ≤ 2 := zRnA hr 22
  have r24 : (0 : Int) ≤ ρ 24 ∧ ρ 24 ≤ 2 := zRnA hr 24
  have f3 : (0 : Int) ≤ ρ 18 + -ρ 15 + (-1) := zAllA hf 3
  obtain ⟨w_0, w_1, w_2, w_3, w_4, w_5, w_6, w_7, w_8⟩ : (¬ (ρ 15 ≥ ρ 18)) ∧ (¬ (ρ 17 ≠ 0)) ∧ (ρ 3 ≤ 2) ∧ (¬ (ρ 3 ≠ 1)) ∧ (¬ (0 ≥ ρ 21)) ∧ (ρ 22 ≠ 3) ∧ (¬ (1 ≥ ρ 21)) ∧ (ρ 24 ≠ 3) ∧ (2 ≥ ρ 21) := ⟨by omega, by omega, by omega, by omega, by omega, by omega, by omega, by omega, by omega⟩
  have m2 : γ 0 71 0 (ρ 0) = ρ 3 := zAllA hm 2
  have m6 : γ 0 69 0 (ρ 0) = ρ 7 := zAllA hm 6
  have m15 : γ 1 15 0 77 = ρ 17 := zAllA hm 15
  have m16 : γ 1 15 0 90 = ρ 18 := zAllA hm 16
  have m19 : γ 1 106 0 (ρ 15) = ρ 20 := zAllA hm 19
  have m20 : γ 0 66 0 (ρ 7) = ρ 21 := zAllA hm 20
  have m21 : γ 0 70 0 (4 * ρ 0) = ρ 22 := zAllA hm 21
  have m22 : γ 1 105 0 (4 * ρ 15) = ρ 23 := zAllA hm 22
  have m23 : γ 0 70 0 (4 * ρ 0 + 1) = ρ 24 := zAllA hm 23
  have m24 : γ 1 105 0 (4 * ρ 15 + 1) = ρ 25 := zAllA hm 24
  have m25 : γ 1 105 0 (4 * ρ 15 + 2) = ρ 26 := zAllA hm 25
  have m26 : γ 1 105 0 (4 * ρ 15 + 3) = ρ 27 := zAllA hm 26
  have c2 : γ 2 = rUp (γ 1) 102 0 0 (ρ 23) := And.right (zChA hc 4)
  have c3 : γ 3 = rUp (γ 2) 102 0 1 (ρ 25) := And.right (zChA hc 3)
  have c4 : γ 4 = rUp (γ 3) 102 0 2 (ρ 26) := And.right (zChA hc 2)
  have c5 : γ 5 = rUp (γ 4) 102 0 3 (ρ 27) := And.right (zChA hc 1)
  have l0 : sn57 [ρ 7, ρ 0, ρ 2, ρ 19, ρ 28, ρ 29, ρ 30, ρ 10, ρ 17] (γ 5) 0 0 (γ 6) := hS57 _ _ _ _ _ (zAllA hl 0)
  show jn75 [ρ 0, ρ 1, ρ 2, ρ 3, ρ 4, ρ 5, ρ 6, ρ 7, ρ 8, ρ 9, ρ 10, ρ 11, ρ 12, ρ 13, ρ 14] (γ 0) 0 [ρ 0, ρ 1, ρ 2, ρ 3, ρ 4, ρ 5, ρ 6, ρ 7, ρ 8, ρ 9, ρ 10, ρ 11, ρ 12, ρ 13, ρ 14, ρ 15 + 1, ρ 16, ρ 35, ρ 18, ρ 31] (γ 6)
  have hD : en75 (γ 0) (0, [ρ 0, ρ 15], γ 1) = .inl (0, [ρ 0, ρ 15 + 1], γ 6) := by
    unfold en75
    refine zIP (show (0 : Nat) = 0 by decide) (zLV (γ 1) rfl (zLV (ρ 0) rfl (zLV (ρ 15) rfl (zLE m2 (zLE m6 (zLE m15 (zLE m16 ?_)))))))
    refine zIN w_0 (zIN w_1 (zIP w_2 (zIN w_3 (zLE m19 (zLE m20 (zIN w_4 (zLE m21 ?_)))))))
    refine zIP w_5 (zLE m22 (zLE c2.symm (zIN w_6 (zLE m23 (zIP w_7 (zLE m24 (zLE c3.symm ?_)))))))
    refine zIP w_8 (zLE m25 (zLE c4.symm (zLE m26 (zLE c5.symm (zLE (show fn57 [ρ 7, ρ 0] (γ 5) = (0, 0, γ 6) from l0.symm) (zLV (γ 6) rfl ?_))))))
    rfl
  exact zGoo_ato hJ hD
theorem vn75a0_36 {S : Nat → zSpc} (hS57 : zIm S 57 sn57) (hS73 : zIm S 73 sn73) {a : List Int} {g : rHp} : ∀ (ρ : Nat → Int) (γ : Nat → rHp), jn75 a g 0 (zAg (zNA a75_ 0) ρ) (γ 1) → zO 15 S a g q75a0_36 ρ γ → zGl (fun i vs g1 => jn75 a g i vs g1) (sn75 a g) q75a0_36 ρ γ := by
  intro ρ γ hJ h
  obtain ⟨ha, hg, hr, hf, hm, hc, hl⟩ := h
  have ha : a = [ρ 0, ρ 1, ρ 2, ρ 3, ρ 4, ρ 5, ρ 6, ρ 7, ρ 8, ρ 9, ρ 10, ρ 11, ρ 12, ρ 13, ρ 14] := ha
  subst ha
  subst hg
  have hJ : jn75 [ρ 0, ρ 1, ρ 2, ρ 3, ρ 4, ρ 5, ρ 6, ρ 7, ρ 8, ρ 9, ρ 10, ρ 11, ρ 12, ρ 13, ρ 14] (γ 0) 0 [ρ 0, ρ 1, ρ 2, ρ 3, ρ 4, ρ 5, ρ 6, ρ 7, ρ 8, ρ 9, ρ 10, ρ 11, ρ 12, ρ 13, ρ 14, ρ 15, ρ 16, ρ 17, ρ 18, ρ 19] (γ 1) := hJ
  have r3 : (1 : Int) ≤ ρ 3 ∧ ρ 3 ≤ 1 := zRnA hr 3
  have r17 : (0 : Int) ≤ ρ 17 ∧ ρ 17 ≤ 0 := zRnA hr 17
  have r21 : (3 : Int) ≤ ρ 21 ∧ ρ 21 ≤ 3 := zRnA hr 21
  have r22 : (0 : Int) ≤ ρ 22 ∧ ρ 22 ≤ 2 := zRnA hr 22
  have r24 : (0 : Int) ≤ ρ 24 ∧ ρ 24 ≤ 2 := zRnA hr 24
  have r26 : (0 : Int) ≤ ρ 26 ∧ ρ 26 ≤ 2 := zRnA hr 26
  have f3 : (0 : Int) ≤ ρ 18 + -ρ 15 + (-1) := zAllA hf 3
  obtain ⟨w_0, w_1, w_2, w_3, w_4, w_5, w_6, w_7, w_8, w_9, w_10⟩ : (¬ (ρ 15 ≥ ρ 18)) ∧ (¬ (ρ 17 ≠ 0)) ∧ (ρ 3 ≤ 2) ∧ (¬ (ρ 3 ≠ 1)) ∧ (¬ (0 ≥ ρ 21)) ∧ (ρ 22 ≠ 3) ∧ (¬ (1 ≥ ρ 21)) ∧ (ρ 24 ≠ 3) ∧ (¬ (2 ≥ ρ 21)) ∧ (ρ 26 ≠ 3) ∧ (3 ≥ ρ 21) := ⟨by omega, by omega, by omega, by omega, by omega, by omega, by omega, by omega, by omega, by omega, by omega⟩
  have m2 : γ 0 71 0 (ρ 0) = ρ 3 := zAllA hm 2
  have m6 : γ 0 69 0 (ρ 0) = ρ 7 := zAllA hm 6
  have m15 : γ 1 15 0 77 = ρ 17 := zAllA hm 15
  have m16 : γ 1 15 0 90 = ρ 18 := zAllA hm 16
  have m19 : γ 1 106 0 (ρ 15) = ρ 20 := zAllA hm 19
  have m20 : γ 0 66 0 (ρ 7) = ρ 21 := zAllA hm 20
  have m21 : γ 0 70 0 (4 * ρ 0) = ρ 22 := zAllA hm 21
  have m22 : γ 1 105 0 (4 * ρ 15) = ρ 23 := zAllA hm 22
  have m23 : γ 0 70 0 (4 * ρ 0 + 1) = ρ 24 := zAllA hm 23
  have m24 : γ 1 105 0 (4 * ρ 15 + 1) = ρ 25 := zAllA hm 24
  have m25 : γ 0 70 0 (4 * ρ 0 + 2) = ρ 26 := zAllA hm 25
  have m26 : γ 1 105 0 (4 * ρ 15 + 2) = ρ 27 := zAllA hm 26
  have m27 : γ 1 105 0 (4 * ρ 15 + 3) = ρ 28 := zAllA hm 27
  have c2 : γ 2 = rUp (γ 1) 102 0 0 (ρ 23) := And.right (zChA hc 4)
  have c3 : γ 3 = rUp (γ 2) 102 0 1 (ρ 25) := And.right (zChA hc 3)
  have c4 : γ 4 = rUp (γ 3) 102 0 2 (ρ 27) := And.right (zChA hc 2)
  have c5 : γ 5 = rUp (γ 4) 102 0 3 (ρ 28) := And.right (zChA hc 1)
  have l0 : sn57 [ρ 7, ρ 0, ρ 2, ρ 19, ρ 29, ρ 30, ρ 31, ρ 10, ρ 17] (γ 5) 0 0 (γ 6) := hS57 _ _ _ _ _ (zAllA hl 0)
  show jn75 [ρ 0, ρ 1, ρ 2, ρ 3, ρ 4, ρ 5, ρ 6, ρ 7, ρ 8, ρ 9, ρ 10, ρ 11, ρ 12, ρ 13, ρ 14] (γ 0) 0 [ρ 0, ρ 1, ρ 2, ρ 3, ρ 4, ρ 5, ρ 6, ρ 7, ρ 8, ρ 9, ρ 10, ρ 11, ρ 12, ρ 13, ρ 14, ρ 15 + 1, ρ 16, ρ 36, ρ 18, ρ 32] (γ 6)
  have hD : en75 (γ 0) (0, [ρ 0, ρ 15], γ 1) = .inl (0, [ρ 0, ρ 15 + 1], γ 6) := by
    unfold en75
    refine zIP (show (0 : Nat) = 0 by decide) (zLV (γ 1) rfl (zLV (ρ 0) rfl (zLV (ρ 15) rfl (zLE m2 (zLE m6 (zLE m15 (zLE m16 ?_)))))))
    refine zIN w_0 (zIN w_1 (zIP w_2 (zIN w_3 (zLE m19 (zLE m20 (zIN w_4 (zLE m21 ?_)))))))
    refine zIP w_5 (zLE m22 (zLE c2.symm (zIN w_6 (zLE m23 (zIP w_7 (zLE m24 (zLE c3.symm ?_)))))))
    refine zIN w_8 (zLE m25 (zIP w_9 (zLE m26 (zLE c4.symm (zIP w_10 (zLE m27 (zLE c5.symm ?_)))))))
    refine zLE (show fn57 [ρ 7, ρ 0] (γ 5) = (0, 0, γ 6) from l0.symm) (zLV (γ 6) rfl ?_)
    rfl
  exact zGoo_ato hJ hD
theorem vn75a0_37 {S : Nat → zSpc} (hS57 : zIm S 57 sn57) (hS73 : zIm S 73 sn73) {a : List Int} {g : rHp} : ∀ (ρ : Nat → Int) (γ : Nat → rHp), jn75 a g 0 (zAg (zNA a75_ 0) ρ) (γ 1) → zO 15 S a g q75a0_37 ρ γ → zGl (fun i vs g1 => jn75 a g i vs g1) (sn75 a g) q75a0_37 ρ γ := by
  intro ρ γ hJ h
  obtain ⟨ha, hg, hr, hf, hm, hc, hl⟩ := h
  have ha : a = [ρ 0, ρ 1, ρ 2, ρ 3, ρ 4, ρ 5, ρ 6, ρ 7, ρ 8, ρ 9, ρ 10, ρ 11, ρ 12, ρ 13, ρ 14] := ha
  subst ha
  subst hg
  have hJ : jn75 [ρ 0, ρ 1, ρ 2, ρ 3, ρ 4, ρ 5, ρ 6, ρ 7, ρ 8, ρ 9, ρ 10, ρ 11, ρ 12, ρ 13, ρ 14] (γ 0) 0 [ρ 0, ρ 1, ρ 2, ρ 3, ρ 4, ρ 5, ρ 6, ρ 7, ρ 8, ρ 9, ρ 10, ρ 11, ρ 12, ρ 13, ρ 14, ρ 15, ρ 16, ρ 17, ρ 18, ρ 19] (γ 1) := hJ
  have r3 : (1 : Int) ≤ ρ 3 ∧ ρ 3 ≤ 1 := zRnA hr 3
  have r17 : (0 : Int) ≤ ρ 17 ∧ ρ 17 ≤ 0 := zRnA hr 17
  have r21 : (4 : Int) ≤ ρ 21 ∧ ρ 21 ≤ 4 := zRnA hr 21
  have r22 : (0 : Int) ≤ ρ 22 ∧ ρ 22 ≤ 2 := zRnA hr 22
  have r24 : (0 : Int) ≤ ρ 24 ∧ ρ 24 ≤ 2 := zRnA hr 24
  have r26 : (0 : Int) ≤ ρ 26 ∧ ρ 26 ≤ 2 := zRnA hr 26
  have r28 : (0 : Int) ≤ ρ 28 ∧ ρ 28 ≤ 2 := zRnA hr 28
  have f3 : (0 : Int) ≤ ρ 18 + -ρ 15 + (-1) := zAllA hf 3
  obtain ⟨w_0, w_1, w_2, w_3, w_4, w_5, w_6, w_7, w_8, w_9, w_10, w_11⟩ : (¬ (ρ 15 ≥ ρ 18)) ∧ (¬ (ρ 17 ≠ 0)) ∧ (ρ 3 ≤ 2) ∧ (¬ (ρ 3 ≠ 1)) ∧ (¬ (0 ≥ ρ 21)) ∧ (ρ 22 ≠ 3) ∧ (¬ (1 ≥ ρ 21)) ∧ (ρ 24 ≠ 3) ∧ (¬ (2 ≥ ρ 21)) ∧ (ρ 26 ≠ 3) ∧ (¬ (3 ≥ ρ 21)) ∧ (ρ 28 ≠ 3) := ⟨by omega, by omega, by omega, by omega, by omega, by omega, by omega, by omega, by omega, by omega, by omega, by omega⟩
  have m2 : γ 0 71 0 (ρ 0) = ρ 3 := zAllA hm 2
  have m6 : γ 0 69 0 (ρ 0) = ρ 7 := zAllA hm 6
  have m15 : γ 1 15 0 77 = ρ 17 := zAllA hm 15
  have m16 : γ 1 15 0 90 = ρ 18 := zAllA hm 16
  have m19 : γ 1 106 0 (ρ 15) = ρ 20 := zAllA hm 19
  have m20 : γ 0 66 0 (ρ 7) = ρ 21 := zAllA hm 20
  have m21 : γ 0 70 0 (4 * ρ 0) = ρ 22 := zAllA hm 21
  have m22 : γ 1 105 0 (4 * ρ 15) = ρ 23 := zAllA hm 22
  have m23 : γ 0 70 0 (4 * ρ 0 + 1) = ρ 24 := zAllA hm 23
  have m24 : γ 1 105 0 (4 * ρ 15 + 1) = ρ 25 := zAllA hm 24
  have m25 : γ 0 70 0 (4 * ρ 0 + 2) = ρ 26 := zAllA hm 25
  have m26 : γ 1 105 0 (4 * ρ 15 + 2) = ρ 27 := zAllA hm 26
  have m27 : γ 0 70 0 (4 * ρ 0 + 3) = ρ 28 := zAllA hm 27
  have m28 : γ 1 105 0 (4 * ρ 15 + 3) = ρ 29 := zAllA hm 28
  have c2 : γ 2 = rUp (γ 1) 102 0 0 (ρ 23) := And.right (zChA hc 4)
  have c3 : γ 3 = rUp (γ 2) 102 0 1 (ρ 25) := And.right (zChA hc 3)
  have c4 : γ 4 = rUp (γ 3) 102 0 2 (ρ 27) := And.right (zChA hc 2)
  have c5 : γ 5 = rUp (γ 4) 102 0 3 (ρ 29) := And.right (zChA hc 1)
  have l0 : sn57 [ρ 7, ρ 0, ρ 2, ρ 19, ρ 30, ρ 31, ρ 32, ρ 10, ρ 17] (γ 5) 0 0 (γ 6) := hS57 _ _ _ _ _ (zAllA hl 0)
  show jn75 [ρ 0, ρ 1, ρ 2, ρ 3, ρ 4, ρ 5, ρ 6, ρ 7, ρ 8, ρ 9, ρ 10, ρ 11, ρ 12, ρ 13, ρ 14] (γ 0) 0 [ρ 0, ρ 1, ρ 2, ρ 3, ρ 4, ρ 5, ρ 6, ρ 7, ρ 8, ρ 9, ρ 10, ρ 11, ρ 12, ρ 13, ρ 14, ρ 15 + 1, ρ 16, ρ 37, ρ 18, ρ 33] (γ 6)
  have hD : en75 (γ 0) (0, [ρ 0, ρ 15], γ 1) = .inl (0, [ρ 0, ρ 15 + 1], γ 6) := by
    unfold en75
    refine zIP (show (0 : Nat) = 0 by decide) (zLV (γ 1) rfl (zLV (ρ 0) rfl (zLV (ρ 15) rfl (zLE m2 (zLE m6 (zLE m15 (zLE m16 ?_)))))))
    refine zIN w_0 (zIN w_1 (zIP w_2 (zIN w_3 (zLE m19 (zLE m20 (zIN w_4 (zLE m21 ?_)))))))
    refine zIP w_5 (zLE m22 (zLE c2.symm (zIN w_6 (zLE m23 (zIP w_7 (zLE m24 (zLE c3.symm ?_)))))))
    refine zIN w_8 (zLE m25 (zIP w_9 (zLE m26 (zLE c4.symm (zIN w_10 (zLE m27 (zIP w_11 ?_)))))))
    refine zLE m28 (zLE c5.symm (zLE (show fn57 [ρ 7, ρ 0] (γ 5) = (0, 0, γ 6) from l0.symm) (zLV (γ 6) rfl ?_)))
    rfl
  exact zGoo_ato hJ hD
theorem vn75a0_38 {S : Nat → zSpc} (hS57 : zIm S 57 sn57) (hS73 : zIm S 73 sn73) {a : List Int} {g : rHp} : ∀ (ρ : Nat → Int) (γ : Nat → rHp), jn75 a g 0 (zAg (zNA a75_ 0) ρ) (γ 1) → zO 15 S a g q75a0_38 ρ γ → zGl (fun i vs g1 => jn75 a g i vs g1) (sn75 a g) q75a0_38 ρ γ := by
  intro ρ γ hJ h
  obtain ⟨ha, hg, hr, hf, hm, hc, hl⟩ := h
  have ha : a = [ρ 0, ρ 1, ρ 2, ρ 3, ρ 4, ρ 5, ρ 6, ρ 7, ρ 8, ρ 9, ρ 10, ρ 11, ρ 12, ρ 13, ρ 14] := ha
  subst ha
  subst hg
  have hJ : jn75 [ρ 0, ρ 1, ρ 2, ρ 3, ρ 4, ρ 5, ρ 6, ρ 7, ρ 8, ρ 9, ρ 10, ρ 11, ρ 12, ρ 13, ρ 14] (γ 0) 0 [ρ 0, ρ 1, ρ 2, ρ 3, ρ 4, ρ 5, ρ 6, ρ 7, ρ 8, ρ 9, ρ 10, ρ 11, ρ 12, ρ 13, ρ 14, ρ 15, ρ 16, ρ 17, ρ 18, ρ 19] (γ 1) := hJ
  have r3 : (1 : Int) ≤ ρ 3 ∧ ρ 3 ≤ 1 := zRnA hr 3
  have r17 : (0 : Int) ≤ ρ 17 ∧ ρ 17 ≤ 0 := zRnA hr 17
  have r21 : (4 : Int) ≤ ρ 21 ∧ ρ 21 ≤ 4 := zRnA hr 21
  have r22 : (0 : Int) ≤ ρ 22 ∧ ρ 22 ≤ 2 := zRnA hr 22
  have r24 : (0 : Int) ≤ ρ 24 ∧ ρ 24 ≤ 2 := zRnA hr 24
  have r26 : (0 : Int) ≤ ρ 26 ∧ ρ 26 ≤ 2 := zRnA hr 26
  have r28 : (3 : Int) ≤ ρ 28 ∧ ρ 28 ≤ 3 := zRnA hr 28
  have f3 : (0 : Int) ≤ ρ 18 + -ρ 15 + (-1) := zAllA hf 3
  obtain ⟨w_0, w_1, w_2, w_3, w_4, w_5, w_6, w_7, w_8, w_9, w_10, w_11⟩ : (¬ (ρ 15 ≥ ρ 18)) ∧ (¬ (ρ 17 ≠ 0)) ∧ (ρ 3 ≤ 2) ∧ (¬ (ρ 3 ≠ 1)) ∧ (¬ (0 ≥ ρ 21)) ∧ (ρ 22 ≠ 3) ∧ (¬ (1 ≥ ρ 21)) ∧ (ρ 24 ≠ 3) ∧ (¬ (2 ≥ ρ 21)) ∧ (ρ 26 ≠ 3) ∧ (¬ (3 ≥ ρ 21)) ∧ (¬ (ρ 28 ≠ 3)) := ⟨by omega, by omega, by omega, by omega, by omega, by omega, by omega, by omega, by omega, by omega, by omega, by omega⟩
  have m2 : γ 0 71 0 (ρ 0) = ρ 3 := zAllA hm 2
  have m6 : γ 0 69 0 (ρ 0) = ρ 7 := zAllA hm 6
  have m15 : γ 1 15 0 77 = ρ 17 := zAllA hm 15
  have m16 : γ 1 15 0 90 = ρ 18 := zAllA hm 16
  have m19 : γ 1 106 0 (ρ 15) = ρ 20 := zAllA hm 19
  have m20 : γ 0 66 0 (ρ 7) = ρ 21 := zAllA hm 20
  have m21 : γ 0 70 0 (4 * ρ 0) = ρ 22 := zAllA hm 21
  have m22 : γ 1 105 0 (4 * ρ 15) = ρ 23 := zAllA hm 22
  have m23 : γ 0 70 0 (4 * ρ 0 + 1) = ρ 24 := zAllA hm 23
  have m24 : γ 1 105 0 (4 * ρ 15 + 1) = ρ 25 := zAllA hm 24
  have m25 : γ 0 70 0 (4 * ρ 0 + 2) = ρ 26 := zAllA hm 25
  have m26 : γ 1 105 0 (4 * ρ 15 + 2) = ρ 27 := zAllA hm 26
  have m27 : γ 0 70 0 (4 * ρ 0 + 3) = ρ 28 := zAllA hm 27
  have c2 : γ 2 = rUp (γ 1) 102 0 0 (ρ 23) := And.right (zChA hc 4)
  have c3 : γ 3 = rUp (γ 2) 102 0 1 (ρ 25) := And.right (zChA hc 3)
  have c4 : γ 4 = rUp (γ 3) 102 0 2 (ρ 27) := And.right (zChA hc 2)
  have c5 : γ 5 = rUp (γ 4) 102 0 3 (ρ 20) := And.right (zChA hc 1)
  have l0 : sn57 [ρ 7, ρ 0, ρ 2, ρ 19, ρ 29, ρ 30, ρ 31, ρ 10, ρ 17] (γ 5) 0 0 (γ 6) := hS57 _ _ _ _ _ (zAllA hl 0)
  show jn75 [ρ 0, ρ 1, ρ 2, ρ 3, ρ 4, ρ 5, ρ 6, ρ 7, ρ 8, ρ 9, ρ 10, ρ 11, ρ 12, ρ 13, ρ 14] (γ 0) 0 [ρ 0, ρ 1, ρ 2, ρ 3, ρ 4, ρ 5, ρ 6, ρ 7, ρ 8, ρ 9, ρ 10, ρ 11, ρ 12, ρ 13, ρ 14, ρ 15 + 1, ρ 16, ρ 36, ρ 18, ρ 32] (γ 6)
  have hD : en75 (γ 0) (0, [ρ 0, ρ 15], γ 1) = .inl (0, [ρ 0, ρ 15 + 1], γ 6) := by
    unfold en75
    refine zIP (show (0 : Nat) = 0 by decide) (zLV (γ 1) rfl (zLV (ρ 0) rfl (zLV (ρ 15) rfl (zLE m2 (zLE m6 (zLE m15 (zLE m16 ?_)))))))
    refine zIN w_0 (zIN w_1 (zIP w_2 (zIN w_3 (zLE m19 (zLE m20 (zIN w_4 (zLE m21 ?_)))))))
    refine zIP w_5 (zLE m22 (zLE c2.symm (zIN w_6 (zLE m23 (zIP w_7 (zLE m24 (zLE c3.symm ?_)))))))
    refine zIN w_8 (zLE m25 (zIP w_9 (zLE m26 (zLE c4.symm (zIN w_10 (zLE m27 (zIN w_11 ?_)))))))
    refine zLE c5.symm (zLE (show fn57 [ρ 7, ρ 0] (γ 5) = (0, 0, γ 6) from l0.symm) (zLV (γ 6) rfl ?_))
    rfl
  exact zGoo_ato hJ hD
theorem vn75a0_39 {S : Nat → zSpc} (hS57 : zIm S 57 sn57) (hS73 : zIm S 73 sn73) {a : List Int} {g : rHp} : ∀ (ρ : Nat → Int) (γ : Nat → rHp), jn75 a g 0 (zAg (zNA a75_ 0) ρ) (γ 1) → zO 15 S a g q75a0_39 ρ γ → zGl (fun i vs g1 => jn75 a g i vs g1) (sn75 a g) q75a0_39 ρ γ := by
  intro ρ γ hJ h
  obtain ⟨ha, hg, hr, hf, hm, hc, hl⟩ := h
  have ha : a = [ρ 0, ρ 1, ρ 2, ρ 3, ρ 4, ρ 5, ρ 6, ρ 7, ρ 8, ρ 9, ρ 10, ρ 11, ρ 12, ρ 13, ρ 14] := ha
  subst ha
  subst hg
  have hJ : jn75 [ρ 0, ρ 1, ρ 2, ρ 3, ρ 4, ρ 5, ρ 6, ρ 7, ρ 8, ρ 9, ρ 10, ρ 11, ρ 12, ρ 13, ρ 14] (γ 0) 0 [ρ 0, ρ 1, ρ 2, ρ 3, ρ 4, ρ 5, ρ 6, ρ 7, ρ 8, ρ 9, ρ 10, ρ 11, ρ 12, ρ 13, ρ 14, ρ 15, ρ 16, ρ 17, ρ 18, ρ 19] (γ 1) := hJ
  have r3 : (1 : Int) ≤ ρ 3 ∧ ρ 3 ≤ 1 := zRnA hr 3
  have r17 : (0 : Int) ≤ ρ 17 ∧ ρ 17 ≤ 0 := zRnA hr 17
  have r21 : (3 : Int) ≤ ρ 21 ∧ ρ 21 ≤ 3 := zRnA hr 21
  have r22 : (0 : Int) ≤ ρ 22 ∧ ρ 22 ≤ 2 := zRnA hr 22
  have r24 : (0 : Int) ≤ ρ 24 ∧ ρ 24 ≤ 2 := zRnA hr 24
  have r26 : (3 : Int) ≤ ρ 26 ∧ ρ 26 ≤ 3 := zRnA hr 26
  have f3 : (0 : Int) ≤ ρ 18 + -ρ 15 + (-1) := zAllA hf 3
  obtain ⟨w_0, w_1, w_2, w_3, w_4, w_5, w_6, w_7, w_8, w_9, w_10⟩ : (¬ (ρ 15 ≥ ρ 18)) ∧ (¬ (ρ 17 ≠ 0)) ∧ (ρ 3 ≤ 2) ∧ (¬ (ρ 3 ≠ 1)) ∧ (¬ (0 ≥ ρ 21)) ∧ (ρ 22 ≠ 3) ∧ (¬ (1 ≥ ρ 21)) ∧ (ρ 24 ≠ 3) ∧ (¬ (2 ≥ ρ 21)) ∧ (¬ (ρ 26 ≠ 3)) ∧ (3 ≥ ρ 21) := ⟨by omega, by omega, by omega, by omega, by omega, by omega, by omega, by omega, by omega, by omega, by omega⟩
  have m2 : γ 0 71 0 (ρ 0) = ρ 3 := zAllA hm 2
  have m6 : γ 0 69 0 (ρ 0) = ρ 7 := zAllA hm 6
  have m15 : γ 1 15 0 77 = ρ 17 := zAllA hm 15
  have m16 : γ 1 15 0 90 = ρ 18 := zAllA hm 16
  have m19 : γ 1 106 0 (ρ 15) = ρ 20 := zAllA hm 19
  have m20 : γ 0 66 0 (ρ 7) = ρ 21 := zAllA hm 20
  have m21 : γ 0 70 0 (4 * ρ 0) = ρ 22 := zAllA hm 21
  have m22 : γ 1 105 0 (4 * ρ 15) = ρ 23 := zAllA hm 22
  have m23 : γ 0 70 0 (4 * ρ 0 + 1) = ρ 24 := zAllA hm 23
  have m24 : γ 1 105 0 (4 * ρ 15 + 1) = ρ 25 := zAllA hm 24
  have m25 : γ 0 70 0 (4 * ρ 0 + 2) = ρ 26 := zAllA hm 25
  have m26 : γ 1 105 0 (4 * ρ 15 + 3) = ρ 27 := zAllA hm 26
  have c2 : γ 2 = rUp (γ 1) 102 0 0 (ρ 23) := And.right (zChA hc 4)
  have c3 : γ 3 = rUp (γ 2) 102 0 1 (ρ 25) := And.right (zChA hc 3)
  have c4 : γ 4 = rUp (γ 3) 102 0 2 (ρ 20) := And.right (zChA hc 2)
  have c5 : γ 5 = rUp (γ 4) 102 0 3 (ρ 27) := And.right (zChA hc 1)
  have l0 : sn57 [ρ 7, ρ 0, ρ 2, ρ 19, ρ 28, ρ 29, ρ 30, ρ 10, ρ 17] (γ 5) 0 0 (γ 6) := hS57 _ _ _ _ _ (zAllA hl 0)
  show jn75 [ρ 0, ρ 1, ρ 2, ρ 3, ρ 4, ρ 5, ρ 6, ρ 7, ρ 8, ρ 9, ρ 10, ρ 11, ρ 12, ρ 13, ρ 14] (γ 0) 0 [ρ 0, ρ 1, ρ 2, ρ 3, ρ 4, ρ 5, ρ 6, ρ 7, ρ 8, ρ 9, ρ 10, ρ 11, ρ 12, ρ 13, ρ 14, ρ 15 + 1, ρ 16, ρ 35, ρ 18, ρ 31] (γ 6)
  have hD : en75 (γ 0) (0, [ρ 0, ρ 15], γ 1) = .inl (0, [ρ 0, ρ 15 + 1], γ 6) := by
    unfold en75
    refine zIP (show (0 : Nat) = 0 by decide) (zLV (γ 1) rfl (zLV (ρ 0) rfl (zLV (ρ 15) rfl (zLE m2 (zLE m6 (zLE m15 (zLE m16 ?_)))))))
    refine zIN w_0 (zIN w_1 (zIP w_2 (zIN w_3 (zLE m19 (zLE m20 (zIN w_4 (zLE m21 ?_)))))))
    refine zIP w_5 (zLE m22 (zLE c2.symm (zIN w_6 (zLE m23 (zIP w_7 (zLE m24 (zLE c3.symm ?_)))))))
    refine zIN w_8 (zLE m25 (zIN w_9 (zLE c4.symm (zIP w_10 (zLE m26 (zLE c5.symm (zLE (show fn57 [ρ 7, ρ 0] (γ 5) = (0, 0, γ 6) from l0.symm) ?_)))))))
    refine zLV (γ 6) rfl ?_
    rfl
  exact zGoo_ato hJ hD
theorem vn75a0_40 {S : Nat → zSpc} (hS57 : zIm S 57 sn57) (hS73 : zIm S 73 sn73) {a : List Int} {g : rHp} : ∀ (ρ : Nat → Int) (γ : Nat → rHp), jn75 a g 0 (zAg (zNA a75_ 0) ρ) (γ 1) → zO 15 S a g q75a0_40 ρ γ → zGl (fun i vs g1 => jn75 a g i vs g1) (sn75 a g) q75a0_40 ρ γ := by
  intro ρ γ hJ h
  obtain ⟨ha, hg, hr, hf, hm, hc, hl⟩ := h
  have ha : a = [ρ 0, ρ 1, ρ 2, ρ 3, ρ 4, ρ 5, ρ 6, ρ 7, ρ 8, ρ 9, ρ 10, ρ 11, ρ 12, ρ 13, ρ 14] := ha
  subst ha
  subst hg
  have hJ : jn75 [ρ 0, ρ 1, ρ 2, ρ 3, ρ 4, ρ 5, ρ 6, ρ 7, ρ 8, ρ 9, ρ 10, ρ 11, ρ 12, ρ 13, ρ 14] (γ 0) 0 [ρ 0, ρ 1, ρ 2, ρ 3, ρ 4, ρ 5, ρ 6, ρ 7, ρ 8, ρ 9, ρ 10, ρ 11, ρ 12, ρ 13, ρ 14, ρ 15, ρ 16, ρ 17, ρ 18, ρ 19] (γ 1) := hJ
  have r3 : (1 : Int) ≤ ρ 3 ∧ ρ 3 ≤ 1 := zRnA hr 3
  have r17 : (0 : Int) ≤ ρ 17 ∧ ρ 17 ≤ 0 := zRnA hr 17
  have r21 : (4 : Int) ≤ ρ 21 ∧ ρ 21 ≤ 4 := zRnA hr 21
  have r22 : (0 : Int) ≤ ρ 22 ∧ ρ 22 ≤ 2 := zRnA hr 22
  have r24 : (0 : Int) ≤ ρ 24 ∧ ρ 24 ≤ 2 := zRnA hr 24
  have r26 : (3 : Int) ≤ ρ 26 ∧ ρ 26 ≤ 3 := zRnA hr 26
  have r27 : (0 : Int) ≤ ρ 27 ∧ ρ 27 ≤ 2 := zRnA hr 27
  have f3 : (0 : Int) ≤ ρ 18 + -ρ 15 + (-1) := zAllA hf 3
  obtain ⟨w_0, w_1, w_2, w_3, w_4, w_5, w_6, w_7, w_8, w_9, w_10, w_11⟩ : (¬ (ρ 15 ≥ ρ 18)) ∧ (¬ (ρ 17 ≠ 0)) ∧ (ρ 3 ≤ 2) ∧ (¬ (ρ 3 ≠ 1)) ∧ (¬ (0 ≥ ρ 21)) ∧ (ρ 22 ≠ 3) ∧ (¬ (1 ≥ ρ 21)) ∧ (ρ 24 ≠ 3) ∧ (¬ (2 ≥ ρ 21)) ∧ (¬ (ρ 26 ≠ 3)) ∧ (¬ (3 ≥ ρ 21)) ∧ (ρ 27 ≠ 3) := ⟨by omega, by omega, by omega, by omega, by omega, by omega, by omega, by omega, by omega, by omega, by omega, by omega⟩
  have m2 : γ 0 71 0 (ρ 0) = ρ 3 := zAllA hm 2
  have m6 : γ 0 69 0 (ρ 0) = ρ 7 := zAllA hm 6
  have m15 : γ 1 15 0 77 = ρ 17 := zAllA hm 15
  have m16 : γ 1 15 0 90 = ρ 18 := zAllA hm 16
  have m19 : γ 1 106 0 (ρ 15) = ρ 20 := zAllA hm 19
  have m20 : γ 0 66 0 (ρ 7) = ρ 21 := zAllA hm 20
  have m21 : γ 0 70 0 (4 * ρ 0) = ρ 22 := zAllA hm 21
  have m22 : γ 1 105 0 (4 * ρ 15) = ρ 23 := zAllA hm 22
  have m23 : γ 0 70 0 (4 * ρ 0 + 1) = ρ 24 := zAllA hm 23
  have m24 : γ 1 105 0 (4 * ρ 15 + 1) = ρ 25 := zAllA hm 24
  have m25 : γ 0 70 0 (4 * ρ 0 + 2) = ρ 26 := zAllA hm 25
  have m26 : γ 0 70 0 (4 * ρ 0 + 3) = ρ 27 := zAllA hm 26
  have m27 : γ 1 105 0 (4 * ρ 15 + 3) = ρ 28 := zAllA hm 27
  have c2 : γ 2 = rUp (γ 1) 102 0 0 (ρ 23) := And.right (zChA hc 4)
  have c3 : γ 3 = rUp (γ 2) 102 0 1 (ρ 25) := And.right (zChA hc 3)
  have c4 : γ 4 = rUp (γ 3) 102 0 2 (ρ 20) := And.right (zChA hc 2)
  have c5 : γ 5 = rUp (γ 4) 102 0 3 (ρ 28) := And.right (zChA hc 1)
  have l0 : sn57 [ρ 7, ρ 0, ρ 2, ρ 19, ρ 29, ρ 30, ρ 31, ρ 10, ρ 17] (γ 5) 0 0 (γ 6) := hS57 _ _ _ _ _ (zAllA hl 0)
  show jn75 [ρ 0, ρ 1, ρ 2, ρ 3, ρ 4, ρ 5, ρ 6, ρ 7, ρ 8, ρ 9, ρ 10, ρ 11, ρ 12, ρ 13, ρ 14] (γ 0) 0 [ρ 0, ρ 1, ρ 2, ρ 3, ρ 4, ρ 5, ρ 6, ρ 7, ρ 8, ρ 9, ρ 10, ρ 11, ρ 12, ρ 13, ρ 14, ρ 15 + 1, ρ 16, ρ 36, ρ 18, ρ 32] (γ 6)
  have hD : en75 (γ 0) (0, [ρ 0, ρ 15], γ 1) = .inl (0, [ρ 0, ρ 15 + 1], γ 6) := by
    unfold en75
    refine zIP (show (0 : Nat) = 0 by decide) (zLV (γ 1) rfl (zLV (ρ 0) rfl (zLV (ρ 15) rfl (zLE m2 (zLE m6 (zLE m15 (zLE m16 ?_)))))))
    refine zIN w_0 (zIN w_1 (zIP w_2 (zIN w_3 (zLE m19 (zLE m20 (zIN w_4 (zLE m21 ?_)))))))
    refine zIP w_5 (zLE m22 (zLE c2.symm (zIN w_6 (zLE m23 (zIP w_7 (zLE m24 (zLE c3.symm ?_)))))))
    refine zIN w_8 (zLE m25 (zIN w_9 (zLE c4.symm (zIN w_10 (zLE m26 (zIP w_11 (zLE m27 ?_)))))))
    refine zLE c5.symm (zLE (show fn57 [ρ 7, ρ 0] (γ 5) = (0, 0, γ 6) from l0.symm) (zLV (γ 6) rfl ?_))
    rfl
  exact zGoo_ato hJ hD
theorem vn75a0_41 {S : Nat → zSpc} (hS57 : zIm S 57 sn57) (hS73 : zIm S 73 sn73) {a : List Int} {g : rHp} : ∀ (ρ : Nat → Int) (γ : Nat → rHp), jn75 a g 0 (zAg (zNA a75_ 0) ρ) (γ 1) → zO 15 S a g q75a0_41 ρ γ → zGl (fun i vs g1 => jn75 a g i vs g1) (sn75 a g) q75a0_41 ρ γ := by
  intro ρ γ hJ h
  obtain ⟨ha, hg, hr, hf, hm, hc, hl⟩ := h
  have ha : a = [ρ 0, ρ 1, ρ 2, ρ 3, ρ 4, ρ 5, ρ 6, ρ 7, ρ 8, ρ 9, ρ 10, ρ 11, ρ 12, ρ 13, ρ 14] := ha
  subst ha
  subst hg
  have hJ : jn75 [ρ 0, ρ 1, ρ 2, ρ 3, ρ 4, ρ 5, ρ 6, ρ 7, ρ 8, ρ 9, ρ 10, ρ 11, ρ 12, ρ 13, ρ 14] (γ 0) 0 [ρ 0, ρ 1, ρ 2, ρ 3, ρ 4, ρ 5, ρ 6, ρ 7, ρ 8, ρ 9, ρ 10, ρ 11, ρ 12, ρ 13, ρ 14, ρ 15, ρ 16, ρ 17, ρ 18, ρ 19] (γ 1) := hJ
  have r3 : (1 : Int) ≤ ρ 3 ∧ ρ 3 ≤ 1 := zRnA hr 3
  have r17 : (0 : Int) ≤ ρ 17 ∧ ρ 17 ≤ 0 := zRnA hr 17
  have r21 : (4 : Int) ≤ ρ 21 ∧ ρ 21 ≤ 4 := zRnA hr 21
  have r22 : (0 : Int) ≤ ρ 22 ∧ ρ 22 ≤ 2 := zRnA hr 22
  have r24 : (0 : Int) ≤ ρ 24 ∧ ρ 24 ≤ 2 := zRnA hr 24
  have r26 : (3 : Int) ≤ ρ 26 ∧ ρ 26 ≤ 3 := zRnA hr 26
  have r27 : (3 : Int) ≤ ρ 27 ∧ ρ 27 ≤ 3 := zRnA hr 27
  have f3 : (0 : Int) ≤ ρ 18 + -ρ 15 + (-1) := zAllA hf 3
  obtain ⟨w_0, w_1, w_2, w_3, w_4, w_5, w_6, w_7, w_8, w_9, w_10, w_11⟩ : (¬ (ρ 15 ≥ ρ 18)) ∧ (¬ (ρ 17 ≠ 0)) ∧ (ρ 3 ≤ 2) ∧ (¬ (ρ 3 ≠ 1)) ∧ (¬ (0 ≥ ρ 21)) ∧ (ρ 22 ≠ 3) ∧ (¬ (1 ≥ ρ 21)) ∧ (ρ 24 ≠ 3) ∧ (¬ (2 ≥ ρ 21)) ∧ (¬ (ρ 26 ≠ 3)) ∧ (¬ (3 ≥ ρ 21)) ∧ (¬ (ρ 27 ≠ 3)) := ⟨by omega, by omega, by omega, by omega, by omega, by omega, by omega, by omega, by omega, by omega, by omega, by omega⟩
  have m2 : γ 0 71 0 (ρ 0) = ρ 3 := zAllA hm 2
  have m6 : γ 0 69 0 (ρ 0) = ρ 7 := zAllA hm 6
  have m15 : γ 1 15 0 77 = ρ 17 := zAllA hm 15
  have m16 : γ 1 15 0 90 = ρ 18 := zAllA hm 16
  have m19 : γ 1 106 0 (ρ 15) = ρ 20 := zAllA hm 19
  have m20 : γ 0 66 0 (ρ 7) = ρ 21 := zAllA hm 20
  have m21 : γ 0 70 0 (4 * ρ 0) = ρ 22 := zAllA hm 21
  have m22 : γ 1 105 0 (4 * ρ 15) = ρ 23 := zAllA hm 22
  have m23 : γ 0 70 0 (4 * ρ 0 + 1) = ρ 24 := zAllA hm 23
  have m24 : γ 1 105 0 (4 * ρ 15 + 1) = ρ 25 := zAllA hm 24
  have m25 : γ 0 70 0 (4 * ρ 0 + 2) = ρ 26 := zAllA hm 25
  have m26 : γ 0 70 0 (4 * ρ 0 + 3) = ρ 27 := zAllA hm 26
  have c2 : γ 2 = rUp (γ 1) 102 0 0 (ρ 23) := And.right (zChA hc 4)
  have c3 : γ 3 = rUp (γ 2) 102 0 1 (ρ 25) := And.right (zChA hc 3)
  have c4 : γ 4 = rUp (γ 3) 102 0 2 (ρ 20) := And.right (zChA hc 2)
  have c5 : γ 5 = rUp (γ 4) 102 0 3 (ρ 20) := And.right (zChA hc 1)
  have l0 : sn57 [ρ 7, ρ 0, ρ 2, ρ 19, ρ 28, ρ 29, ρ 30, ρ 10, ρ 17] (γ 5) 0 0 (γ 6) := hS57 _ _ _ _ _ (zAllA hl 0)
  show jn75 [ρ 0, ρ 1, ρ 2, ρ 3, ρ 4, ρ 5, ρ 6, ρ 7, ρ 8, ρ 9, ρ 10, ρ 11, ρ 12, ρ 13, ρ 14] (γ 0) 0 [ρ 0, ρ 1, ρ 2, ρ 3, ρ 4, ρ 5, ρ 6, ρ 7, ρ 8, ρ 9, ρ 10, ρ 11, ρ 12, ρ 13, ρ 14, ρ 15 + 1, ρ 16, ρ 35, ρ 18, ρ 31] (γ 6)
  have hD : en75 (γ 0) (0, [ρ 0, ρ 15], γ 1) = .inl (0, [ρ 0, ρ 15 + 1], γ 6) := by
    unfold en75
    refine zIP (show (0 : Nat) = 0 by decide) (zLV (γ 1) rfl (zLV (ρ 0) rfl (zLV (ρ 15) rfl (zLE m2 (zLE m6 (zLE m15 (zLE m16 ?_)))))))
    refine zIN w_0 (zIN w_1 (zIP w_2 (zIN w_3 (zLE m19 (zLE m20 (zIN w_4 (zLE m21 ?_)))))))
    refine zIP w_5 (zLE m22 (zLE c2.symm (zIN w_6 (zLE m23 (zIP w_7 (zLE m24 (zLE c3.symm ?_)))))))
    refine zIN w_8 (zLE m25 (zIN w_9 (zLE c4.symm (zIN w_10 (zLE m26 (zIN w_11 (zLE c5.symm ?_)))))))
    refine zLE (show fn57 [ρ 7, ρ 0] (γ 5) = (0, 0, γ 6) from l0.symm) (zLV (γ 6) rfl ?_)
    rfl
  exact zGoo_ato hJ hD
theorem vn75a0_42 {S : Nat → zSpc} (hS57 : zIm S 57 sn57) (hS73 : zIm S 73 sn73) {a : List Int} {g : rHp} : ∀ (ρ : Nat → Int) (γ : Nat → rHp), jn75 a g 0 (zAg (zNA a75_ 0) ρ) (γ 1) → zO 15 S a g q75a0_42 ρ γ → zGl (fun i vs g1 => jn75 a g i vs g1) (sn75 a g) q75a0_42 ρ γ := by
  intro ρ γ hJ h
  obtain ⟨ha, hg, hr, hf, hm, hc, hl⟩ := h
  have ha : a = [ρ 0, ρ 1, ρ 2, ρ 3, ρ 4, ρ 5, ρ 6, ρ 7, ρ 8, ρ 9, ρ 10, ρ 11, ρ 12, ρ 13, ρ 14] := ha
  subst ha
  subst hg
  have hJ : jn75 [ρ 0, ρ 1, ρ 2, ρ 3, ρ 4, ρ 5, ρ 6, ρ 7, ρ 8, ρ 9, ρ 10, ρ 11, ρ 12, ρ 13, ρ 14] (γ 0) 0 [ρ 0, ρ 1, ρ 2, ρ 3, ρ 4, ρ 5, ρ 6, ρ 7, ρ 8, ρ 9, ρ 10, ρ 11, ρ 12, ρ 13, ρ 14, ρ 15, ρ 16, ρ 17, ρ 18, ρ 19] (γ 1) := hJ
  have r3 : (1 : Int) ≤ ρ 3 ∧ ρ 3 ≤ 1 := zRnA hr 3
  have r17 : (0 : Int) ≤ ρ 17 ∧ ρ 17 ≤ 0 := zRnA hr 17
  have r21 : (2 : Int) ≤ ρ 21 ∧ ρ 21 ≤ 2 := zRnA hr 21
  have r22 : (0 : Int) ≤ ρ 22 ∧ ρ 22 ≤ 2 := zRnA hr 22
  have r24 : (3 : Int) ≤ ρ 24 ∧ ρ 24 ≤ 3 := zRnA hr 24
  have f3 : (0 : Int) ≤ ρ 18 + -ρ 15 + (-1) := zAllA hf 3
  obtain ⟨w_0, w_1, w_2, w_3, w_4, w_5, w_6, w_7, w_8⟩ : (¬ (ρ 15 ≥ ρ 18)) ∧ (¬ (ρ 17 ≠ 0)) ∧ (ρ 3 ≤ 2) ∧ (¬ (ρ 3 ≠ 1)) ∧ (¬ (0 ≥ ρ 21)) ∧ (ρ 22 ≠ 3) ∧ (¬ (1 ≥ ρ 21)) ∧ (¬ (ρ 24 ≠ 3)) ∧ (2 ≥ ρ 21) := ⟨by omega, by omega, by omega, by omega, by omega, by omega, by omega, by omega, by omega⟩
  have m2 : γ 0 71 0 (ρ 0) = ρ 3 := zAllA hm 2
  have m6 : γ 0 69 0 (ρ 0) = ρ 7 := zAllA hm 6
  have m15 : γ 1 15 0 77 = ρ 17 := zAllA hm 15
  have m16 : γ 1 15 0 90 = ρ 18 := zAllA hm 16
  have m19 : γ 1 106 0 (ρ 15) = ρ 20 := zAllA hm 19
  have m20 : γ 0 66 0 (ρ 7) = ρ 21 := zAllA hm 20
  have m21 : γ 0 70 0 (4 * ρ 0) = ρ 22 := zAllA hm 21
  have m22 : γ 1 105 0 (4 * ρ 15) = ρ 23 := zAllA hm 22
  have m23 : γ 0 70 0 (4 * ρ 0 + 1) = ρ 24 := zAllA hm 23
  have m24 : γ 1 105 0 (4 * ρ 15 + 2) = ρ 25 := zAllA hm 24
  have m25 : γ 1 105 0 (4 * ρ 15 + 3) = ρ 26 := zAllA hm 25
  have c2 : γ 2 = rUp (γ 1) 102 0 0 (ρ 23) := And.right (zChA hc 4)
  have c3 : γ 3 = rUp (γ 2) 102 0 1 (ρ 20) := And.right (zChA hc 3)
  have c4 : γ 4 = rUp (γ 3) 102 0 2 (ρ 25) := And.right (zChA hc 2)
  have c5 : γ 5 = rUp (γ 4) 102 0 3 (ρ 26) := And.right (zChA hc 1)
  have l0 : sn57 [ρ 7, ρ 0, ρ 2, ρ 19, ρ 27, ρ 28, ρ 29, ρ 10, ρ 17] (γ 5) 0 0 (γ 6) := hS57 _ _ _ _ _ (zAllA hl 0)
  show jn75 [ρ 0, ρ 1, ρ 2, ρ 3, ρ 4, ρ 5, ρ 6, ρ 7, ρ 8, ρ 9, ρ 10, ρ 11, ρ 12, ρ 13, ρ 14] (γ 0) 0 [ρ 0, ρ 1, ρ 2, ρ 3, ρ 4, ρ 5, ρ 6, ρ 7, ρ 8, ρ 9, ρ 10, ρ 11, ρ 12, ρ 13, ρ 14, ρ 15 + 1, ρ 16, ρ 34, ρ 18, ρ 30] (γ 6)
  have hD : en75 (γ 0) (0, [ρ 0, ρ 15], γ 1) = .inl (0, [ρ 0, ρ 15 + 1], γ 6) := by
    unfold en75
    refine zIP (show (0 : Nat) = 0 by decide) (zLV (γ 1) rfl (zLV (ρ 0) rfl (zLV (ρ 15) rfl (zLE m2 (zLE m6 (zLE m15 (zLE m16 ?_)))))))
    refine zIN w_0 (zIN w_1 (zIP w_2 (zIN w_3 (zLE m19 (zLE m20 (zIN w_4 (zLE m21 ?_)))))))
    refine zIP w_5 (zLE m22 (zLE c2.symm (zIN w_6 (zLE m23 (zIN w_7 (zLE c3.symm (zIP w_8 ?_)))))))
    refine zLE m24 (zLE c4.symm (zLE m25 (zLE c5.symm (zLE (show fn57 [ρ 7, ρ 0] (γ 5) = (0, 0, γ 6) from l0.symm) (zLV (γ 6) rfl ?_)))))
    rfl
  exact zGoo_ato hJ hD
theorem vn75a0_43 {S : Nat → zSpc} (hS57 : zIm S 57 sn57) (hS73 : zIm S 73 sn73) {a : List Int} {g : rHp} : ∀ (ρ : Nat → Int) (γ : Nat → rHp), jn75 a g 0 (zAg (zNA a75_ 0) ρ) (γ 1) → zO 15 S a g q75a0_43 ρ γ → zGl (fun i vs g1 => jn75 a g i vs g1) (sn75 a g) q75a0_43 ρ γ := by
  intro ρ γ hJ h
  obtain ⟨ha, hg, hr, hf, hm, hc, hl⟩ := h
  have ha : a = [ρ 0, ρ 1, ρ 2, ρ 3, ρ 4, ρ 5, ρ 6, ρ 7, ρ 8, ρ 9, ρ 10, ρ 11, ρ 12, ρ 13, ρ 14] := ha
  subst ha
  subst hg
  have hJ : jn75 [ρ 0, ρ 1, ρ 2, ρ 3, ρ 4, ρ 5, ρ 6, ρ 7, ρ 8, ρ 9, ρ 10, ρ 11, ρ 12, ρ 13, ρ 14] (γ 0) 0 [ρ 0, ρ 1, ρ 2, ρ 3, ρ 4, ρ 5, ρ 6, ρ 7, ρ 8, ρ 9, ρ 10, ρ 11, ρ 12, ρ 13, ρ 14, ρ 15, ρ 16, ρ 17, ρ 18, ρ 19] (γ 1) := hJ
  have r3 : (1 : Int) ≤ ρ 3 ∧ ρ 3 ≤ 1 := zRnA hr 3
  have r17 : (0 : Int) ≤ ρ 17 ∧ ρ 17 ≤ 0 := zRnA hr 17
  have r21 : (3 : Int) ≤ ρ 21 ∧ ρ 21 ≤ 3 := zRnA hr 21
  have r22 : (0 : Int) ≤ ρ 22 ∧ ρ 22 ≤ 2 := zRnA hr 22
  have r24 : (3 : Int) ≤ ρ 24 ∧ ρ 24 ≤ 3 := zRnA hr 24
  have r25 : (0 : Int) ≤ ρ 25 ∧ ρ 25 ≤ 2 := zRnA hr 25
  have f3 : (0 : Int) ≤ ρ 18 + -ρ 15 + (-1) := zAllA hf 3
  obtain ⟨w_0, w_1, w_2, w_3, w_4, w_5, w_6, w_7, w_8, w_9, w_10⟩ : (¬ (ρ 15 ≥ ρ 18)) ∧ (¬ (ρ 17 ≠ 0)) ∧ (ρ 3 ≤ 2) ∧ (¬ (ρ 3 ≠ 1)) ∧ (¬ (0 ≥ ρ 21)) ∧ (ρ 22 ≠ 3) ∧ (¬ (1 ≥ ρ 21)) ∧ (¬ (ρ 24 ≠ 3)) ∧ (¬ (2 ≥ ρ 21)) ∧ (ρ 25 ≠ 3) ∧ (3 ≥ ρ 21) := ⟨by omega, by omega, by omega, by omega, by omega, by omega, by omega, by omega, by omega, by omega, by omega⟩
  have m2 : γ 0 71 0 (ρ 0) = ρ 3 := zAllA hm 2
  have m6 : γ 0 69 0 (ρ 0) = ρ 7 := zAllA hm 6
  have m15 : γ 1 15 0 77 = ρ 17 := zAllA hm 15
  have m16 : γ 1 15 0 90 = ρ 18 := zAllA hm 16
  have m19 : γ 1 106 0 (ρ 15) = ρ 20 := zAllA hm 19
  have m20 : γ 0 66 0 (ρ 7) = ρ 21 := zAllA hm 20
  have m21 : γ 0 70 0 (4 * ρ 0) = ρ 22 := zAllA hm 21
  have m22 : γ 1 105 0 (4 * ρ 15) = ρ 23 := zAllA hm 22
  have m23 : γ 0 70 0 (4 * ρ 0 + 1) = ρ 24 := zAllA hm 23
  have m24 : γ 0 70 0 (4 * ρ 0 + 2) = ρ 25 := zAllA hm 24
  have m25 : γ 1 105 0 (4 * ρ 15 + 2) = ρ 26 := zAllA hm 25
  have m26 : γ 1 105 0 (4 * ρ 15 + 3) = ρ 27 := zAllA hm 26
  have c2 : γ 2 = rUp (γ 1) 102 0 0 (ρ 23) := And.right (zChA hc 4)
  have c3 : γ 3 = rUp (γ 2) 102 0 1 (ρ 20) := And.right (zChA hc 3)
  have c4 : γ 4 = rUp (γ 3) 102 0 2 (ρ 26) := And.right (zChA hc 2)
  have c5 : γ 5 = rUp (γ 4) 102 0 3 (ρ 27) := And.right (zChA hc 1)
  have l0 : sn57 [ρ 7, ρ 0, ρ 2, ρ 19, ρ 28, ρ 29, ρ 30, ρ 10, ρ 17] (γ 5) 0 0 (γ 6) := hS57 _ _ _ _ _ (zAllA hl 0)
  show jn75 [ρ 0, ρ 1, ρ 2, ρ 3, ρ 4, ρ 5, ρ 6, ρ 7, ρ 8, ρ 9, ρ 10, ρ 11, ρ 12, ρ 13, ρ 14] (γ 0) 0 [ρ 0, ρ 1, ρ 2, ρ 3, ρ 4, ρ 5, ρ 6, ρ 7, ρ 8, ρ 9, ρ 10, ρ 11, ρ 12, ρ 13, ρ 14, ρ 15 + 1, ρ 16, ρ 35, ρ 18, ρ 31] (γ 6)
  have hD : en75 (γ 0) (0, [ρ 0, ρ 15], γ 1) = .inl (0, [ρ 0, ρ 15 + 1], γ 6) := by
    unfold en75
    refine zIP (show (0 : Nat) = 0 by decide) (zLV (γ 1) rfl (zLV (ρ 0) rfl (zLV (ρ 15) rfl (zLE m2 (zLE m6 (zLE m15 (zLE m16 ?_)))))))
    refine zIN w_0 (zIN w_1 (zIP w_2 (zIN w_3 (zLE m19 (zLE m20 (zIN w_4 (zLE m21 ?_)))))))
    refine zIP w_5 (zLE m22 (zLE c2.symm (zIN w_6 (zLE m23 (zIN w_7 (zLE c3.symm (zIN w_8 ?_)))))))
    refine zLE m24 (zIP w_9 (zLE m25 (zLE c4.symm (zIP w_10 (zLE m26 (zLE c5.symm (zLE (show fn57 [ρ 7, ρ 0] (γ 5) = (0, 0, γ 6) from l0.symm) ?_)))))))
    refine zLV (γ 6) rfl ?_
    rfl
  exact zGoo_ato hJ hD
theorem vn75a0_44 {S : Nat → zSpc} (hS57 : zIm S 57 sn57) (hS73 : zIm S 73 sn73) {a : List Int} {g : rHp} : ∀ (ρ : Nat → Int) (γ : Nat → rHp), jn75 a g 0 (zAg (zNA a75_ 0) ρ) (γ 1) → zO 15 S a g q75a0_44 ρ γ → zGl (fun i vs g1 => jn75 a g i vs g1) (sn75 a g) q75a0_44 ρ γ := by
  intro ρ γ hJ h
  obtain ⟨ha, hg, hr, hf, hm, hc, hl⟩ := h
  have ha : a = [ρ 0, ρ 1, ρ 2, ρ 3, ρ 4, ρ 5, ρ 6, ρ 7, ρ 8, ρ 9, ρ 10, ρ 11, ρ 12, ρ 13, ρ 14] := ha
  subst ha
  subst hg
  have hJ : jn75 [ρ 0, ρ 1, ρ 2, ρ 3, ρ 4, ρ 5, ρ 6, ρ 7, ρ 8, ρ 9, ρ 10, ρ 11, ρ 12, ρ 13, ρ 14] (γ 0) 0 [ρ 0, ρ 1, ρ 2, ρ 3, ρ 4, ρ 5, ρ 6, ρ 7, ρ 8, ρ 9, ρ 10, ρ 11, ρ 12, ρ 13, ρ 14, ρ 15, ρ 16, ρ 17, ρ 18, ρ 19] (γ 1) := hJ
  have r3 : (1 : Int) ≤ ρ 3 ∧ ρ 3 ≤ 1 := zRnA hr 3
  have r17 : (0 : Int) ≤ ρ 17 ∧ ρ 17 ≤ 0 := zRnA hr 17
  have r21 : (4 : Int) ≤ ρ 21 ∧ ρ 21 ≤ 4 := zRnA hr 21
  have r22 : (0 : Int) ≤ ρ 22 ∧ ρ 22 ≤ 2 := zRnA hr 22
  have r24 : (3 : Int) ≤ ρ 24 ∧ ρ 24 ≤ 3 := zRnA hr 24
  have r25 : (0 : Int) ≤ ρ 25 ∧ ρ 25 ≤ 2 := zRnA hr 25
  have r27 : (0 : Int) ≤ ρ 27 ∧ ρ 27 ≤ 2 := zRnA hr 27
  have f3 : (0 : Int) ≤ ρ 18 + -ρ 15 + (-1) := zAllA hf 3
  obtain ⟨w_0, w_1, w_2, w_3, w_4, w_5, w_6, w_7, w_8, w_9, w_10, w_11⟩ : (¬ (ρ 15 ≥ ρ 18)) ∧ (¬ (ρ 17 ≠ 0)) ∧ (ρ 3 ≤ 2) ∧ (¬ (ρ 3 ≠ 1)) ∧ (¬ (0 ≥ ρ 21)) ∧ (ρ 22 ≠ 3) ∧ (¬ (1 ≥ ρ 21)) ∧ (¬ (ρ 24 ≠ 3)) ∧ (¬ (2 ≥ ρ 21)) ∧ (ρ 25 ≠ 3) ∧ (¬ (3 ≥ ρ 21)) ∧ (ρ 27 ≠ 3) := ⟨by omega, by omega, by omega, by omega, by omega, by omega, by omega, by omega, by omega, by omega, by omega, by omega⟩
  have m2 : γ 0 71 0 (ρ 0) = ρ 3 := zAllA hm 2
  have m6 : γ 0 69 0 (ρ 0) = ρ 7 := zAllA hm 6
  have m15 : γ 1 15 0 77 = ρ 17 := zAllA hm 15
  have m16 : γ 1 15 0 90 = ρ 18 := zAllA hm 16
  have m19 : γ 1 106 0 (ρ 15) = ρ 20 := zAllA hm 19
  have m20 : γ 0 66 0 (ρ 7) = ρ 21 := zAllA hm 20
  have m21 : γ 0 70 0 (4 * ρ 0) = ρ 22 := zAllA hm 21
  have m22 : γ 1 105 0 (4 * ρ 15) = ρ 23 := zAllA hm 22
  have m23 : γ 0 70 0 (4 * ρ 0 + 1) = ρ 24 := zAllA hm 23
  have m24 : γ 0 70 0 (4 * ρ 0 + 2) = ρ 25 := zAllA hm 24
  have m25 : γ 1 105 0 (4 * ρ 15 + 2) = ρ 26 := zAllA hm 25
  have m26 : γ 0 70 0 (4 * ρ 0 + 3) = ρ 27 := zAllA hm 26
  have m27 : γ 1 105 0 (4 * ρ 15 + 3) = ρ 28 := zAllA hm 27
  have c2 : γ 2 = rUp (γ 1) 102 0 0 (ρ 23) := And.right (zChA hc 4)
  have c3 : γ 3 = rUp (γ 2) 102 0 1 (ρ 20) := And.right (zChA hc 3)
  have c4 : γ 4 = rUp (γ 3) 102 0 2 (ρ 26) := And.right (zChA hc 2)
  have c5 : γ 5 = rUp (γ 4) 102 0 3 (ρ 28) := And.right (zChA hc 1)
  have l0 : sn57 [ρ 7, ρ 0, ρ 2, ρ 19, ρ 29, ρ 30, ρ 31, ρ 10, ρ 17] (γ 5) 0 0 (γ 6) := hS57 _ _ _ _ _ (zAllA hl 0)
  show jn75 [ρ 0, ρ 1, ρ 2, ρ 3, ρ 4, ρ 5, ρ 6, ρ 7, ρ 8, ρ 9, ρ 10, ρ 11, ρ 12, ρ 13, ρ 14] (γ 0) 0 [ρ 0, ρ 1, ρ 2, ρ 3, ρ 4, ρ 5, ρ 6, ρ 7, ρ 8, ρ 9, ρ 10, ρ 11, ρ 12, ρ 13, ρ 14, ρ 15 + 1, ρ 16, ρ 36, ρ 18, ρ 32] (γ 6)
  have hD : en75 (γ 0) (0, [ρ 0, ρ 15], γ 1) = .inl (0, [ρ 0, ρ 15 + 1], γ 6) := by
    unfold en75
    refine zIP (show (0 : Nat) = 0 by decide) (zLV (γ 1) rfl (zLV (ρ 0) rfl (zLV (ρ 15) rfl (zLE m2 (zLE m6 (zLE m15 (zLE m16 ?_)))))))
    refine zIN w_0 (zIN w_1 (zIP w_2 (zIN w_3 (zLE m19 (zLE m20 (zIN w_4 (zLE m21 ?_)))))))
    refine zIP w_5 (zLE m22 (zLE c2.symm (zIN w_6 (zLE m23 (zIN w_7 (zLE c3.symm (zIN w_8 ?_)))))))
    refine zLE m24 (zIP w_9 (zLE m25 (zLE c4.symm (zIN w_10 (zLE m26 (zIP w_11 (zLE m27 ?_)))))))
    refine zLE c5.symm (zLE (show fn57 [ρ 7, ρ 0] (γ 5) = (0, 0, γ 6) from l0.symm) (zLV (γ 6) rfl ?_))
    rfl
  exact zGoo_ato hJ hD
theorem vn75a0_45 {S : Nat → zSpc} (hS57 : zIm S 57 sn57) (hS73 : zIm S 73 sn73) {a : List Int} {g : rHp} : ∀ (ρ : Nat → Int) (γ : Nat → rHp), jn75 a g 0 (zAg (zNA a75_ 0) ρ) (γ 1) → zO 15 S a g q75a0_45 ρ γ → zGl (fun i vs g1 => jn75 a g i vs g1) (sn75 a g) q75a0_45 ρ γ := by
  intro ρ γ hJ h
  obtain ⟨ha, hg, hr, hf, hm, hc, hl⟩ := h
  have ha : a = [ρ 0, ρ 1, ρ 2, ρ 3, ρ 4, ρ 5, ρ 6, ρ 7, ρ 8, ρ 9, ρ 10, ρ 11, ρ 12, ρ 13, ρ 14] := ha
  subst ha
  subst hg
  have hJ : jn75 [ρ 0, ρ 1, ρ 2, ρ 3, ρ 4, ρ 5, ρ 6, ρ 7, ρ 8, ρ 9, ρ 10, ρ 11, ρ 12, ρ 13, ρ 14] (γ 0) 0 [ρ 0, ρ 1, ρ 2, ρ 3, ρ 4, ρ 5, ρ 6, ρ 7, ρ 8, ρ 9, ρ 10, ρ 11, ρ 12, ρ 13, ρ 14, ρ 15, ρ 16, ρ 17, ρ 18, ρ 19] (γ 1) := hJ
  have r3 : (1 : Int) ≤ ρ 3 ∧ ρ 3 ≤ 1 := zRnA hr 3
  have r17 : (0 : Int) ≤ ρ 17 ∧ ρ 17 ≤ 0 := zRnA hr 17
  have r21 : (4 : Int) ≤ ρ 21 ∧ ρ 21 ≤ 4 := zRnA hr 21
  have r22 : (0 : Int) ≤ ρ 22 ∧ ρ 22 ≤ 2 := zRnA hr 22
  have r24 : (3 : Int) ≤ ρ 24 ∧ ρ 24 ≤ 3 := zRnA hr 24
  have r25 : (0 : Int) ≤ ρ 25 ∧ ρ 25 ≤ 2 := zRnA hr 25
  have r27 : (3 : Int) ≤ ρ 27 ∧ ρ 27 ≤ 3 := zRnA hr 27
  have f3 : (0 : Int) ≤ ρ 18 + -ρ 15 + (-1) := zAllA hf 3
  obtain ⟨w_0, w_1, w_2, w_3, w_4, w_5, w_6, w_7, w_8, w_9, w_10, w_11⟩ : (¬ (ρ 15 ≥ ρ 18)) ∧ (¬ (ρ 17 ≠ 0)) ∧ (ρ 3 ≤ 2) ∧ (¬ (ρ 3 ≠ 1)) ∧ (¬ (0 ≥ ρ 21)) ∧ (ρ 22 ≠ 3) ∧ (¬ (1 ≥ ρ 21)) ∧ (¬ (ρ 24 ≠ 3)) ∧ (¬ (2 ≥ ρ 21)) ∧ (ρ 25 ≠ 3) ∧ (¬ (3 ≥ ρ 21)) ∧ (¬ (ρ 27 ≠ 3)) := ⟨by omega, by omega, by omega, by omega, by omega, by omega, by omega, by omega, by omega, by omega, by omega, by omega⟩
  have m2 : γ 0 71 0 (ρ 0) = ρ 3 := zAllA hm 2
  have m6 : γ 0 69 0 (ρ 0) = ρ 7 := zAllA hm 6
  have m15 : γ 1 15 0 77 = ρ 17 := zAllA hm 15
  have m16 : γ 1 15 0 90 = ρ 18 := zAllA hm 16
  have m19 : γ 1 106 0 (ρ 15) = ρ 20 := zAllA hm 19
  have m20 : γ 0 66 0 (ρ 7) = ρ 21 := zAllA hm 20
  have m21 : γ 0 70 0 (4 * ρ 0) = ρ 22 := zAllA hm 21
  have m22 : γ 1 105 0 (4 * ρ 15) = ρ 23 := zAllA hm 22
  have m23 : γ 0 70 0 (4 * ρ 0 + 1) = ρ 24 := zAllA hm 23
  have m24 : γ 0 70 0 (4 * ρ 0 + 2) = ρ 25 := zAllA hm 24
  have m25 : γ 1 105 0 (4 * ρ 15 + 2) = ρ 26 := zAllA hm 25
  have m26 : γ 0 70 0 (4 * ρ 0 + 3) = ρ 27 := zAllA hm 26
  have c2 : γ 2 = rUp (γ 1) 102 0 0 (ρ 23) := And.right (zChA hc 4)
  have c3 : γ 3 = rUp (γ 2) 102 0 1 (ρ 20) := And.right (zChA hc 3)
  have c4 : γ 4 = rUp (γ 3) 102 0 2 (ρ 26) := And.right (zChA hc 2)
  have c5 : γ 5 = rUp (γ 4) 102 0 3 (ρ 20) := And.right (zChA hc 1)
  have l0 : sn57 [ρ 7, ρ 0, ρ 2, ρ 19, ρ 28, ρ 29, ρ 30, ρ 10, ρ 17] (γ 5) 0 0 (γ 6) := hS57 _ _ _ _ _ (zAllA hl 0)
  show jn75 [ρ 0, ρ 1, ρ 2, ρ 3, ρ 4, ρ 5, ρ 6, ρ 7, ρ 8, ρ 9, ρ 10, ρ 11, ρ 12, ρ 13, ρ 14] (γ 0) 0 [ρ 0, ρ 1, ρ 2, ρ 3, ρ 4, ρ 5, ρ 6, ρ 7, ρ 8, ρ 9, ρ 10, ρ 11, ρ 12, ρ 13, ρ 14, ρ 15 + 1, ρ 16, ρ 35, ρ 18, ρ 31] (γ 6)
  have hD : en75 (γ 0) (0, [ρ 0, ρ 15], γ 1) = .inl (0, [ρ 0, ρ 15 + 1], γ 6) := by
    unfold en75
    refine zIP (show (0 : Nat) = 0 by decide) (zLV (γ 1) rfl (zLV (ρ 0) rfl (zLV (ρ 15) rfl (zLE m2 (zLE m6 (zLE m15 (zLE m16 ?_)))))))
    refine zIN w_0 (zIN w_1 (zIP w_2 (zIN w_3 (zLE m19 (zLE m20 (zIN w_4 (zLE m21 ?_)))))))
    refine zIP w_5 (zLE m22 (zLE c2.symm (zIN w_6 (zLE m23 (zIN w_7 (zLE c3.symm (zIN w_8 ?_)))))))
    refine zLE m24 (zIP w_9 (zLE m25 (zLE c4.symm (zIN w_10 (zLE m26 (zIN w_11 (zLE c5.symm ?_)))))))
    refine zLE (show fn57 [ρ 7, ρ 0] (γ 5) = (0, 0, γ 6) from l0.symm) (zLV (γ 6) rfl ?_)
    rfl
  exact zGoo_ato hJ hD
theorem vn75a0_46 {S : Nat → zSpc} (hS57 : zIm S 57 sn57) (hS73 : zIm S 73 sn73) {a : List Int} {g : rHp} : ∀ (ρ : Nat → Int) (γ : Nat → rHp), jn75 a g 0 (zAg (zNA a75_ 0) ρ) (γ 1) → zO 15 S a g q75a0_46 ρ γ → zGl (fun i vs g1 => jn75 a g i vs g1) (sn75 a g) q75a0_46 ρ γ := by
  intro ρ γ hJ h
  obtain ⟨ha, hg, hr, hf, hm, hc, hl⟩ := h
  have ha : a = [ρ 0, ρ 1, ρ 2, ρ 3, ρ 4, ρ 5, ρ 6, ρ 7, ρ 8, ρ 9, ρ 10, ρ 11, ρ 12, ρ 13, ρ 14] := ha
  subst ha
  subst hg
  have hJ : jn75 [ρ 0, ρ 1, ρ 2, ρ 3, ρ 4, ρ 5, ρ 6, ρ 7, ρ 8, ρ 9, ρ 10, ρ 11, ρ 12, ρ 13, ρ 14] (γ 0) 0 [ρ 0, ρ 1, ρ 2, ρ 3, ρ 4, ρ 5, ρ 6, ρ 7, ρ 8, ρ 9, ρ 10, ρ 11, ρ 12, ρ 13, ρ 14, ρ 15, ρ 16, ρ 17, ρ 18, ρ 19] (γ 1) := hJ
  have r3 : (1 : Int) ≤ ρ 3 ∧ ρ 3 ≤ 1 := zRnA hr 3
  have r17 : (0 : Int) ≤ ρ 17 ∧ ρ 17 ≤ 0 := zRnA hr 17
  have r21 : (3 : Int) ≤ ρ 21 ∧ ρ 21 ≤ 3 := zRnA hr 21
  have r22 : (0 : Int) ≤ ρ 22 ∧ ρ 22 ≤ 2 := zRnA hr 22
  have r24 : (3 : Int) ≤ ρ 24 ∧ ρ 24 ≤ 3 := zRnA hr 24
  have r25 : (3 : Int) ≤ ρ 25 ∧ ρ 25 ≤ 3 := zRnA hr 25
  have f3 : (0 : Int) ≤ ρ 18 + -ρ 15 + (-1) := zAllA hf 3
  obtain ⟨w_0, w_1, w_2, w_3, w_4, w_5, w_6, w_7, w_8, w_9, w_10⟩ : (¬ (ρ 15 ≥ ρ 18)) ∧ (¬ (ρ 17 ≠ 0)) ∧ (ρ 3 ≤ 2) ∧ (¬ (ρ 3 ≠ 1)) ∧ (¬ (0 ≥ ρ 21)) ∧ (ρ 22 ≠ 3) ∧ (¬ (1 ≥ ρ 21)) ∧ (¬ (ρ 24 ≠ 3)) ∧ (¬ (2 ≥ ρ 21)) ∧ (¬ (ρ 25 ≠ 3)) ∧ (3 ≥ ρ 21) := ⟨by omega, by omega, by omega, by omega, by omega, by omega, by omega, by omega, by omega, by omega, by omega⟩
  have m2 : γ 0 71 0 (ρ 0) = ρ 3 := zAllA hm 2
  have m6 : γ 0 69 0 (ρ 0) = ρ 7 := zAllA hm 6
  have m15 : γ 1 15 0 77 = ρ 17 := zAllA hm 15
  have m16 : γ 1 15 0 90 = ρ 18 := zAllA hm 16
  have m19 : γ 1 106 0 (ρ 15) = ρ 20 := zAllA hm 19
  have m20 : γ 0 66 0 (ρ 7) = ρ 21 := zAllA hm 20
  have m21 : γ 0 70 0 (4 * ρ 0) = ρ 22 := zAllA hm 21
  have m22 : γ 1 105 0 (4 * ρ 15) = ρ 23 := zAllA hm 22
  have m23 : γ 0 70 0 (4 * ρ 0 + 1) = ρ 24 := zAllA hm 23
  have m24 : γ 0 70 0 (4 * ρ 0 + 2) = ρ 25 := zAllA hm 24
  have m25 : γ 1 105 0 (4 * ρ 15 + 3) = ρ 26 := zAllA hm 25
  have c2 : γ 2 = rUp (γ 1) 102 0 0 (ρ 23) := And.right (zChA hc 4)
  have c3 : γ 3 = rUp (γ 2) 102 0 1 (ρ 20) := And.right (zChA hc 3)
  have c4 : γ 4 = rUp (γ 3) 102 0 2 (ρ 20) := And.right (zChA hc 2)
  have c5 : γ 5 = rUp (γ 4) 102 0 3 (ρ 26) := And.right (zChA hc 1)
  have l0 : sn57 [ρ 7, ρ 0, ρ 2, ρ 19, ρ 27, ρ 28, ρ 29, ρ 10, ρ 17] (γ 5) 0 0 (γ 6) := hS57 _ _ _ _ _ (zAllA hl 0)
  show jn75 [ρ 0, ρ 1, ρ 2, ρ 3, ρ 4, ρ 5, ρ 6, ρ 7, ρ 8, ρ 9, ρ 10, ρ 11, ρ 12, ρ 13, ρ 14] (γ 0) 0 [ρ 0, ρ 1, ρ 2, ρ 3, ρ 4, ρ 5, ρ 6, ρ 7, ρ 8, ρ 9, ρ 10, ρ 11, ρ 12, ρ 13, ρ 14, ρ 15 + 1, ρ 16, ρ 34, ρ 18, ρ 30] (γ 6)
  have hD : en75 (γ 0) (0, [ρ 0, ρ 15], γ 1) = .inl (0, [ρ 0, ρ 15 + 1], γ 6) := by
    unfold en75
    refine zIP (show (0 : Nat) = 0 by decide) (zLV (γ 1) rfl (zLV (ρ 0) rfl (zLV (ρ 15) rfl (zLE m2 (zLE m6 (zLE m15 (zLE m16 ?_)))))))
    refine zIN w_0 (zIN w_1 (zIP w_2 (zIN w_3 (zLE m19 (zLE m20 (zIN w_4 (zLE m21 ?_)))))))
    refine zIP w_5 (zLE m22 (zLE c2.symm (zIN w_6 (zLE m23 (zIN w_7 (zLE c3.symm (zIN w_8 ?_)))))))
    refine zLE m24 (zIN w_9 (zLE c4.symm (zIP w_10 (zLE m25 (zLE c5.symm (zLE (show fn57 [ρ 7, ρ 0] (γ 5) = (0, 0, γ 6) from l0.symm) (zLV (γ 6) rfl ?_)))))))
    rfl
  exact zGoo_ato hJ hD
theorem vn75a0_47 {S : Nat → zSpc} (hS57 : zIm S 57 sn57) (hS73 : zIm S 73 sn73) {a : List Int} {g : rHp} : ∀ (ρ : Nat → Int) (γ : Nat → rHp), jn75 a g 0 (zAg (zNA a75_ 0) ρ) (γ 1) → zO 15 S a g q75a0_47 ρ γ → zGl (fun i vs g1 => jn75 a g i vs g1) (sn75 a g) q75a0_47 ρ γ := by
  intro ρ γ hJ h
  obtain ⟨ha, hg, hr, hf, hm, hc, hl⟩ := h
  have ha : a = [ρ 0, ρ 1, ρ 2, ρ 3, ρ 4, ρ 5, ρ 6, ρ 7, ρ 8, ρ 9, ρ 10, ρ 11, ρ 12, ρ 13, ρ 14] := ha
  subst ha
  subst hg
  have hJ : jn75 [ρ 0, ρ 1, ρ 2, ρ 3, ρ 4, ρ 5, ρ 6, ρ 7, ρ 8, ρ 9, ρ 10, ρ 11, ρ 12, ρ 13, ρ 14] (γ 0) 0 [ρ 0, ρ 1, ρ 2, ρ 3, ρ 4, ρ 5, ρ 6, ρ 7, ρ 8, ρ 9, ρ 10, ρ 11, ρ 12, ρ 13, ρ 14, ρ 15, ρ 16, ρ 17, ρ 18, ρ 19] (γ 1) := hJ
  have r3 : (1 : Int) ≤ ρ 3 ∧ ρ 3 ≤ 1 := zRnA hr 3
  have r17 : (0 : Int) ≤ ρ 17 ∧ ρ 17 ≤ 0 := zRnA hr 17
  have r21 : (4 : Int) ≤ ρ 21 ∧ ρ 21 ≤ 4 := zRnA hr 21
  have r22 : (0 : Int) ≤ ρ 22 ∧ ρ 22 ≤ 2 := zRnA hr 22
  have r24 : (3 : Int) ≤ ρ 24 ∧ ρ 24 ≤ 3 := zRnA hr 24
  have r25 : (3 : Int) ≤ ρ 25 ∧ ρ 25 ≤ 3 := zRnA hr 25
  have r26 : (0 : Int) ≤ ρ 26 ∧ ρ 26 ≤ 2 := zRnA hr 26
  have f3 : (0 : Int) ≤ ρ 18 + -ρ 15 + (-1) := zAllA hf 3
  obtain ⟨w_0, w_1, w_2, w_3, w_4, w_5, w_6, w_7, w_8, w_9, w_10, w_11⟩ : (¬ (ρ 15 ≥ ρ 18)) ∧ (¬ (ρ 17 ≠ 0)) ∧ (ρ 3 ≤ 2) ∧ (¬ (ρ 3 ≠ 1)) ∧ (¬ (0 ≥ ρ 21)) ∧ (ρ 22 ≠ 3) ∧ (¬ (1 ≥ ρ 21)) ∧ (¬ (ρ 24 ≠ 3)) ∧ (¬ (2 ≥ ρ 21)) ∧ (¬ (ρ 25 ≠ 3)) ∧ (¬ (3 ≥ ρ 21)) ∧ (ρ 26 ≠ 3) := ⟨by omega, by omega, by omega, by omega, by omega, by omega, by omega, by omega, by omega, by omega, by omega, by omega⟩
  have m2 : γ 0 71 0 (ρ 0) = ρ 3 := zAllA hm 2
  have m6 : γ 0 69 0 (ρ 0) = ρ 7 := zAllA hm 6
  have m15 : γ 1 15 0 77 = ρ 17 := zAllA hm 15
  have m16 : γ 1 15 0 90 = ρ 18 := zAllA hm 16
  have m19 : γ 1 106 0 (ρ 15) = ρ 20 := zAllA hm 19
  have m20 : γ 0 66 0 (ρ 7) = ρ 21 := zAllA hm 20
  have m21 : γ 0 70 0 (4 * ρ 0) = ρ 22 := zAllA hm 21
  have m22 : γ 1 105 0 (4 * ρ 15) = ρ 23 := zAllA hm 22
  have m23 : γ 0 70 0 (4 * ρ 0 + 1) = ρ 24 := zAllA hm 23
  have m24 : γ 0 70 0 (4 * ρ 0 + 2) = ρ 25 := zAllA hm 24
  have m25 : γ 0 70 0 (4 * ρ 0 + 3) = ρ 26 := zAllA hm 25
  have m26 : γ 1 105 0 (4 * ρ 15 + 3) = ρ 27 := zAllA hm 26
  have c2 : γ 2 = rUp (γ 1) 102 0 0 (ρ 23) := And.right (zChA hc 4)
  have c3 : γ 3 = rUp (γ 2) 102 0 1 (ρ 20) := And.right (zChA hc 3)
  have c4 : γ 4 = rUp (γ 3) 102 0 2 (ρ 20) := And.right (zChA hc 2)
  have c5 : γ 5 = rUp (γ 4) 102 0 3 (ρ 27) := And.right (zChA hc 1)
  have l0 : sn57 [ρ 7, ρ 0, ρ 2, ρ 19, ρ 28, ρ 29, ρ 30, ρ 10, ρ 17] (γ 5) 0 0 (γ 6) := hS57 _ _ _ _ _ (zAllA hl 0)
  show jn75 [ρ 0, ρ 1, ρ 2, ρ 3, ρ 4, ρ 5, ρ 6, ρ 7, ρ 8, ρ 9, ρ 10, ρ 11, ρ 12, ρ 13, ρ 14] (γ 0) 0 [ρ 0, ρ 1, ρ 2, ρ 3, ρ 4, ρ 5, ρ 6, ρ 7, ρ 8, ρ 9, ρ 10, ρ 11, ρ 12, ρ 13, ρ 14, ρ 15 + 1, ρ 16, ρ 35, ρ 18, ρ 31] (γ 6)
  have hD : en75 (γ 0) (0, [ρ 0, ρ 15], γ 1) = .inl (0, [ρ 0, ρ 15 + 1], γ 6) := by
    unfold en75
    refine zIP (show (0 : Nat) = 0 by decide) (zLV (γ 1) rfl (zLV (ρ 0) rfl (zLV (ρ 15) rfl (zLE m2 (zLE m6 (zLE m15 (zLE m16 ?_)))))))
    refine zIN w_0 (zIN w_1 (zIP w_2 (zIN w_3 (zLE m19 (zLE m20 (zIN w_4 (zLE m21 ?_)))))))
    refine zIP w_5 (zLE m22 (zLE c2.symm (zIN w_6 (zLE m23 (zIN w_7 (zLE c3.symm (zIN w_8 ?_)))))))
    refine zLE m24 (zIN w_9 (zLE c4.symm (zIN w_10 (zLE m25 (zIP w_11 (zLE m26 (zLE c5.symm ?_)))))))
    refine zLE (show fn57 [ρ 7, ρ 0] (γ 5) = (0, 0, γ 6) from l0.symm) (zLV (γ 6) rfl ?_)
    rfl
  exact zGoo_ato hJ hD
theorem vn75a0_48 {S : Nat → zSpc} (hS57 : zIm S 57 sn57) (hS73 : zIm S 73 sn73) {a : List Int} {g : rHp} : ∀ (ρ : Nat → Int) (γ : Nat → rHp), jn75 a g 0 (zAg (zNA a75_ 0) ρ) (γ 1) → zO 15 S a g q75a0_48 ρ γ → zGl (fun i vs g1 => jn75 a g i vs g1) (sn75 a g) q75a0_48 ρ γ := by
  intro ρ γ hJ h
  obtain ⟨ha, hg, hr, hf, hm, hc, hl⟩ := h
  have ha : a = [ρ 0, ρ 1, ρ 2, ρ 3, ρ 4, ρ 5, ρ 6, ρ 7, ρ 8, ρ 9, ρ 10, ρ 11, ρ 12, ρ 13, ρ 14] := ha
  subst ha
  subst hg
  have hJ : jn75 [ρ 0, ρ 1, ρ 2, ρ 3, ρ 4, ρ 5, ρ 6, ρ 7, ρ 8, ρ 9, ρ 10, ρ 11, ρ 12, ρ 13, ρ 14] (γ 0) 0 [ρ 0, ρ 1, ρ 2, ρ 3, ρ 4, ρ 5, ρ 6, ρ 7, ρ 8, ρ 9, ρ 10, ρ 11, ρ 12, ρ 13, ρ 14, ρ 15, ρ 16, ρ 17, ρ 18, ρ 19] (γ 1) := hJ
  have r3 : (1 : Int) ≤ ρ 3 ∧ ρ 3 ≤ 1 := zRnA hr 3
  have r17 : (0 : Int) ≤ ρ 17 ∧ ρ 17 ≤ 0 := zRnA hr 17
  have r21 : (4 : Int) ≤ ρ 21 ∧ ρ 21 ≤ 4 := zRnA hr 21
  have r22 : (0 : Int) ≤ ρ 22 ∧ ρ 22 ≤ 2 := zRnA hr 22
  have r24 : (3 : Int) ≤ ρ 24 ∧ ρ 24 ≤ 3 := zRnA hr 24
  have r25 : (3 : Int) ≤ ρ 25 ∧ ρ 25 ≤ 3 := zRnA hr 25
  have r26 : (3 : Int) ≤ ρ 26 ∧ ρ 26 ≤ 3 := zRnA hr 26
  have f3 : (0 : Int) ≤ ρ 18 + -ρ 15 + (-1) := zAllA hf 3
  obtain ⟨w_0, w_1, w_2, w_3, w_4, w_5, w_6, w_7, w_8, w_9, w_10, w_11⟩ : (¬ (ρ 15 ≥ ρ 18)) ∧ (¬ (ρ 17 ≠ 0)) ∧ (ρ 3 ≤ 2) ∧ (¬ (ρ 3 ≠ 1)) ∧ (¬ (0 ≥ ρ 21)) ∧ (ρ 22 ≠ 3) ∧ (¬ (1 ≥ ρ 21)) ∧ (¬ (ρ 24 ≠ 3)) ∧ (¬ (2 ≥ ρ 21)) ∧ (¬ (ρ 25 ≠ 3)) ∧ (¬ (3 ≥ ρ 21)) ∧ (¬ (ρ 26 ≠ 3)) := ⟨by omega, by omega, by omega, by omega, by omega, by omega, by omega, by omega, by omega, by omega, by omega, by omega⟩
  have m2 : γ 0 71 0 (ρ 0) = ρ 3 := zAllA hm 2
  have m6 : γ 0 69 0 (ρ 0) = ρ 7 := zAllA hm 6
  have m15 : γ 1 15 0 77 = ρ 17 := zAllA hm 15
  have m16 : γ 1 15 0 90 = ρ 18 := zAllA hm 16
  have m19 : γ 1 106 0 (ρ 15) = ρ 20 := zAllA hm 19
  have m20 : γ 0 66 0 (ρ 7) = ρ 21 := zAllA hm 20
  have m21 : γ 0 70 0 (4 * ρ 0) = ρ 22 := zAllA hm 21
  have m22 : γ 1 105 0 (4 * ρ 15) = ρ 23 := zAllA hm 22
  have m23 : γ 0 70 0 (4 * ρ 0 + 1) = ρ 24 := zAllA hm 23
  have m24 : γ 0 70 0 (4 * ρ 0 + 2) = ρ 25 := zAllA hm 24
  have m25 : γ 0 70 0 (4 * ρ 0 + 3) = ρ 26 := zAllA hm 25
  have c2 : γ 2 = rUp (γ 1) 102 0 0 (ρ 23) := And.right (zChA hc 4)
  have c3 : γ 3 = rUp (γ 2) 102 0 1 (ρ 20) := And.right (zChA hc 3)
  have c4 : γ 4 = rUp (γ 3) 102 0 2 (ρ 20) := And.right (zChA hc 2)
  have c5 : γ 5 = rUp (γ 4) 102 0 3 (ρ 20) := And.right (zChA hc 1)
  have l0 : sn57 [ρ 7, ρ 0, ρ 2, ρ 19, ρ 27, ρ 28, ρ 29, ρ 10, ρ 17] (γ 5) 0 0 (γ 6) := hS57 _ _ _ _ _ (zAllA hl 0)
  show jn75 [ρ 0, ρ 1, ρ 2, ρ 3, ρ 4, ρ 5, ρ 6, ρ 7, ρ 8, ρ 9, ρ 10, ρ 11, ρ 12, ρ 13, ρ 14] (γ 0) 0 [ρ 0, ρ 1, ρ 2, ρ 3, ρ 4, ρ 5, ρ 6, ρ 7, ρ 8, ρ 9, ρ 10, ρ 11, ρ 12, ρ 13, ρ 14, ρ 15 + 1, ρ 16, ρ 34, ρ 18, ρ 30] (γ 6)
  have hD : en75 (γ 0) (0, [ρ 0, ρ 15], γ 1) = .inl (0, [ρ 0, ρ 15 + 1], γ 6) := by
    unfold en75
    refine zIP (show (0 : Nat) = 0 by decide) (zLV (γ 1) rfl (zLV (ρ 0) rfl (zLV (ρ 15) rfl (zLE m2 (zLE m6 (zLE m15 (zLE m16 ?_)))))))
    refine zIN w_0 (zIN w_1 (zIP w_2 (zIN w_3 (zLE m19 (zLE m20 (zIN w_4 (zLE m21 ?_)))))))
    refine zIP w_5 (zLE m22 (zLE c2.symm (zIN w_6 (zLE m23 (zIN w_7 (zLE c3.symm (zIN w_8 ?_)))))))
    refine zLE m24 (zIN w_9 (zLE c4.symm (zIN w_10 (zLE m25 (zIN w_11 (zLE c5.symm (zLE (show fn57 [ρ 7, ρ 0] (γ 5) = (0, 0, γ 6) from l0.symm) ?_)))))))
    refine zLV (γ 6) rfl ?_
    rfl
  exact zGoo_ato hJ hD
theorem vn75a0_49 {S : Nat → zSpc} (hS57 : zIm S 57 sn57) (hS73 : zIm S 73 sn73) {a : List Int} {g : rHp} : ∀ (ρ : Nat → Int) (γ : Nat → rHp), jn75 a g 0 (zAg (zNA a75_ 0) ρ) (γ 1) → zO 15 S a g q75a0_49 ρ γ → zGl (fun i vs g1 => jn75 a g i vs g1) (sn75 a g) q75a0_49 ρ γ := by
  intro ρ γ hJ h
  obtain ⟨ha, hg, hr, hf, hm, hc, hl⟩ := h
  have ha : a = [ρ 0, ρ 1, ρ 2, ρ 3, ρ 4, ρ 5, ρ 6, ρ 7, ρ 8, ρ 9, ρ 10, ρ 11, ρ 12, ρ 13, ρ 14] := ha
  subst ha
  subst hg
  have hJ : jn75 [ρ 0, ρ 1, ρ 2, ρ 3, ρ 4, ρ 5, ρ 6, ρ 7, ρ 8, ρ 9, ρ 10, ρ 11, ρ 12, ρ 13, ρ 14] (γ 0) 0 [ρ 0, ρ 1, ρ 2, ρ 3, ρ 4, ρ 5, ρ 6, ρ 7, ρ 8, ρ 9, ρ 10, ρ 11, ρ 12, ρ 13, ρ 14, ρ 15, ρ 16, ρ 17, ρ 18, ρ 19] (γ 1) := hJ
  have r3 : (1 : Int) ≤ ρ 3 ∧ ρ 3 ≤ 1 := zRnA hr 3
  have r17 : (0 : Int) ≤ ρ 17 ∧ ρ 17 ≤ 0 := zRnA hr 17
  have r21 : (1 : Int) ≤ ρ 21 ∧ ρ 21 ≤ 1 := zRnA hr 21
  have r22 : (3 : Int) ≤ ρ 22 ∧ ρ 22 ≤ 3 := zRnA hr 22
  have f3 : (0 : Int) ≤ ρ 18 + -ρ 15 + (-1) := zAllA hf 3
  obtain ⟨w_0, w_1, w_2, w_3, w_4, w_5, w_6⟩ : (¬ (ρ 15 ≥ ρ 18)) ∧ (¬ (ρ 17 ≠ 0)) ∧ (ρ 3 ≤ 2) ∧ (¬ (ρ 3 ≠ 1)) ∧ (¬ (0 ≥ ρ 21)) ∧ (¬ (ρ 22 ≠ 3)) ∧ (1 ≥ ρ 21) := ⟨by omega, by omega, by omega, by omega, by omega, by omega, by omega⟩
  have m2 : γ 0 71 0 (ρ 0) = ρ 3 := zAllA hm 2
  have m6 : γ 0 69 0 (ρ 0) = ρ 7 := zAllA hm 6
  have m15 : γ 1 15 0 77 = ρ 17 := zAllA hm 15
  have m16 : γ 1 15 0 90 = ρ 18 := zAllA hm 16
  have m19 : γ 1 106 0 (ρ 15) = ρ 20 := zAllA hm 19
  have m20 : γ 0 66 0 (ρ 7) = ρ 21 := zAllA hm 20
  have m21 : γ 0 70 0 (4 * ρ 0) = ρ 22 := zAllA hm 21
  have m22 : γ 1 105 0 (4 * ρ 15 + 1) = ρ 23 := zAllA hm 22
  have m23 : γ 1 105 0 (4 * ρ 15 + 2) = ρ 24 := zAllA hm 23
  have m24 : γ 1 105 0 (4 * ρ 15 + 3) = ρ 25 := zAllA hm 24
  have c2 : γ 2 = rUp (γ 1) 102 0 0 (ρ 20) := And.right (zChA hc 4)
  have c3 : γ 3 = rUp (γ 2) 102 0 1 (ρ 23) := And.right (zChA hc 3)
  have c4 : γ 4 = rUp (γ 3) 102 0 2 (ρ 24) := And.right (zChA hc 2)
  have c5 : γ 5 = rUp (γ 4) 102 0 3 (ρ 25) := And.right (zChA hc 1)
  have l0 : sn57 [ρ 7, ρ 0, ρ 2, ρ 19, ρ 26, ρ 27, ρ 28, ρ 10, ρ 17] (γ 5) 0 0 (γ 6) := hS57 _ _ _ _ _ (zAllA hl 0)
  show jn75 [ρ 0, ρ 1, ρ 2, ρ 3, ρ 4, ρ 5, ρ 6, ρ 7, ρ 8, ρ 9, ρ 10, ρ 11, ρ 12, ρ 13, ρ 14] (γ 0) 0 [ρ 0, ρ 1, ρ 2, ρ 3, ρ 4, ρ 5, ρ 6, ρ 7, ρ 8, ρ 9, ρ 10, ρ 11, ρ 12, ρ 13, ρ 14, ρ 15 + 1, ρ 16, ρ 33, ρ 18, ρ 29] (γ 6)
  have hD : en75 (γ 0) (0, [ρ 0, ρ 15], γ 1) = .inl (0, [ρ 0, ρ 15 + 1], γ 6) := by
    unfold en75
    refine zIP (show (0 : Nat) = 0 by decide) (zLV (γ 1) rfl (zLV (ρ 0) rfl (zLV (ρ 15) rfl (zLE m2 (zLE m6 (zLE m15 (zLE m16 ?_)))))))
    refine zIN w_0 (zIN w_1 (zIP w_2 (zIN w_3 (zLE m19 (zLE m20 (zIN w_4 (zLE m21 ?_)))))))
    refine zIN w_5 (zLE c2.symm (zIP w_6 (zLE m22 (zLE c3.symm (zLE m23 (zLE c4.symm (zLE m24 ?_)))))))
    refine zLE c5.symm (zLE (show fn57 [ρ 7, ρ 0] (γ 5) = (0, 0, γ 6) from l0.symm) (zLV (γ 6) rfl ?_))
    rfl
  exact zGoo_ato hJ hD
theorem vn75a0_50 {S : Nat → zSpc} (hS57 : zIm S 57 sn57) (hS73 : zIm S 73 sn73) {a : List Int} {g : rHp} : ∀ (ρ : Nat → Int) (γ : Nat → rHp), jn75 a g 0 (zAg (zNA a75_ 0) ρ) (γ 1) → zO 15 S a g q75a0_50 ρ γ → zGl (fun i vs g1 => jn75 a g i vs g1) (sn75 a g) q75a0_50 ρ γ := by
  intro ρ γ hJ h
  obtain ⟨ha, hg, hr, hf, hm, hc, hl⟩ := h
  have ha : a = [ρ 0, ρ 1, ρ 2, ρ 3, ρ 4, ρ 5, ρ 6, ρ 7, ρ 8, ρ 9, ρ 10, ρ 11, ρ 12, ρ 13, ρ 14] := ha
  subst ha
  subst hg
  have hJ : jn75 [ρ 0, ρ 1, ρ 2, ρ 3, ρ 4, ρ 5, ρ 6, ρ 7, ρ 8, ρ 9, ρ 10, ρ 11, ρ 12, ρ 13, ρ 14] (γ 0) 0 [ρ 0, ρ 1, ρ 2, ρ 3, ρ 4, ρ 5, ρ 6, ρ 7, ρ 8, ρ 9, ρ 10, ρ 11, ρ 12, ρ 13, ρ 14, ρ 15, ρ 16, ρ 17, ρ 18, ρ 19] (γ 1) := hJ
  have r3 : (1 : Int) ≤ ρ 3 ∧ ρ 3 ≤ 1 := zRnA hr 3
  have r17 : (0 : Int) ≤ ρ 17 ∧ ρ 17 ≤ 0 := zRnA hr 17
  have r21 : (2 : Int) ≤ ρ 21 ∧ ρ 21 ≤ 2 := zRnA hr 21
  have r22 : (3 : Int) ≤ ρ 22 ∧ ρ 22 ≤ 3 := zRnA hr 22
  have r23 : (0 : Int) ≤ ρ 23 ∧ ρ 23 ≤ 2 := zRnA hr 23
  have f3 : (0 : Int) ≤ ρ 18 + -ρ 15 + (-1) := zAllA hf 3
  obtain ⟨w_0, w_1, w_2, w_3, w_4, w_5, w_6, w_7, w_8⟩ : (¬ (ρ 15 ≥ ρ 18)) ∧ (¬ (ρ 17 ≠ 0)) ∧ (ρ 3 ≤ 2) ∧ (¬ (ρ 3 ≠ 1)) ∧ (¬ (0 ≥ ρ 21)) ∧ (¬ (ρ 22 ≠ 3)) ∧ (¬ (1 ≥ ρ 21)) ∧ (ρ 23 ≠ 3) ∧ (2 ≥ ρ 21) := ⟨by omega, by omega, by omega, by omega, by omega, by omega, by omega, by omega, by omega⟩
  have m2 : γ 0 71 0 (ρ 0) = ρ 3 := zAllA hm 2
  have m6 : γ 0 69 0 (ρ 0) = ρ 7 := zAllA hm 6
  have m15 : γ 1 15 0 77 = ρ 17 := zAllA hm 15
  have m16 : γ 1 15 0 90 = ρ 18 := zAllA hm 16
  have m19 : γ 1 106 0 (ρ 15) = ρ 20 := zAllA hm 19
  have m20 : γ 0 66 0 (ρ 7) = ρ 21 := zAllA hm 20
  have m21 : γ 0 70 0 (4 * ρ 0) = ρ 22 := zAllA hm 21
  have m22 : γ 0 70 0 (4 * ρ 0 + 1) = ρ 23 := zAllA hm 22
  have m23 : γ 1 105 0 (4 * ρ 15 + 1) = ρ 24 := zAllA hm 23
  have m24 : γ 1 105 0 (4 * ρ 15 + 2) = ρ 25 := zAllA hm 24
  have m25 : γ 1 105 0 (4 * ρ 15 + 3) = ρ 26 := zAllA hm 25
  have c2 : γ 2 = rUp (γ 1) 102 0 0 (ρ 20) := And.right (zChA hc 4)
  have c3 : γ 3 = rUp (γ 2) 102 0 1 (ρ 24) := And.right (zChA hc 3)
  have c4 : γ 4 = rUp (γ 3) 102 0 2 (ρ 25) := And.right (zChA hc 2)
  have c5 : γ 5 = rUp (γ 4) 102 0 3 (ρ 26) := And.right (zChA hc 1)
  have l0 : sn57 [ρ 7, ρ 0, ρ 2, ρ 19, ρ 27, ρ 28, ρ 29, ρ 10, ρ 17] (γ 5) 0 0 (γ 6) := hS57 _ _ _ _ _ (zAllA hl 0)
  show jn75 [ρ 0, ρ 1, ρ 2, ρ 3, ρ 4, ρ 5, ρ 6, ρ 7, ρ 8, ρ 9, ρ 10, ρ 11, ρ 12, ρ 13, ρ 14] (γ 0) 0 [ρ 0, ρ 1, ρ 2, ρ 3, ρ 4, ρ 5, ρ 6, ρ 7, ρ 8, ρ 9, ρ 10, ρ 11, ρ 12, ρ 13, ρ 14, ρ 15 + 1, ρ 16, ρ 34, ρ 18, ρ 30] (γ 6)
  have hD : en75 (γ 0) (0, [ρ 0, ρ 15], γ 1) = .inl (0, [ρ 0, ρ 15 + 1], γ 6) := by
    unfold en75
    refine zIP (show (0 : Nat) = 0 by decide) (zLV (γ 1) rfl (zLV (ρ 0) rfl (zLV (ρ 15) rfl (zLE m2 (zLE m6 (zLE m15 (zLE m16 ?_)))))))
    refine zIN w_0 (zIN w_1 (zIP w_2 (zIN w_3 (zLE m19 (zLE m20 (zIN w_4 (zLE m21 ?_)))))))
    refine zIN w_5 (zLE c2.symm (zIN w_6 (zLE m22 (zIP w_7 (zLE m23 (zLE c3.symm (zIP w_8 ?_)))))))
    refine zLE m24 (zLE c4.symm (zLE m25 (zLE c5.symm (zLE (show fn57 [ρ 7, ρ 0] (γ 5) = (0, 0, γ 6) from l0.symm) (zLV (γ 6) rfl ?_)))))
    rfl
  exact zGoo_ato hJ hD
theorem vn75a0_51 {S : Nat → zSpc} (hS57 : zIm S 57 sn57) (hS73 : zIm S 73 sn73) {a : List Int} {g : rHp} : ∀ (ρ : Nat → Int) (γ : Nat → rHp), jn75 a g 0 (zAg (zNA a75_ 0) ρ) (γ 1) → zO 15 S a g q75a0_51 ρ γ → zGl (fun i vs g1 => jn75 a g i vs g1) (sn75 a g) q75a0_51 ρ γ := by
  intro ρ γ hJ h
  obtain ⟨ha, hg, hr, hf, hm, hc, hl⟩ := h
  have ha : a = [ρ 0, ρ 1, ρ 2, ρ 3, ρ 4, ρ 5, ρ 6, ρ 7, ρ 8, ρ 9, ρ 10, ρ 11, ρ 12, ρ 13, ρ 14] := ha
  subst ha
  subst hg
  have hJ : jn75 [ρ 0, ρ 1, ρ 2, ρ 3, ρ 4, ρ 5, ρ 6, ρ 7, ρ 8, ρ 9, ρ 10, ρ 11, ρ 12, ρ 13, ρ 14] (γ 0) 0 [ρ 0, ρ 1, ρ 2, ρ 3, ρ 4, ρ 5, ρ 6, ρ 7, ρ 8, ρ 9, ρ 10, ρ 11, ρ 12, ρ 13, ρ 14, ρ 15, ρ 16, ρ 17, ρ 18, ρ 19] (γ 1) := hJ
  have r3 : (1 : Int) ≤ ρ 3 ∧ ρ 3 ≤ 1 := zRnA hr 3
  have r17 : (0 : Int) ≤ ρ 17 ∧ ρ 17 ≤ 0 := zRnA hr 17
  have r21 : (3 : Int) ≤ ρ 21 ∧ ρ 21 ≤ 3 := zRnA hr 21
  have r22 : (3 : Int) ≤ ρ 22 ∧ ρ 22 ≤ 3 := zRnA hr 22
  have r23 : (0 : Int) ≤ ρ 23 ∧ ρ 23 ≤ 2 := zRnA hr 23
  have r25 : (0 : Int) ≤ ρ 25 ∧ ρ 25 ≤ 2 := zRnA hr 25
  have f3 : (0 : Int) ≤ ρ 18 + -ρ 15 + (-1) := zAllA hf 3
  obtain ⟨w_0, w_1, w_2, w_3, w_4, w_5, w_6, w_7, w_8, w_9, w_10⟩ : (¬ (ρ 15 ≥ ρ 18)) ∧ (¬ (ρ 17 ≠ 0)) ∧ (ρ 3 ≤ 2) ∧ (¬ (ρ 3 ≠ 1)) ∧ (¬ (0 ≥ ρ 21)) ∧ (¬ (ρ 22 ≠ 3)) ∧ (¬ (1 ≥ ρ 21)) ∧ (ρ 23 ≠ 3) ∧ (¬ (2 ≥ ρ 21)) ∧ (ρ 25 ≠ 3) ∧ (3 ≥ ρ 21) := ⟨by omega, by omega, by omega, by omega, by omega, by omega, by omega, by omega, by omega, by omega, by omega⟩
  have m2 : γ 0 71 0 (ρ 0) = ρ 3 := zAllA hm 2
  have m6 : γ 0 69 0 (ρ 0) = ρ 7 := zAllA hm 6
  have m15 : γ 1 15 0 77 = ρ 17 := zAllA hm 15
  have m16 : γ 1 15 0 90 = ρ 18 := zAllA hm 16
  have m19 : γ 1 106 0 (ρ 15) = ρ 20 := zAllA hm 19
  have m20 : γ 0 66 0 (ρ 7) = ρ 21 := zAllA hm 20
  have m21 : γ 0 70 0 (4 * ρ 0) = ρ 22 := zAllA hm 21
  have m22 : γ 0 70 0 (4 * ρ 0 + 1) = ρ 23 := zAllA hm 22
  have m23 : γ 1 105 0 (4 * ρ 15 + 1) = ρ 24 := zAllA hm 23
  have m24 : γ 0 70 0 (4 * ρ 0 + 2) = ρ 25 := zAllA hm 24
  have m25 : γ 1 105 0 (4 * ρ 15 + 2) = ρ 26 := zAllA hm 25
  have m26 : γ 1 105 0 (4 * ρ 15 + 3) = ρ 27 := zAllA hm 26
  have c2 : γ 2 = rUp (γ 1) 102 0 0 (ρ 20) := And.right (zChA hc 4)
  have c3 : γ 3 = rUp (γ 2) 102 0 1 (ρ 24) := And.right (zChA hc 3)
  have c4 : γ 4 = rUp (γ 3) 102 0 2 (ρ 26) := And.right (zChA hc 2)
  have c5 : γ 5 = rUp (γ 4) 102 0 3 (ρ 27) := And.right (zChA hc 1)
  have l0 : sn57 [ρ 7, ρ 0, ρ 2, ρ 19, ρ 28, ρ 29, ρ 30, ρ 10, ρ 17] (γ 5) 0 0 (γ 6) := hS57 _ _ _ _ _ (zAllA hl 0)
  show jn75 [ρ 0, ρ 1, ρ 2, ρ 3, ρ 4, ρ 5, ρ 6, ρ 7, ρ 8, ρ 9, ρ 10, ρ 11, ρ 12, ρ 13, ρ 14] (γ 0) 0 [ρ 0, ρ 1, ρ 2, ρ 3, ρ 4, ρ 5, ρ 6, ρ 7, ρ 8, ρ 9, ρ 10, ρ 11, ρ 12, ρ 13, ρ 14, ρ 15 + 1, ρ 16, ρ 35, ρ 18, ρ 31] (γ 6)
  have hD : en75 (γ 0) (0, [ρ 0, ρ 15], γ 1) = .inl (0, [ρ 0, ρ 15 + 1], γ 6) := by
    unfold en75
    refine zIP (show (0 : Nat) = 0 by decide) (zLV (γ 1) rfl (zLV (ρ 0) rfl (zLV (ρ 15) rfl (zLE m2 (zLE m6 (zLE m15 (zLE m16 ?_)))))))
    refine zIN w_0 (zIN w_1 (zIP w_2 (zIN w_3 (zLE m19 (zLE m20 (zIN w_4 (zLE m21 ?_)))))))
    refine zIN w_5 (zLE c2.symm (zIN w_6 (zLE m22 (zIP w_7 (zLE m23 (zLE c3.symm (zIN w_8 ?_)))))))
    refine zLE m24 (zIP w_9 (zLE m25 (zLE c4.symm (zIP w_10 (zLE m26 (zLE c5.symm (zLE (show fn57 [ρ 7, ρ 0] (γ 5) = (0, 0, γ 6) from l0.symm) ?_)))))))
    refine zLV (γ 6) rfl ?_
    rfl
  exact zGoo_ato hJ hD
theorem vn75a0_52 {S : Nat → zSpc} (hS57 : zIm S 57 sn57) (hS73 : zIm S 73 sn73) {a : List Int} {g : rHp} : ∀ (ρ : Nat → Int) (γ : Nat → rHp), jn75 a g 0 (zAg (zNA a75_ 0) ρ) (γ 1) → zO 15 S a g q75a0_52 ρ γ → zGl (fun i vs g1 => jn75 a g i vs g1) (sn75 a g) q75a0_52 ρ γ := by
  intro ρ γ hJ h
  obtain ⟨ha, hg, hr, hf, hm, hc, hl⟩ := h
  have ha : a = [ρ 0, ρ 1, ρ 2, ρ 3, ρ 4, ρ 5, ρ 6, ρ 7, ρ 8, ρ 9, ρ 10, ρ 11, ρ 12, ρ 13, ρ 14] := ha
  subst ha
  subst hg
  have hJ : jn75 [ρ 0, ρ 1, ρ 2, ρ 3, ρ 4, ρ 5, ρ 6, ρ 7, ρ 8, ρ 9, ρ 10, ρ 11, ρ 12, ρ 13, ρ 14] (γ 0) 0 [ρ 0, ρ 1, ρ 2, ρ 3, ρ 4, ρ 5, ρ 6, ρ 7, ρ 8, ρ 9, ρ 10, ρ 11, ρ 12, ρ 13, ρ 14, ρ 15, ρ 16, ρ 17, ρ 18, ρ 19] (γ 1) := hJ
  have r3 : (1 : Int) ≤ ρ 3 ∧ ρ 3 ≤ 1 := zRnA hr 3
  have r17 : (0 : Int) ≤ ρ 17 ∧ ρ 17 ≤ 0 := zRnA hr 17
  have r21 : (4 : Int) ≤ ρ 21 ∧ ρ 21 ≤ 4 := zRnA hr 21
  have r22 : (3 : Int) ≤ ρ 22 ∧ ρ 22 ≤ 3 := zRnA hr 22
  have r23 : (0 : Int) ≤ ρ 23 ∧ ρ 23 ≤ 2 := zRnA hr 23
  have r25 : (0 : Int) ≤ ρ 25 ∧ ρ 25 ≤ 2 := zRnA hr 25
  have r27 : (0 : Int) ≤ ρ 27 ∧ ρ 27 ≤ 2 := zRnA hr 27
  have f3 : (0 : Int) ≤ ρ 18 + -ρ 15 + (-1) := zAllA hf 3
  obtain ⟨w_0, w_1, w_2, w_3, w_4, w_5, w_6, w_7, w_8, w_9, w_10, w_11⟩ : (¬ (ρ 15 ≥ ρ 18)) ∧ (¬ (ρ 17 ≠ 0)) ∧ (ρ 3 ≤ 2) ∧ (¬ (ρ 3 ≠ 1)) ∧ (¬ (0 ≥ ρ 21)) ∧ (¬ (ρ 22 ≠ 3)) ∧ (¬ (1 ≥ ρ 21)) ∧ (ρ 23 ≠ 3) ∧ (¬ (2 ≥ ρ 21)) ∧ (ρ 25 ≠ 3) ∧ (¬ (3 ≥ ρ 21)) ∧ (ρ 27 ≠ 3) := ⟨by omega, by omega, by omega, by omega, by omega, by omega, by omega, by omega, by omega, by omega, by omega, by omega⟩
  have m2 : γ 0 71 0 (ρ 0) = ρ 3 := zAllA hm 2
  have m6 : γ 0 69 0 (ρ 0) = ρ 7 := zAllA hm 6
  have m15 : γ 1 15 0 77 = ρ 17 := zAllA hm 15
  have m16 : γ 1 15 0 90 = ρ 18 := zAllA hm 16
  have m19 : γ 1 106 0 (ρ 15) = ρ 20 := zAllA hm 19
  have m20 : γ 0 66 0 (ρ 7) = ρ 21 := zAllA hm 20
  have m21 : γ 0 70 0 (4 * ρ 0) = ρ 22 := zAllA hm 21
  have m22 : γ 0 70 0 (4 * ρ 0 + 1) = ρ 23 := zAllA hm 22
  have m23 : γ 1 105 0 (4 * ρ 15 + 1) = ρ 24 := zAllA hm 23
  have m24 : γ 0 70 0 (4 * ρ 0 + 2) = ρ 25 := zAllA hm 24
  have m25 : γ 1 105 0 (4 * ρ 15 + 2) = ρ 26 := zAllA hm 25
  have m26 : γ 0 70 0 (4 * ρ 0 + 3) = ρ 27 := zAllA hm 26
  have m27 : γ 1 105 0 (4 * ρ 15 + 3) = ρ 28 := zAllA hm 27
  have c2 : γ 2 = rUp (γ 1) 102 0 0 (ρ 20) := And.right (zChA hc 4)
  have c3 : γ 3 = rUp (γ 2) 102 0 1 (ρ 24) := And.right (zChA hc 3)
  have c4 : γ 4 = rUp (γ 3) 102 0 2 (ρ 26) := And.right (zChA hc 2)
  have c5 : γ 5 = rUp (γ 4) 102 0 3 (ρ 28) := And.right (zChA hc 1)
  have l0 : sn57 [ρ 7, ρ 0, ρ 2, ρ 19, ρ 29, ρ 30, ρ 31, ρ 10, ρ 17] (γ 5) 0 0 (γ 6) := hS57 _ _ _ _ _ (zAllA hl 0)
  show jn75 [ρ 0, ρ 1, ρ 2, ρ 3, ρ 4, ρ 5, ρ 6, ρ 7, ρ 8, ρ 9, ρ 10, ρ 11, ρ 12, ρ 13, ρ 14] (γ 0) 0 [ρ 0, ρ 1, ρ 2, ρ 3, ρ 4, ρ 5, ρ 6, ρ 7, ρ 8, ρ 9, ρ 10, ρ 11, ρ 12, ρ 13, ρ 14, ρ 15 + 1, ρ 16, ρ 36, ρ 18, ρ 32] (γ 6)
  have hD : en75 (γ 0) (0, [ρ 0, ρ 15], γ 1) = .inl (0, [ρ 0, ρ 15 + 1], γ 6) := by
    unfold en75
    refine zIP (show (0 : Nat) = 0 by decide) (zLV (γ 1) rfl (zLV (ρ 0) rfl (zLV (ρ 15) rfl (zLE m2 (zLE m6 (zLE m15 (zLE m16 ?_)))))))
    refine zIN w_0 (zIN w_1 (zIP w_2 (zIN w_3 (zLE m19 (zLE m20 (zIN w_4 (zLE m21 ?_)))))))
    refine zIN w_5 (zLE c2.symm (zIN w_6 (zLE m22 (zIP w_7 (zLE m23 (zLE c3.symm (zIN w_8 ?_)))))))
    refine zLE m24 (zIP w_9 (zLE m25 (zLE c4.symm (zIN w_10 (zLE m26 (zIP w_11 (zLE m27 ?_)))))))
    refine zLE c5.symm (zLE (show fn57 [ρ 7, ρ 0] (γ 5) = (0, 0, γ 6) from l0.symm) (zLV (γ 6) rfl ?_))
    rfl
  exact zGoo_ato hJ hD
theorem vn75a0_53 {S : Nat → zSpc} (hS57 : zIm S 57 sn57) (hS73 : zIm S 73 sn73) {a : List Int} {g : rHp} : ∀ (ρ : Nat → Int) (γ : Nat → rHp), jn75 a g 0 (zAg (zNA a75_ 0) ρ) (γ 1) → zO 15 S a g q75a0_53 ρ γ → zGl (fun i vs g1 => jn75 a g i vs g1) (sn75 a g) q75a0_53 ρ γ := by
  intro ρ γ hJ h
  obtain ⟨ha, hg, hr, hf, hm, hc, hl⟩ := h
  have ha : a = [ρ 0, ρ 1, ρ 2, ρ 3, ρ 4, ρ 5, ρ 6, ρ 7, ρ 8, ρ 9, ρ 10, ρ 11, ρ 12, ρ 13, ρ 14] := ha
  subst ha
  subst hg
  have hJ : jn75 [ρ 0, ρ 1, ρ 2, ρ 3, ρ 4, ρ 5, ρ 6, ρ 7, ρ 8, ρ 9, ρ 10, ρ 11, ρ 12, ρ 13, ρ 14] (γ 0) 0 [ρ 0, ρ 1, ρ 2, ρ 3, ρ 4, ρ 5, ρ 6, ρ 7, ρ 8, ρ 9, ρ 10, ρ 11, ρ 12, ρ 13, ρ 14, ρ 15, ρ 16, ρ 17, ρ 18, ρ 19] (γ 1) := hJ
  have r3 : (1 : Int) ≤ ρ 3 ∧ ρ 3 ≤ 1 := zRnA hr 3
  have r17 : (0 : Int) ≤ ρ 17 ∧ ρ 17 ≤ 0 := zRnA hr 17
  have r21 : (4 : Int) ≤ ρ 21 ∧ ρ 21 ≤ 4 := zRnA hr 21
  have r22 : (3 : Int) ≤ ρ 22 ∧ ρ 22 ≤ 3 := zRnA hr 22
  have r23 : (0 : Int) ≤ ρ 23 ∧ ρ 23 ≤ 2 := zRnA hr 23
  have r25 : (0 : Int) ≤ ρ 25 ∧ ρ 25 ≤ 2 := zRnA hr 25
  have r27 : (3 : Int) ≤ ρ 27 ∧ ρ 27 ≤ 3 := zRnA hr 27
  have f3 : (0 : Int) ≤ ρ 18 + -ρ 15 + (-1) := zAllA hf 3
  obtain ⟨w_0, w_1, w_2, w_3, w_4, w_5, w_6, w_7, w_8, w_9, w_10, w_11⟩ : (¬ (ρ 15 ≥ ρ 18)) ∧ (¬ (ρ 17 ≠ 0)) ∧ (ρ 3 ≤ 2) ∧ (¬ (ρ 3 ≠ 1)) ∧ (¬ (0 ≥ ρ 21)) ∧ (¬ (ρ 22 ≠ 3)) ∧ (¬ (1 ≥ ρ 21)) ∧ (ρ 23 ≠ 3) ∧ (¬ (2 ≥ ρ 21)) ∧ (ρ 25 ≠ 3) ∧ (¬ (3 ≥ ρ 21)) ∧ (¬ (ρ 27 ≠ 3)) := ⟨by omega, by omega, by omega, by omega, by omega, by omega, by omega, by omega, by omega, by omega, by omega, by omega⟩
  have m2 : γ 0 71 0 (ρ 0) = ρ 3 := zAllA hm 2
  have m6 : γ 0 69 0 (ρ 0) = ρ 7 := zAllA hm 6
  have m15 : γ 1 15 0 77 = ρ 17 := zAllA hm 15
  have m16 : γ 1 15 0 90 = ρ 18 := zAllA hm 16
  have m19 : γ 1 106 0 (ρ 15) = ρ 20 := zAllA hm 19
  have m20 : γ 0 66 0 (ρ 7) = ρ 21 := zAllA hm 20
  have m21 : γ 0 70 0 (4 * ρ 0) = ρ 22 := zAllA hm 21
  have m22 : γ 0 70 0 (4 * ρ 0 + 1) = ρ 23 := zAllA hm 22
  have m23 : γ 1 105 0 (4 * ρ 15 + 1) = ρ 24 := zAllA hm 23
  have m24 : γ 0 70 0 (4 * ρ 0 + 2) = ρ 25 := zAllA hm 24
  have m25 : γ 1 105 0 (4 * ρ 15 + 2) = ρ 26 := zAllA hm 25
  have m26 : γ 0 70 0 (4 * ρ 0 + 3) = ρ 27 := zAllA hm 26
  have c2 : γ 2 = rUp (γ 1) 102 0 0 (ρ 20) := And.right (zChA hc 4)
  have c3 : γ 3 = rUp (γ 2) 102 0 1 (ρ 24) := And.right (zChA hc 3)
  have c4 : γ 4 = rUp (γ 3) 102 0 2 (ρ 26) := And.right (zChA hc 2)
  have c5 : γ 5 = rUp (γ 4) 102 0 3 (ρ 20) := And.right (zChA hc 1)
  have l0 : sn57 [ρ 7, ρ 0, ρ 2, ρ 19, ρ 28, ρ 29, ρ 30, ρ 10, ρ 17] (γ 5) 0 0 (γ 6) := hS57 _ _ _ _ _ (zAllA hl 0)
  show jn75 [ρ 0, ρ 1, ρ 2, ρ 3, ρ 4, ρ 5, ρ 6, ρ 7, ρ 8, ρ 9, ρ 10, ρ 11, ρ 12, ρ 13, ρ 14] (γ 0) 0 [ρ 0, ρ 1, ρ 2, ρ 3, ρ 4, ρ 5, ρ 6, ρ 7, ρ 8, ρ 9, ρ 10, ρ 11, ρ 12, ρ 13, ρ 14, ρ 15 + 1, ρ 16, ρ 35, ρ 18, ρ 31] (γ 6)
  have hD : en75 (γ 0) (0, [ρ 0, ρ 15], γ 1) = .inl (0, [ρ 0, ρ 15 + 1], γ 6) := by
    unfold en75
    refine zIP (show (0 : Nat) = 0 by decide) (zLV (γ 1) rfl (zLV (ρ 0) rfl (zLV (ρ 15) rfl (zLE m2 (zLE m6 (zLE m15 (zLE m16 ?_)))))))
    refine zIN w_0 (zIN w_1 (zIP w_2 (zIN w_3 (zLE m19 (zLE m20 (zIN w_4 (zLE m21 ?_)))))))
    refine zIN w_5 (zLE c2.symm (zIN w_6 (zLE m22 (zIP w_7 (zLE m23 (zLE c3.symm (zIN w_8 ?_)))))))
    refine zLE m24 (zIP w_9 (zLE m25 (zLE c4.symm (zIN w_10 (zLE m26 (zIN w_11 (zLE c5.symm ?_)))))))
    refine zLE (show fn57 [ρ 7, ρ 0] (γ 5) = (0, 0, γ 6) from l0.symm) (zLV (γ 6) rfl ?_)
    rfl
  exact zGoo_ato hJ hD
theorem vn75a0_54 {S : Nat → zSpc} (hS57 : zIm S 57 sn57) (hS73 : zIm S 73 sn73) {a : List Int} {g : rHp} : ∀ (ρ : Nat → Int) (γ : Nat → rHp), jn75 a g 0 (zAg (zNA a75_ 0) ρ) (γ 1) → zO 15 S a g q75a0_54 ρ γ → zGl (fun i vs g1 => jn75 a g i vs g1) (sn75 a g) q75a0_54 ρ γ := by
  intro ρ γ hJ h
  obtain ⟨ha, hg, hr, hf, hm, hc, hl⟩ := h
  have ha : a = [ρ 0, ρ 1, ρ 2, ρ 3, ρ 4, ρ 5, ρ 6, ρ 7, ρ 8, ρ 9, ρ 10, ρ 11, ρ 12, ρ 13, ρ 14] := ha
  subst ha
  subst hg
  have hJ : jn75 [ρ 0, ρ 1, ρ 2, ρ 3, ρ 4, ρ 5, ρ 6, ρ 7, ρ 8, ρ 9, ρ 10, ρ 11, ρ 12, ρ 13, ρ 14] (γ 0) 0 [ρ 0, ρ 1, ρ 2, ρ 3, ρ 4, ρ 5, ρ 6, ρ 7, ρ 8, ρ 9, ρ 10, ρ 11, ρ 12, ρ 13, ρ 14, ρ 15, ρ 16, ρ 17, ρ 18, ρ 19] (γ 1) := hJ
  have r3 : (1 : Int) ≤ ρ 3 ∧ ρ 3 ≤ 1 := zRnA hr 3
  have r17 : (0 : Int) ≤ ρ 17 ∧ ρ 17 ≤ 0 := zRnA hr 17
  have r21 : (3 : Int) ≤ ρ 21 ∧ ρ 21 ≤ 3 := zRnA hr 21
  have r22 : (3 : Int) ≤ ρ 22 ∧ ρ 22 ≤ 3 := zRnA hr 22
  have r23 : (0 : Int) ≤ ρ 23 ∧ ρ 23 ≤ 2 := zRnA hr 23
  have r25 : (3 : Int) ≤ ρ 25 ∧ ρ 25 ≤ 3 := zRnA hr 25
  have f3 : (0 : Int) ≤ ρ 18 + -ρ 15 + (-1) := zAllA hf 3
  obtain ⟨w_0, w_1, w_2, w_3, w_4, w_5, w_6, w_7, w_8, w_9, w_10⟩ : (¬ (ρ 15 ≥ ρ 18)) ∧ (¬ (ρ 17 ≠ 0)) ∧ (ρ 3 ≤ 2) ∧ (¬ (ρ 3 ≠ 1)) ∧ (¬ (0 ≥ ρ 21)) ∧ (¬ (ρ 22 ≠ 3)) ∧ (¬ (1 ≥ ρ 21)) ∧ (ρ 23 ≠ 3) ∧ (¬ (2 ≥ ρ 21)) ∧ (¬ (ρ 25 ≠ 3)) ∧ (3 ≥ ρ 21) := ⟨by omega, by omega, by omega, by omega, by omega, by omega, by omega, by omega, by omega, by omega, by omega⟩
  have m2 : γ 0 71 0 (ρ 0) = ρ 3 := zAllA hm 2
  have m6 : γ 0 69 0 (ρ 0) = ρ 7 := zAllA hm 6
  have m15 : γ 1 15 0 77 = ρ 17 := zAllA hm 15
  have m16 : γ 1 15 0 90 = ρ 18 := zAllA hm 16
  have m19 : γ 1 106 0 (ρ 15) = ρ 20 := zAllA hm 19
  have m20 : γ 0 66 0 (ρ 7) = ρ 21 := zAllA hm 20
  have m21 : γ 0 70 0 (4 * ρ 0) = ρ 22 := zAllA hm 21
  have m22 : γ 0 70 0 (4 * ρ 0 + 1) = ρ 23 := zAllA hm 22
  have m23 : γ 1 105 0 (4 * ρ 15 + 1) = ρ 24 := zAllA hm 23
  have m24 : γ 0 70 0 (4 * ρ 0 + 2) = ρ 25 := zAllA hm 24
  have m25 : γ 1 105 0 (4 * ρ 15 + 3) = ρ 26 := zAllA hm 25
  have c2 : γ 2 = rUp (γ 1) 102 0 0 (ρ 20) := And.right (zChA hc 4)
  have c3 : γ 3 = rUp (γ 2) 102 0 1 (ρ 24) := And.right (zChA hc 3)
  have c4 : γ 4 = rUp (γ 3) 102 0 2 (ρ 20) := And.right (zChA hc 2)
  have c5 : γ 5 = rUp (γ 4) 102 0 3 (ρ 26) := And.right (zChA hc 1)
  have l0 : sn57 [ρ 7, ρ 0, ρ 2, ρ 19, ρ 27, ρ 28, ρ 29, ρ 10, ρ 17] (γ 5) 0 0 (γ 6) := hS57 _ _ _ _ _ (zAllA hl 0)
  show jn75 [ρ 0, ρ 1, ρ 2, ρ 3, ρ 4, ρ 5, ρ 6, ρ 7, ρ 8, ρ 9, ρ 10, ρ 11, ρ 12, ρ 13, ρ 14] (γ 0) 0 [ρ 0, ρ 1, ρ 2, ρ 3, ρ 4, ρ 5, ρ 6, ρ 7, ρ 8, ρ 9, ρ 10, ρ 11, ρ 12, ρ 13, ρ 14, ρ 15 + 1, ρ 16, ρ 34, ρ 18, ρ 30] (γ 6)
  have hD : en75 (γ 0) (0, [ρ 0, ρ 15], γ 1) = .inl (0, [ρ 0, ρ 15 + 1], γ 6) := by
    unfold en75
    refine zIP (show (0 : Nat) = 0 by decide) (zLV (γ 1) rfl (zLV (ρ 0) rfl (zLV (ρ 15) rfl (zLE m2 (zLE m6 (zLE m15 (zLE m16 ?_)))))))
    refine zIN w_0 (zIN w_1 (zIP w_2 (zIN w_3 (zLE m19 (zLE m20 (zIN w_4 (zLE m21 ?_)))))))
    refine zIN w_5 (zLE c2.symm (zIN w_6 (zLE m22 (zIP w_7 (zLE m23 (zLE c3.symm (zIN w_8 ?_)))))))
    refine zLE m24 (zIN w_9 (zLE c4.symm (zIP w_10 (zLE m25 (zLE c5.symm (zLE (show fn57 [ρ 7, ρ 0] (γ 5) = (0, 0, γ 6) from l0.symm) (zLV (γ 6) rfl ?_)))))))
    rfl
  exact zGoo_ato hJ hD
theorem vn75a0_55 {S : Nat → zSpc} (hS57 : zIm S 57 sn57) (hS73 : zIm S 73 sn73) {a : List Int} {g : rHp} : ∀ (ρ : Nat → Int) (γ : Nat → rHp), jn75 a g 0 (zAg (zNA a75_ 0) ρ) (γ 1) → zO 15 S a g q75a0_55 ρ γ → zGl (fun i vs g1 => jn75 a g i vs g1) (sn75 a g) q75a0_55 ρ γ := by
  intro ρ γ hJ h
  obtain ⟨ha, hg, hr, hf, hm, hc, hl⟩ := h
  have ha : a = [ρ 0, ρ 1, ρ 2, ρ 3, ρ 4, ρ 5, ρ 6, ρ 7, ρ 8, ρ 9, ρ 10, ρ 11, ρ 12, ρ 13, ρ 14] := ha
  subst ha
  subst hg
  have hJ : jn75 [ρ 0, ρ 1, ρ 2, ρ 3, ρ 4, ρ 5, ρ 6, ρ 7, ρ 8, ρ 9, ρ 10, ρ 11, ρ 12, ρ 13, ρ 14] (γ 0) 0 [ρ 0, ρ 1, ρ 2, ρ 3, ρ 4, ρ 5, ρ 6, ρ 7, ρ 8, ρ 9, ρ 10, ρ 11, ρ 12, ρ 13, ρ 14, ρ 15, ρ 16, ρ 17, ρ 18, ρ 19] (γ 1) := hJ
  have r3 : (1 : Int) ≤ ρ 3 ∧ ρ 3 ≤ 1 := zRnA hr 3
  have r17 : (0 : Int) ≤ ρ 17 ∧ ρ 17 ≤ 0 := zRnA hr 17
  have r21 : (4 : Int) ≤ ρ 21 ∧ ρ 21 ≤ 4 := zRnA hr 21
  have r22 : (3 : Int) ≤ ρ 22 ∧ ρ 22 ≤ 3 := zRnA hr 22
  have r23 : (0 : Int) ≤ ρ 23 ∧ ρ 23 ≤ 2 := zRnA hr 23
  have r25 : (3 : Int) ≤ ρ 25 ∧ ρ 25 ≤ 3 := zRnA hr 25
  have r26 : (0 : Int) ≤ ρ 26 ∧ ρ 26 ≤ 2 := zRnA hr 26
  have f3 : (0 : Int) ≤ ρ 18 + -ρ 15 + (-1) := zAllA hf 3
  obtain ⟨w_0, w_1, w_2, w_3, w_4, w_5, w_6, w_7, w_8, w_9, w_10, w_11⟩ : (¬ (ρ 15 ≥ ρ 18)) ∧ (¬ (ρ 17 ≠ 0)) ∧ (ρ 3 ≤ 2) ∧ (¬ (ρ 3 ≠ 1)) ∧ (¬ (0 ≥ ρ 21)) ∧ (¬ (ρ 22 ≠ 3)) ∧ (¬ (1 ≥ ρ 21)) ∧ (ρ 23 ≠ 3) ∧ (¬ (2 ≥ ρ 21)) ∧ (¬ (ρ 25 ≠ 3)) ∧ (¬ (3 ≥ ρ 21)) ∧ (ρ 26 ≠ 3) := ⟨by omega, by omega, by omega, by omega, by omega, by omega, by omega, by omega, by omega, by omega, by omega, by omega⟩
  have m2 : γ 0 71 0 (ρ 0) = ρ 3 := zAllA hm 2
  have m6 : γ 0 69 0 (ρ 0) = ρ 7 := zAllA hm 6
  have m15 : γ 1 15 0 77 = ρ 17 := zAllA hm 15
  have m16 : γ 1 15 0 90 = ρ 18 := zAllA hm 16
  have m19 : γ 1 106 0 (ρ 15) = ρ 20 := zAllA hm 19
  have m20 : γ 0 66 0 (ρ 7) = ρ 21 := zAllA hm 20
  have m21 : γ 0 70 0 (4 * ρ 0) = ρ 22 := zAllA hm 21
  have m22 : γ 0 70 0 (4 * ρ 0 + 1) = ρ 23 := zAllA hm 22
  have m23 : γ 1 105 0 (4 * ρ 15 + 1) = ρ 24 := zAllA hm 23
  have m24 : γ 0 70 0 (4 * ρ 0 + 2) = ρ 25 := zAllA hm 24
  have m25 : γ 0 70 0 (4 * ρ 0 + 3) = ρ 26 := zAllA hm 25
  have m26 : γ 1 105 0 (4 * ρ 15 + 3) = ρ 27 := zAllA hm 26
  have c2 : γ 2 = rUp (γ 1) 102 0 0 (ρ 20) := And.right (zChA hc 4)
  have c3 : γ 3 = rUp (γ 2) 102 0 1 (ρ 24) := And.right (zChA hc 3)
  have c4 : γ 4 = rUp (γ 3) 102 0 2 (ρ 20) := And.right (zChA hc 2)
  have c5 : γ 5 = rUp (γ 4) 102 0 3 (ρ 27) := And.right (zChA hc 1)
  have l0 : sn57 [ρ 7, ρ 0, ρ 2, ρ 19, ρ 28, ρ 29, ρ 30, ρ 10, ρ 17] (γ 5) 0 0 (γ 6) := hS57 _ _ _ _ _ (zAllA hl 0)
  show jn75 [ρ 0, ρ 1, ρ 2, ρ 3, ρ 4, ρ 5, ρ 6, ρ 7, ρ 8, ρ 9, ρ 10, ρ 11, ρ 12, ρ 13, ρ 14] (γ 0) 0 [ρ 0, ρ 1, ρ 2, ρ 3, ρ 4, ρ 5, ρ 6, ρ 7, ρ 8, ρ 9, ρ 10, ρ 11, ρ 12, ρ 13, ρ 14, ρ 15 + 1, ρ 16, ρ 35, ρ 18, ρ 31] (γ 6)
  have hD : en75 (γ 0) (0, [ρ 0, ρ 15], γ 1) = .inl (0, [ρ 0, ρ 15 + 1], γ 6) := by
    unfold en75
    refine zIP (show (0 : Nat) = 0 by decide) (zLV (γ 1) rfl (zLV (ρ 0) rfl (zLV (ρ 15) rfl (zLE m2 (zLE m6 (zLE m15 (zLE m16 ?_)))))))
    refine zIN w_0 (zIN w_1 (zIP w_2 (zIN w_3 (zLE m19 (zLE m20 (zIN w_4 (zLE m21 ?_)))))))
    refine zIN w_5 (zLE c2.symm (zIN w_6 (zLE m22 (zIP w_7 (zLE m23 (zLE c3.symm (zIN w_8 ?_)))))))
    refine zLE m24 (zIN w_9 (zLE c4.symm (zIN w_10 (zLE m25 (zIP w_11 (zLE m26 (zLE c5.symm ?_)))))))
    refine zLE (show fn57 [ρ 7, ρ 0] (γ 5) = (0, 0, γ 6) from l0.symm) (zLV (γ 6) rfl ?_)
    rfl
  exact zGoo_ato hJ hD
theorem vn75a0_56 {S : Nat → zSpc} (hS57 : zIm S 57 sn57) (hS73 : zIm S 73 sn73) {a : List Int} {g : rHp} : ∀ (ρ : Nat → Int) (γ : Nat → rHp), jn75 a g 0 (zAg (zNA a75_ 0) ρ) (γ 1) → zO 15 S a g q75a0_56 ρ γ → zGl (fun i vs g1 => jn75 a g i vs g1) (sn75 a g) q75a0_56 ρ γ := by
  intro ρ γ hJ h
  obtain ⟨ha, hg, hr, hf, hm, hc, hl⟩ := h
  have ha : a = [ρ 0, ρ 1, ρ 2, ρ 3, ρ 4, ρ 5, ρ 6, ρ 7, ρ 8, ρ 9, ρ 10, ρ 11, ρ 12, ρ 13, ρ 14] := ha
  subst ha
  subst hg
  have hJ : jn75 [ρ 0, ρ 1, ρ 2, ρ 3, ρ 4, ρ 5, ρ 6, ρ 7, ρ 8, ρ 9, ρ 10, ρ 11, ρ 12, ρ 13, ρ 14] (γ 0) 0 [ρ 0, ρ 1, ρ 2, ρ 3, ρ 4, ρ 5, ρ 6, ρ 7, ρ 8, ρ 9, ρ 10, ρ 11, ρ 12, ρ 13, ρ 14, ρ 15, ρ 16, ρ 17, ρ 18, ρ 19] (γ 1) := hJ
  have r3 : (1 : Int) ≤ ρ 3 ∧ ρ 3 ≤ 1 := zRnA hr 3
  have r17 : (0 : Int) ≤ ρ 17 ∧ ρ 17 ≤ 0 := zRnA hr 17
  have r21 : (4 : Int) ≤ ρ 21 ∧ ρ 21 ≤ 4 := zRnA hr 21
  have r22 : (3 : Int) ≤ ρ 22 ∧ ρ 22 ≤ 3 := zRnA hr 22
  have r23 : (0 : Int) ≤ ρ 23 ∧ ρ 23 ≤ 2 := zRnA hr 23
  have r25 : (3 : Int) ≤ ρ 25 ∧ ρ 25 ≤ 3 := zRnA hr 25
  have r26 : (3 : Int) ≤ ρ 26 ∧ ρ 26 ≤ 3 := zRnA hr 26
  have f3 : (0 : Int) ≤ ρ 18 + -ρ 15 + (-1) := zAllA hf 3
  obtain ⟨w_0, w_1, w_2, w_3, w_4, w_5, w_6, w_7, w_8, w_9, w_10, w_11⟩ : (¬ (ρ 15 ≥ ρ 18)) ∧ (¬ (ρ 17 ≠ 0)) ∧ (ρ 3 ≤ 2) ∧ (¬ (ρ 3 ≠ 1)) ∧ (¬ (0 ≥ ρ 21)) ∧ (¬ (ρ 22 ≠ 3)) ∧ (¬ (1 ≥ ρ 21)) ∧ (ρ 23 ≠ 3) ∧ (¬ (2 ≥ ρ 21)) ∧ (¬ (ρ 25 ≠ 3)) ∧ (¬ (3 ≥ ρ 21)) ∧ (¬ (ρ 26 ≠ 3)) := ⟨by omega, by omega, by omega, by omega, by omega, by omega, by omega, by omega, by omega, by omega, by omega, by omega⟩
  have m2 : γ 0 71 0 (ρ 0) = ρ 3 := zAllA hm 2
  have m6 : γ 0 69 0 (ρ 0) = ρ 7 := zAllA hm 6
  have m15 : γ 1 15 0 77 = ρ 17 := zAllA hm 15
  have m16 : γ 1 15 0 90 = ρ 18 := zAllA hm 16
  have m19 : γ 1 106 0 (ρ 15) = ρ 20 := zAllA hm 19
  have m20 : γ 0 66 0 (ρ 7) = ρ 21 := zAllA hm 20
  have m21 : γ 0 70 0 (4 * ρ 0) = ρ 22 := zAllA hm 21
  have m22 : γ 0 70 0 (4 * ρ 0 + 1) = ρ 23 := zAllA hm 22
  have m23 : γ 1 105 0 (4 * ρ 15 + 1) = ρ 24 := zAllA hm 23
  have m24 : γ 0 70 0 (4 * ρ 0 + 2) = ρ 25 := zAllA hm 24
  have m25 : γ 0 70 0 (4 * ρ 0 + 3) = ρ 26 := zAllA hm 25
  have c2 : γ 2 = rUp (γ 1) 102 0 0 (ρ 20) := And.right (zChA hc 4)
  have c3 : γ 3 = rUp (γ 2) 102 0 1 (ρ 24) := And.right (zChA hc 3)
  have c4 : γ 4 = rUp (γ 3) 102 0 2 (ρ 20) := And.right (zChA hc 2)
  have c5 : γ 5 = rUp (γ 4) 102 0 3 (ρ 20) := And.right (zChA hc 1)
  have l0 : sn57 [ρ 7, ρ 0, ρ 2, ρ 19, ρ 27, ρ 28, ρ 29, ρ 10, ρ 17] (γ 5) 0 0 (γ 6) := hS57 _ _ _ _ _ (zAllA hl 0)
  show jn75 [ρ 0, ρ 1, ρ 2, ρ 3, ρ 4, ρ 5, ρ 6, ρ 7, ρ 8, ρ 9, ρ 10, ρ 11, ρ 12, ρ 13, ρ 14] (γ 0) 0 [ρ 0, ρ 1, ρ 2, ρ 3, ρ 4, ρ 5, ρ 6, ρ 7, ρ 8, ρ 9, ρ 10, ρ 11, ρ 12, ρ 13, ρ 14, ρ 15 + 1, ρ 16, ρ 34, ρ 18, ρ 30] (γ 6)
  have hD : en75 (γ 0) (0, [ρ 0, ρ 15], γ 1) = .inl (0, [ρ 0, ρ 15 + 1], γ 6) := by
    unfold en75
    refine zIP (show (0 : Nat) = 0 by decide) (zLV (γ 1) rfl (zLV (ρ 0) rfl (zLV (ρ 15) rfl (zLE m2 (zLE m6 (zLE m15 (zLE m16 ?_)))))))
    refine zIN w_0 (zIN w_1 (zIP w_2 (zIN w_3 (zLE m19 (zLE m20 (zIN w_4 (zLE m21 ?_)))))))
    refine zIN w_5 (zLE c2.symm (zIN w_6 (zLE m22 (zIP w_7 (zLE m23 (zLE c3.symm (zIN w_8 ?_)))))))
    refine zLE m24 (zIN w_9 (zLE c4.symm (zIN w_10 (zLE m25 (zIN w_11 (zLE c5.symm (zLE (show fn57 [ρ 7, ρ 0] (γ 5) = (0, 0, γ 6) from l0.symm) ?_)))))))
    refine zLV (γ 6) rfl ?_
    rfl
  exact zGoo_ato hJ hD
theorem vn75a0_57 {S : Nat → zSpc} (hS57 : zIm S 57 sn57) (hS73 : zIm S 73 sn73) {a : List Int} {g : rHp} : ∀ (ρ : Nat → Int) (γ : Nat → rHp), jn75 a g 0 (zAg (zNA a75_ 0) ρ) (γ 1) → zO 15 S a g q75a0_57 ρ γ → zGl (fun i vs g1 => jn75 a g i vs g1) (sn75 a g) q75a0_57 ρ γ := by
  intro ρ γ hJ h
  obtain ⟨ha, hg, hr, hf, hm, hc, hl⟩ := h
  have ha : a = [ρ 0, ρ 1, ρ 2, ρ 3, ρ 4, ρ 5, ρ 6, ρ 7, ρ 8, ρ 9, ρ 10, ρ 11, ρ 12, ρ 13, ρ 14] := ha
  subst ha
  subst hg
  have hJ : jn75 [ρ 0, ρ 1, ρ 2, ρ 3, ρ 4, ρ 5, ρ 6, ρ 7, ρ 8, ρ 9, ρ 10, ρ 11, ρ 12, ρ 13, ρ 14] (γ 0) 0 [ρ 0, ρ 1, ρ 2, ρ 3, ρ 4, ρ 5, ρ 6, ρ 7, ρ 8, ρ 9, ρ 10, ρ 11, ρ 12, ρ 13, ρ 14, ρ 15, ρ 16, ρ 17, ρ 18, ρ 19] (γ 1) := hJ
  have r3 : (1 : Int) ≤ ρ 3 ∧ ρ 3 ≤ 1 := zRnA hr 3
  have r17 : (0 : Int) ≤ ρ 17 ∧ ρ 17 ≤ 0 := zRnA hr 17
  have r21 : (2 : Int) ≤ ρ 21 ∧ ρ 21 ≤ 2 := zRnA hr 21
  have r22 : (3 : Int) ≤ ρ 22 ∧ ρ 22 ≤ 3 := zRnA hr 22
  have r23 : (3 : Int) ≤ ρ 23 ∧ ρ 23 ≤ 3 := zRnA hr 23
  have f3 : (0 : Int) ≤ ρ 18 + -ρ 15 + (-1) := zAllA hf 3
  obtain ⟨w_0, w_1, w_2, w_3, w_4, w_5, w_6, w_7, w_8⟩ : (¬ (ρ 15 ≥ ρ 18)) ∧ (¬ (ρ 17 ≠ 0)) ∧ (ρ 3 ≤ 2) ∧ (¬ (ρ 3 ≠ 1)) ∧ (¬ (0 ≥ ρ 21)) ∧ (¬ (ρ 22 ≠ 3)) ∧ (¬ (1 ≥ ρ 21)) ∧ (¬ (ρ 23 ≠ 3)) ∧ (2 ≥ ρ 21) := ⟨by omega, by omega, by omega, by omega, by omega, by omega, by omega, by omega, by omega⟩
  have m2 : γ 0 71 0 (ρ 0) = ρ 3 := zAllA hm 2
  have m6 : γ 0 69 0 (ρ 0) = ρ 7 := zAllA hm 6
  have m15 : γ 1 15 0 77 = ρ 17 := zAllA hm 15
  have m16 : γ 1 15 0 90 = ρ 18 := zAllA hm 16
  have m19 : γ 1 106 0 (ρ 15) = ρ 20 := zAllA hm 19
  have m20 : γ 0 66 0 (ρ 7) = ρ 21 := zAllA hm 20
  have m21 : γ 0 70 0 (4 * ρ 0) = ρ 22 := zAllA hm 21
  have m22 : γ 0 70 0 (4 * ρ 0 + 1) = ρ 23 := zAllA hm 22
  have m23 : γ 1 105 0 (4 * ρ 15 + 2) = ρ 24 := zAllA hm 23
  have m24 : γ 1 105 0 (4 * ρ 15 + 3) = ρ 25 := zAllA hm 24
  have c2 : γ 2 = rUp (γ 1) 102 0 0 (ρ 20) := And.right (zChA hc 4)
  have c3 : γ 3 = rUp (γ 2) 102 0 1 (ρ 20) := And.right (zChA hc 3)
  have c4 : γ 4 = rUp (γ 3) 102 0 2 (ρ 24) := And.right (zChA hc 2)
  have c5 : γ 5 = rUp (γ 4) 102 0 3 (ρ 25) := And.right (zChA hc 1)
  have l0 : sn57 [ρ 7, ρ 0, ρ 2, ρ 19, ρ 26, ρ 27, ρ 28, ρ 10, ρ 17] (γ 5) 0 0 (γ 6) := hS57 _ _ _ _ _ (zAllA hl 0)
  show jn75 [ρ 0, ρ 1, ρ 2, ρ 3, ρ 4, ρ 5, ρ 6, ρ 7, ρ 8, ρ 9, ρ 10, ρ 11, ρ 12, ρ 13, ρ 14] (γ 0) 0 [ρ 0, ρ 1, ρ 2, ρ 3, ρ 4, ρ 5, ρ 6, ρ 7, ρ 8, ρ 9, ρ 10, ρ 11, ρ 12, ρ 13, ρ 14, ρ 15 + 1, ρ 16, ρ 33, ρ 18, ρ 29] (γ 6)
  have hD : en75 (γ 0) (0, [ρ 0, ρ 15], γ 1) = .inl (0, [ρ 0, ρ 15 + 1], γ 6) := by
    unfold en75
    refine zIP (show (0 : Nat) = 0 by decide) (zLV (γ 1) rfl (zLV (ρ 0) rfl (zLV (ρ 15) rfl (zLE m2 (zLE m6 (zLE m15 (zLE m16 ?_)))))))
    refine zIN w_0 (zIN w_1 (zIP w_2 (zIN w_3 (zLE m19 (zLE m20 (zIN w_4 (zLE m21 ?_)))))))
    refine zIN w_5 (zLE c2.symm (zIN w_6 (zLE m22 (zIN w_7 (zLE c3.symm (zIP w_8 (zLE m23 ?_)))))))
    refine zLE c4.symm (zLE m24 (zLE c5.symm (zLE (show fn57 [ρ 7, ρ 0] (γ 5) = (0, 0, γ 6) from l0.symm) (zLV (γ 6) rfl ?_))))
    rfl
  exact zGoo_ato hJ hD
theorem vn75a0_58 {S : Nat → zSpc} (hS57 : zIm S 57 sn57) (hS73 : zIm S 73 sn73) {a : List Int} {g : rHp} : ∀ (ρ : Nat → Int) (γ : Nat → rHp), jn75 a g 0 (zAg (zNA a75_ 0) ρ) (γ 1) → zO 15 S a g q75a0_58 ρ γ → zGl (fun i vs g1 => jn75 a g i vs g1) (sn75 a g) q75a0_58 ρ γ := by
  intro ρ γ hJ h
  obtain ⟨ha, hg, hr, hf, hm, hc, hl⟩ := h
  have ha : a = [ρ 0, ρ 1, ρ 2, ρ 3, ρ 4, ρ 5, ρ 6, ρ 7, ρ 8, ρ 9, ρ 10, ρ 11, ρ 12, ρ 13, ρ 14] := ha
  subst ha
  subst hg
  have hJ : jn75 [ρ 0, ρ 1, ρ 2, ρ 3, ρ 4, ρ 5, ρ 6, ρ 7, ρ 8, ρ 9, ρ 10, ρ 11, ρ 12, ρ 13, ρ 14] (γ 0) 0 [ρ 0, ρ 1, ρ 2, ρ 3, ρ 4, ρ 5, ρ 6, ρ 7, ρ 8, ρ 9, ρ 10, ρ 11, ρ 12, ρ 13, ρ 14, ρ 15, ρ 16, ρ 17, ρ 18, ρ 19] (γ 1) := hJ
  have r3 : (1 : Int) ≤ ρ 3 ∧ ρ 3 ≤ 1 := zRnA hr 3
  have r17 : (0 : Int) ≤ ρ 17 ∧ ρ 17 ≤ 0 := zRnA hr 17
  have r21 : (3 : Int) ≤ ρ 21 ∧ ρ 21 ≤ 3 := zRnA hr 21
  have r22 : (3 : Int) ≤ ρ 22 ∧ ρ 22 ≤ 3 := zRnA hr 22
  have r23 : (3 : Int) ≤ ρ 23 ∧ ρ 23 ≤ 3 := zRnA hr 23
  have r24 : (0 : Int) ≤ ρ 24 ∧ ρ 24 ≤ 2 := zRnA hr 24
  have f3 : (0 : Int) ≤ ρ 18 + -ρ 15 + (-1) := zAllA hf 3
  obtain ⟨w_0, w_1, w_2, w_3, w_4, w_5, w_6, w_7, w_8, w_9, w_10⟩ : (¬ (ρ 15 ≥ ρ 18)) ∧ (¬ (ρ 17 ≠ 0)) ∧ (ρ 3 ≤ 2) ∧ (¬ (ρ 3 ≠ 1)) ∧ (¬ (0 ≥ ρ 21)) ∧ (¬ (ρ 22 ≠ 3)) ∧ (¬ (1 ≥ ρ 21)) ∧ (¬ (ρ 23 ≠ 3)) ∧ (¬ (2 ≥ ρ 21)) ∧ (ρ 24 ≠ 3) ∧ (3 ≥ ρ 21) := ⟨by omega, by omega, by omega, by omega, by omega, by omega, by omega, by omega, by omega, by omega, by omega⟩
  have m2 : γ 0 71 0 (ρ 0) = ρ 3 := zAllA hm 2
  have m6 : γ 0 69 0 (ρ 0) = ρ 7 := zAllA hm 6
  have m15 : γ 1 15 0 77 = ρ 17 := zAllA hm 15
  have m16 : γ 1 15 0 90 = ρ 18 := zAllA hm 16
  have m19 : γ 1 106 0 (ρ 15) = ρ 20 := zAllA hm 19
  have m20 : γ 0 66 0 (ρ 7) = ρ 21 := zAllA hm 20
  have m21 : γ 0 70 0 (4 * ρ 0) = ρ 22 := zAllA hm 21
  have m22 : γ 0 70 0 (4 * ρ 0 + 1) = ρ 23 := zAllA hm 22
  have m23 : γ 0 70 0 (4 * ρ 0 + 2) = ρ 24 := zAllA hm 23
  have m24 : γ 1 105 0 (4 * ρ 15 + 2) = ρ 25 := zAllA hm 24
  have m25 : γ 1 105 0 (4 * ρ 15 + 3) = ρ 26 := zAllA hm 25
  have c2 : γ 2 = rUp (γ 1) 102 0 0 (ρ 20) := And.right (zChA hc 4)
  have c3 : γ 3 = rUp (γ 2) 102 0 1 (ρ 20) := And.right (zChA hc 3)
  have c4 : γ 4 = rUp (γ 3) 102 0 2 (ρ 25) := And.right (zChA hc 2)
  have c5 : γ 5 = rUp (γ 4) 102 0 3 (ρ 26) := And.right (zChA hc 1)
  have l0 : sn57 [ρ 7, ρ 0, ρ 2, ρ 19, ρ 27, ρ 28, ρ 29, ρ 10, ρ 17] (γ 5) 0 0 (γ 6) := hS57 _ _ _ _ _ (zAllA hl 0)
  show jn75 [ρ 0, ρ 1, ρ 2, ρ 3, ρ 4, ρ 5, ρ 6, ρ 7, ρ 8, ρ 9, ρ 10, ρ 11, ρ 12, ρ 13, ρ 14] (γ 0) 0 [ρ 0, ρ 1, ρ 2, ρ 3, ρ 4, ρ 5, ρ 6, ρ 7, ρ 8, ρ 9, ρ 10, ρ 11, ρ 12, ρ 13, ρ 14, ρ 15 + 1, ρ 16, ρ 34, ρ 18, ρ 30] (γ 6)
  have hD : en75 (γ 0) (0, [ρ 0, ρ 15], γ 1) = .inl (0, [ρ 0, ρ 15 + 1], γ 6) := by
    unfold en75
    refine zIP (show (0 : Nat) = 0 by decide) (zLV (γ 1) rfl (zLV (ρ 0) rfl (zLV (ρ 15) rfl (zLE m2 (zLE m6 (zLE m15 (zLE m16 ?_)))))))
    refine zIN w_0 (zIN w_1 (zIP w_2 (zIN w_3 (zLE m19 (zLE m20 (zIN w_4 (zLE m21 ?_)))))))
    refine zIN w_5 (zLE c2.symm (zIN w_6 (zLE m22 (zIN w_7 (zLE c3.symm (zIN w_8 (zLE m23 ?_)))))))
    refine zIP w_9 (zLE m24 (zLE c4.symm (zIP w_10 (zLE m25 (zLE c5.symm (zLE (show fn57 [ρ 7, ρ 0] (γ 5) = (0, 0, γ 6) from l0.symm) (zLV (γ 6) rfl ?_)))))))
    rfl
  exact zGoo_ato hJ hD
theorem vn75a0_59 {S : Nat → zSpc} (hS57 : zIm S 57 sn57) (hS73 : zIm S 73 sn73) {a : List Int} {g : rHp} : ∀ (ρ : Nat → Int) (γ : Nat → rHp), jn75 a g 0 (zAg (zNA a75_ 0) ρ) (γ 1) → zO 15 S a g q75a0_59 ρ γ → zGl (fun i vs g1 => jn75 a g i vs g1) (sn75 a g) q75a0_59 ρ γ := by
  intro ρ γ hJ h
  obtain ⟨ha, hg, hr, hf, hm, hc, hl⟩ := h
  have ha : a = [ρ 0, ρ 1, ρ 2, ρ 3, ρ 4, ρ 5, ρ 6, ρ 7, ρ 8, ρ 9, ρ 10, ρ 11, ρ 12, ρ 13, ρ 14] := ha
  subst ha
  subst hg
  have hJ : jn75 [ρ 0, ρ 1, ρ 2, ρ 3, ρ 4, ρ 5, ρ 6, ρ 7, ρ 8, ρ 9, ρ 10, ρ 11, ρ 12, ρ 13, ρ 14] (γ 0) 0 [ρ 0, ρ 1, ρ 2, ρ 3, ρ 4, ρ 5, ρ 6, ρ 7, ρ 8, ρ 9, ρ 10, ρ 11, ρ 12, ρ 13, ρ 14, ρ 15, ρ 16, ρ 17, ρ 18, ρ 19] (γ 1) := hJ
  have r3 : (1 : Int) ≤ ρ 3 ∧ ρ 3 ≤ 1 := zRnA hr 3
  have r17 : (0 : Int) ≤ ρ 17 ∧ ρ 17 ≤ 0 := zRnA hr 17
  have r21 : (4 : Int) ≤ ρ 21 ∧ ρ 21 ≤ 4 := zRnA hr 21
  have r22 : (3 : Int) ≤ ρ 22 ∧ ρ 22 ≤ 3 := zRnA hr 22
  have r23 : (3 : Int) ≤ ρ 23 ∧ ρ 23 ≤ 3 := zRnA hr 23
  have r24 : (0 : Int) ≤ ρ 24 ∧ ρ 24 ≤ 2 := zRnA hr 24
  have r26 : (0 : Int) ≤ ρ 26 ∧ ρ 26 ≤ 2 := zRnA hr 26
  have f3 : (0 : Int) ≤ ρ 18 + -ρ 15 + (-1) := zAllA hf 3
  obtain ⟨w_0, w_1, w_2, w_3, w_4, w_5, w_6, w_7, w_8, w_9, w_10, w_11⟩ : (¬ (ρ 15 ≥ ρ 18)) ∧ (¬ (ρ 17 ≠ 0)) ∧ (ρ 3 ≤ 2) ∧ (¬ (ρ 3 ≠ 1)) ∧ (¬ (0 ≥ ρ 21)) ∧ (¬ (ρ 22 ≠ 3)) ∧ (¬ (1 ≥ ρ 21)) ∧ (¬ (ρ 23 ≠ 3)) ∧ (¬ (2 ≥ ρ 21)) ∧ (ρ 24 ≠ 3) ∧ (¬ (3 ≥ ρ 21)) ∧ (ρ 26 ≠ 3) := ⟨by omega, by omega, by omega, by omega, by omega, by omega, by omega, by omega, by omega, by omega, by omega, by omega⟩
  have m2 : γ 0 71 0 (ρ 0) = ρ 3 := zAllA hm 2
  have m6 : γ 0 69 0 (ρ 0) = ρ 7 := zAllA hm 6
  have m15 : γ 1 15 0 77 = ρ 17 := zAllA hm 15
  have m16 : γ 1 15 0 90 = ρ 18 := zAllA hm 16
  have m19 : γ 1 106 0 (ρ 15) = ρ 20 := zAllA hm 19
  have m20 : γ 0 66 0 (ρ 7) = ρ 21 := zAllA hm 20
  have m21 : γ 0 70 0 (4 * ρ 0) = ρ 22 := zAllA hm 21
  have m22 : γ 0 70 0 (4 * ρ 0 + 1) = ρ 23 := zAllA hm 22
  have m23 : γ 0 70 0 (4 * ρ 0 + 2) = ρ 24 := zAllA hm 23
  have m24 : γ 1 105 0 (4 * ρ 15 + 2) = ρ 25 := zAllA hm 24
  have m25 : γ 0 70 0 (4 * ρ 0 + 3) = ρ 26 := zAllA hm 25
  have m26 : γ 1 105 0 (4 * ρ 15 + 3) = ρ 27 := zAllA hm 26
  have c2 : γ 2 = rUp (γ 1) 102 0 0 (ρ 20) := And.right (zChA hc 4)
  have c3 : γ 3 = rUp (γ 2) 102 0 1 (ρ 20) := And.right (zChA hc 3)
  have c4 : γ 4 = rUp (γ 3) 102 0 2 (ρ 25) := And.right (zChA hc 2)
  have c5 : γ 5 = rUp (γ 4) 102 0 3 (ρ 27) := And.right (zChA hc 1)
  have l0 : sn57 [ρ 7, ρ 0, ρ 2, ρ 19, ρ 28, ρ 29, ρ 30, ρ 10, ρ 17] (γ 5) 0 0 (γ 6) := hS57 _ _ _ _ _ (zAllA hl 0)
  show jn75 [ρ 0, ρ 1, ρ 2, ρ 3, ρ 4, ρ 5, ρ 6, ρ 7, ρ 8, ρ 9, ρ 10, ρ 11, ρ 12, ρ 13, ρ 14] (γ 0) 0 [ρ 0, ρ 1, ρ 2, ρ 3, ρ 4, ρ 5, ρ 6, ρ 7, ρ 8, ρ 9, ρ 10, ρ 11, ρ 12, ρ 13, ρ 14, ρ 15 + 1, ρ 16, ρ 35, ρ 18, ρ 31] (γ 6)
  have hD : en75 (γ 0) (0, [ρ 0, ρ 15], γ 1) = .inl (0, [ρ 0, ρ 15 + 1], γ 6) := by
    unfold en75
    refine zIP (show (0 : Nat) = 0 by decide) (zLV (γ 1) rfl (zLV (ρ 0) rfl (zLV (ρ 15) rfl (zLE m2 (zLE m6 (zLE m15 (zLE m16 ?_)))))))
    refine zIN w_0 (zIN w_1 (zIP w_2 (zIN w_3 (zLE m19 (zLE m20 (zIN w_4 (zLE m21 ?_)))))))
    refine zIN w_5 (zLE c2.symm (zIN w_6 (zLE m22 (zIN w_7 (zLE c3.symm (zIN w_8 (zLE m23 ?_)))))))
    refine zIP w_9 (zLE m24 (zLE c4.symm (zIN w_10 (zLE m25 (zIP w_11 (zLE m26 (zLE c5.symm ?_)))))))
    refine zLE (show fn57 [ρ 7, ρ 0] (γ 5) = (0, 0, γ 6) from l0.symm) (zLV (γ 6) rfl ?_)
    rfl
  exact zGoo_ato hJ hD
theorem vn75a0_60 {S : Nat → zSpc} (hS57 : zIm S 57 sn57) (hS73 : zIm S 73 sn73) {a : List Int} {g : rHp} : ∀ (ρ : Nat → Int) (γ : Nat → rHp), jn75 a g 0 (zAg (zNA a75_ 0) ρ) (γ 1) → zO 15 S a g q75a0_60 ρ γ → zGl (fun i vs g1 => jn75 a g i vs g1) (sn75 a g) q75a0_60 ρ γ := by
  intro ρ γ hJ h
  obtain ⟨ha, hg, hr, hf, hm, hc, hl⟩ := h
  have ha : a = [ρ 0, ρ 1, ρ 2, ρ 3, ρ 4, ρ 5, ρ 6, ρ 7, ρ 8, ρ 9, ρ 10, ρ 11, ρ 12, ρ 13, ρ 14] := ha
  subst ha
  subst hg
  have hJ : jn75 [ρ 0, ρ 1, ρ 2, ρ 3, ρ 4, ρ 5, ρ 6, ρ 7, ρ 8, ρ 9, ρ 10, ρ 11, ρ 12, ρ 13, ρ 14] (γ 0) 0 [ρ 0, ρ 1, ρ 2, ρ 3, ρ 4, ρ 5, ρ 6, ρ 7, ρ 8, ρ 9, ρ 10, ρ 11, ρ 12, ρ 13, ρ 14, ρ 15, ρ 16, ρ 17, ρ 18, ρ 19] (γ 1) := hJ
  have r3 : (1 : Int) ≤ ρ 3 ∧ ρ 3 ≤ 1 := zRnA hr 3
  have r17 : (0 : Int) ≤ ρ 17 ∧ ρ 17 ≤ 0 := zRnA hr 17
  have r21 : (4 : Int) ≤ ρ 21 ∧ ρ 21 ≤ 4 := zRnA hr 21
  have r22 : (3 : Int) ≤ ρ 22 ∧ ρ 22 ≤ 3 := zRnA hr 22
  have r23 : (3 : Int) ≤ ρ 23 ∧ ρ 23 ≤ 3 := zRnA hr 23
  have r24 : (0 : Int) ≤ ρ 24 ∧ ρ 24 ≤ 2 := zRnA hr 24
  have r26 : (3 : Int) ≤ ρ 26 ∧ ρ 26 ≤ 3 := zRnA hr 26
  have f3 : (0 : Int) ≤ ρ 18 + -ρ 15 + (-1) := zAllA hf 3
  obtain ⟨w_0, w_1, w_2, w_3, w_4, w_5, w_6, w_7, w_8, w_9, w_10, w_11⟩ : (¬ (ρ 15 ≥ ρ 18)) ∧ (¬ (ρ 17 ≠ 0)) ∧ (ρ 3 ≤ 2) ∧ (¬ (ρ 3 ≠ 1)) ∧ (¬ (0 ≥ ρ 21)) ∧ (¬ (ρ 22 ≠ 3)) ∧ (¬ (1 ≥ ρ 21)) ∧ (¬ (ρ 23 ≠ 3)) ∧ (¬ (2 ≥ ρ 21)) ∧ (ρ 24 ≠ 3) ∧ (¬ (3 ≥ ρ 21)) ∧ (¬ (ρ 26 ≠ 3)) := ⟨by omega, by omega, by omega, by omega, by omega, by omega, by omega, by omega, by omega, by omega, by omega, by omega⟩
  have m2 : γ 0 71 0 (ρ 0) = ρ 3 := zAllA hm 2
  have m6 : γ 0 69 0 (ρ 0) = ρ 7 := zAllA hm 6
  have m15 : γ 1 15 0 77 = ρ 17 := zAllA hm 15
  have m16 : γ 1 15 0 90 = ρ 18 := zAllA hm 16
  have m19 : γ 1 106 0 (ρ 15) = ρ 20 := zAllA hm 19
  have m20 : γ 0 66 0 (ρ 7) = ρ 21 := zAllA hm 20
  have m21 : γ 0 70 0 (4 * ρ 0) = ρ 22 := zAllA hm 21
  have m22 : γ 0 70 0 (4 * ρ 0 + 1) = ρ 23 := zAllA hm 22
  have m23 : γ 0 70 0 (4 * ρ 0 + 2) = ρ 24 := zAllA hm 23
  have m24 : γ 1 105 0 (4 * ρ 15 + 2) = ρ 25 := zAllA hm 24
  have m25 : γ 0 70 0 (4 * ρ 0 + 3) = ρ 26 := zAllA hm 25
  have c2 : γ 2 = rUp (γ 1) 102 0 0 (ρ 20) := And.right (zChA hc 4)
  have c3 : γ 3 = rUp (γ 2) 102 0 1 (ρ 20) := And.right (zChA hc 3)
  have c4 : γ 4 = rUp (γ 3) 102 0 2 (ρ 25) := And.right (zChA hc 2)
  have c5 : γ 5 = rUp (γ 4) 102 0 3 (ρ 20) := And.right (zChA hc 1)
  have l0 : sn57 [ρ 7, ρ 0, ρ 2, ρ 19, ρ 27, ρ 28, ρ 29, ρ 10, ρ 17] (γ 5) 0 0 (γ 6) := hS57 _ _ _ _ _ (zAllA hl 0)
  show jn75 [ρ 0, ρ 1, ρ 2, ρ 3, ρ 4, ρ 5, ρ 6, ρ 7, ρ 8, ρ 9, ρ 10, ρ 11, ρ 12, ρ 13, ρ 14] (γ 0) 0 [ρ 0, ρ 1, ρ 2, ρ 3, ρ 4, ρ 5, ρ 6, ρ 7, ρ 8, ρ 9, ρ 10, ρ 11, ρ 12, ρ 13, ρ 14, ρ 15 + 1, ρ 16, ρ 34, ρ 18, ρ 30] (γ 6)
  have hD : en75 (γ 0) (0, [ρ 0, ρ 15], γ 1) = .inl (0, [ρ 0, ρ 15 + 1], γ 6) := by
    unfold en75
    refine zIP (show (0 : Nat) = 0 by decide) (zLV (γ 1) rfl (zLV (ρ 0) rfl (zLV (ρ 15) rfl (zLE m2 (zLE m6 (zLE m15 (zLE m16 ?_)))))))
    refine zIN w_0 (zIN w_1 (zIP w_2 (zIN w_3 (zLE m19 (zLE m20 (zIN w_4 (zLE m21 ?_)))))))
    refine zIN w_5 (zLE c2.symm (zIN w_6 (zLE m22 (zIN w_7 (zLE c3.symm (zIN w_8 (zLE m23 ?_)))))))
    refine zIP w_9 (zLE m24 (zLE c4.symm (zIN w_10 (zLE m25 (zIN w_11 (zLE c5.symm (zLE (show fn57 [ρ 7, ρ 0] (γ 5) = (0, 0, γ 6) from l0.symm) ?_)))))))
    refine zLV (γ 6) rfl ?_
    rfl
  exact zGoo_ato hJ hD
theorem vn75a0_61 {S : Nat → zSpc} (hS57 : zIm S 57 sn57) (hS73 : zIm S 73 sn73) {a : List Int} {g : rHp} : ∀ (ρ : Nat → Int) (γ : Nat → rHp), jn75 a g 0 (zAg (zNA a75_ 0) ρ) (γ 1) → zO 15 S a g q75a0_61 ρ γ → zGl (fun i vs g1 => jn75 a g i vs g1) (sn75 a g) q75a0_61 ρ γ := by
  intro ρ γ hJ h
  obtain ⟨ha, hg, hr, hf, hm, hc, hl⟩ := h
  have ha : a = [ρ 0, ρ 1, ρ 2, ρ 3, ρ 4, ρ 5, ρ 6, ρ 7, ρ 8, ρ 9, ρ 10, ρ 11, ρ 12, ρ 13, ρ 14] := ha
  subst ha
  subst hg
  have hJ : jn75 [ρ 0, ρ 1, ρ 2, ρ 3, ρ 4, ρ 5, ρ 6, ρ 7, ρ 8, ρ 9, ρ 10, ρ 11, ρ 12, ρ 13, ρ 14] (γ 0) 0 [ρ 0, ρ 1, ρ 2, ρ 3, ρ 4, ρ 5, ρ 6, ρ 7, ρ 8, ρ 9, ρ 10, ρ 11, ρ 12, ρ 13, ρ 14, ρ 15, ρ 16, ρ 17, ρ 18, ρ 19] (γ 1) := hJ
  have r3 : (1 : Int) ≤ ρ 3 ∧ ρ 3 ≤ 1 := zRnA hr 3
  have r17 : (0 : Int) ≤ ρ 17 ∧ ρ 17 ≤ 0 := zRnA hr 17
  have r21 : (3 : Int) ≤ ρ 21 ∧ ρ 21 ≤ 3 := zRnA hr 21
  have r22 : (3 : Int) ≤ ρ 22 ∧ ρ 22 ≤ 3 := zRnA hr 22
  have r23 : (3 : Int) ≤ ρ 23 ∧ ρ 23 ≤ 3 := zRnA hr 23
  have r24 : (3 : Int) ≤ ρ 24 ∧ ρ 24 ≤ 3 := zRnA hr 24
  have f3 : (0 : Int) ≤ ρ 18 + -ρ 15 + (-1) := zAllA hf 3
  obtain ⟨w_0, w_1, w_2, w_3, w_4, w_5, w_6, w_7, w_8, w_9, w_10⟩ : (¬ (ρ 15 ≥ ρ 18)) ∧ (¬ (ρ 17 ≠ 0)) ∧ (ρ 3 ≤ 2) ∧ (¬ (ρ 3 ≠ 1)) ∧ (¬ (0 ≥ ρ 21)) ∧ (¬ (ρ 22 ≠ 3)) ∧ (¬ (1 ≥ ρ 21)) ∧ (¬ (ρ 23 ≠ 3)) ∧ (¬ (2 ≥ ρ 21)) ∧ (¬ (ρ 24 ≠ 3)) ∧ (3 ≥ ρ 21) := ⟨by omega, by omega, by omega, by omega, by omega, by omega, by omega, by omega, by omega, by omega, by omega⟩
  have m2 : γ 0 71 0 (ρ 0) = ρ 3 := zAllA hm 2
  have m6 : γ 0 69 0 (ρ 0) = ρ 7 := zAllA hm 6
  have m15 : γ 1 15 0 77 = ρ 17 := zAllA hm 15
  have m16 : γ 1 15 0 90 = ρ 18 := zAllA hm 16
  have m19 : γ 1 106 0 (ρ 15) = ρ 20 := zAllA hm 19
  have m20 : γ 0 66 0 (ρ 7) = ρ 21 := zAllA hm 20
  have m21 : γ 0 70 0 (4 * ρ 0) = ρ 22 := zAllA hm 21
  have m22 : γ 0 70 0 (4 * ρ 0 + 1) = ρ 23 := zAllA hm 22
  have m23 : γ 0 70 0 (4 * ρ 0 + 2) = ρ 24 := zAllA hm 23
  have m24 : γ 1 105 0 (4 * ρ 15 + 3) = ρ 25 := zAllA hm 24
  have c2 : γ 2 = rUp (γ 1) 102 0 0 (ρ 20) := And.right (zChA hc 4)
  have c3 : γ 3 = rUp (γ 2) 102 0 1 (ρ 20) := And.right (zChA hc 3)
  have c4 : γ 4 = rUp (γ 3) 102 0 2 (ρ 20) := And.right (zChA hc 2)
  have c5 : γ 5 = rUp (γ 4) 102 0 3 (ρ 25) := And.right (zChA hc 1)
  have l0 : sn57 [ρ 7, ρ 0, ρ 2, ρ 19, ρ 26, ρ 27, ρ 28, ρ 10, ρ 17] (γ 5) 0 0 (γ 6) := hS57 _ _ _ _ _ (zAllA hl 0)
  show jn75 [ρ 0, ρ 1, ρ 2, ρ 3, ρ 4, ρ 5, ρ 6, ρ 7, ρ 8, ρ 9, ρ 10, ρ 11, ρ 12, ρ 13, ρ 14] (γ 0) 0 [ρ 0, ρ 1, ρ 2, ρ 3, ρ 4, ρ 5, ρ 6, ρ 7, ρ 8, ρ 9, ρ 10, ρ 11, ρ 12, ρ 13, ρ 14, ρ 15 + 1, ρ 16, ρ 33, ρ 18, ρ 29] (γ 6)
  have hD : en75 (γ 0) (0, [ρ 0, ρ 15], γ 1) = .inl (0, [ρ 0, ρ 15 + 1], γ 6) := by
    unfold en75
    refine zIP (show (0 : Nat) = 0 by decide) (zLV (γ 1) rfl (zLV (ρ 0) rfl (zLV (ρ 15) rfl (zLE m2 (zLE m6 (zLE m15 (zLE m16 ?_)))))))
    refine zIN w_0 (zIN w_1 (zIP w_2 (zIN w_3 (zLE m19 (zLE m20 (zIN w_4 (zLE m21 ?_)))))))
    refine zIN w_5 (zLE c2.symm (zIN w_6 (zLE m22 (zIN w_7 (zLE c3.symm (zIN w_8 (zLE m23 ?_)))))))
    refine zIN w_9 (zLE c4.symm (zIP w_10 (zLE m24 (zLE c5.symm (zLE (show fn57 [ρ 7, ρ 0] (γ 5) = (0, 0, γ 6) from l0.symm) (zLV (γ 6) rfl ?_))))))
    rfl
  exact zGoo_ato hJ hD
theorem vn75a0_62 {S : Nat → zSpc} (hS57 : zIm S 57 sn57) (hS73 : zIm S 73 sn73) {a : List Int} {g : rHp} : ∀ (ρ : Nat → Int) (γ : Nat → rHp), jn75 a g 0 (zAg (zNA a75_ 0) ρ) (γ 1) → zO 15 S a g q75a0_62 ρ γ → zGl (fun i vs g1 => jn75 a g i vs g1) (sn75 a g) q75a0_62 ρ γ := by
  intro ρ γ hJ h
  obtain ⟨ha, hg, hr, hf, hm, hc, hl⟩ := h
  have ha : a = [ρ 0, ρ 1, ρ 2, ρ 3, ρ 4, ρ 5, ρ 6, ρ 7, ρ 8, ρ 9, ρ 10, ρ 11, ρ 12, ρ 13, ρ 14] := ha
  subst ha
  subst hg
  have hJ : jn75 [ρ 0, ρ 1, ρ 2, ρ 3, ρ 4, ρ 5, ρ 6, ρ 7, ρ 8, ρ 9, ρ 10, ρ 11, ρ 12, ρ 13, ρ 14] (γ 0) 0 [ρ 0, ρ 1, ρ 2, ρ 3, ρ 4, ρ 5, ρ 6, ρ 7, ρ 8, ρ 9, ρ 10, ρ 11, ρ 12, ρ 13, ρ 14, ρ 15, ρ 16, ρ 17, ρ 18, ρ 19] (γ 1) := hJ
  have r3 : (1 : Int) ≤ ρ 3 ∧ ρ 3 ≤ 1 := zRnA hr 3
  have r17 : (0 : Int) ≤ ρ 17 ∧ ρ 17 ≤ 0 := zRnA hr 17
  have r21 : (4 : Int) ≤ ρ 21 ∧ ρ 21 ≤ 4 := zRnA hr 21
  have r22 : (3 : Int) ≤ ρ 22 ∧ ρ 22 ≤ 3 := zRnA hr 22
  have r23 : (3 : Int) ≤ ρ 23 ∧ ρ 23 ≤ 3 := zRnA hr 23
  have r24 : (3 : Int) ≤ ρ 24 ∧ ρ 24 ≤ 3 := zRnA hr 24
  have r25 : (0 : Int) ≤ ρ 25 ∧ ρ 25 ≤ 2 := zRnA hr 25
  have f3 : (0 : Int) ≤ ρ 18 + -ρ 15 + (-1) := zAllA hf 3
  obtain ⟨w_0, w_1, w_2, w_3, w_4, w_5, w_6, w_7, w_8, w_9, w_10, w_11⟩ : (¬ (ρ 15 ≥ ρ 18)) ∧ (¬ (ρ 17 ≠ 0)) ∧ (ρ 3 ≤ 2) ∧ (¬ (ρ 3 ≠ 1)) ∧ (¬ (0 ≥ ρ 21)) ∧ (¬ (ρ 22 ≠ 3)) ∧ (¬ (1 ≥ ρ 21)) ∧ (¬ (ρ 23 ≠ 3)) ∧ (¬ (2 ≥ ρ 21)) ∧ (¬ (ρ 24 ≠ 3)) ∧ (¬ (3 ≥ ρ 21)) ∧ (ρ 25 ≠ 3) := ⟨by omega, by omega, by omega, by omega, by omega, by omega, by omega, by omega, by omega, by omega, by omega, by omega⟩
  have m2 : γ 0 71 0 (ρ 0) = ρ 3 := zAllA hm 2
  have m6 : γ 0 69 0 (ρ 0) = ρ 7 := zAllA hm 6
  have m15 : γ 1 15 0 77 = ρ 17 := zAllA hm 15
  have m16 : γ 1 15 0 90 = ρ 18 := zAllA hm 16
  have m19 : γ 1 106 0 (ρ 15) = ρ 20 := zAllA hm 19
  have m20 : γ 0 66 0 (ρ 7) = ρ 21 := zAllA hm 20
  have m21 : γ 0 70 0 (4 * ρ 0) = ρ 22 := zAllA hm 21
  have m22 : γ 0 70 0 (4 * ρ 0 + 1) = ρ 23 := zAllA hm 22
  have m23 : γ 0 70 0 (4 * ρ 0 + 2) = ρ 24 := zAllA hm 23
  have m24 : γ 0 70 0 (4 * ρ 0 + 3) = ρ 25 := zAllA hm 24
  have m25 : γ 1 105 0 (4 * ρ 15 + 3) = ρ 26 := zAllA hm 25
  have c2 : γ 2 = rUp (γ 1) 102 0 0 (ρ 20) := And.right (zChA hc 4)
  have c3 : γ 3 = rUp (γ 2) 102 0 1 (ρ 20) := And.right (zChA hc 3)
  have c4 : γ 4 = rUp (γ 3) 102 0 2 (ρ 20) := And.right (zChA hc 2)
  have c5 : γ 5 = rUp (γ 4) 102 0 3 (ρ 26) := And.right (zChA hc 1)
  have l0 : sn57 [ρ 7, ρ 0, ρ 2, ρ 19, ρ 27, ρ 28, ρ 29, ρ 10, ρ 17] (γ 5) 0 0 (γ 6) := hS57 _ _ _ _ _ (zAllA hl 0)
  show jn75 [ρ 0, ρ 1, ρ 2, ρ 3, ρ 4, ρ 5, ρ 6, ρ 7, ρ 8, ρ 9, ρ 10, ρ 11, ρ 12, ρ 13, ρ 14] (γ 0) 0 [ρ 0, ρ 1, ρ 2, ρ 3, ρ 4, ρ 5, ρ 6, ρ 7, ρ 8, ρ 9, ρ 10, ρ 11, ρ 12, ρ 13, ρ 14, ρ 15 + 1, ρ 16, ρ 34, ρ 18, ρ 30] (γ 6)
  have hD : en75 (γ 0) (0, [ρ 0, ρ 15], γ 1) = .inl (0, [ρ 0, ρ 15 + 1], γ 6) := by
    unfold en75
    refine zIP (show (0 : Nat) = 0 by decide) (zLV (γ 1) rfl (zLV (ρ 0) rfl (zLV (ρ 15) rfl (zLE m2 (zLE m6 (zLE m15 (zLE m16 ?_)))))))
    refine zIN w_0 (zIN w_1 (zIP w_2 (zIN w_3 (zLE m19 (zLE m20 (zIN w_4 (zLE m21 ?_)))))))
    refine zIN w_5 (zLE c2.symm (zIN w_6 (zLE m22 (zIN w_7 (zLE c3.symm (zIN w_8 (zLE m23 ?_)))))))
    refine zIN w_9 (zLE c4.symm (zIN w_10 (zLE m24 (zIP w_11 (zLE m25 (zLE c5.symm (zLE (show fn57 [ρ 7, ρ 0] (γ 5) = (0, 0, γ 6) from l0.symm) ?_)))))))
    refine zLV (γ 6) rfl ?_
    rfl
  exact zGoo_ato hJ hD
theorem vn75a0_63 {S : Nat → zSpc} (hS57 : zIm S 57 sn57) (hS73 : zIm S 73 sn73) {a : List Int} {g : rHp} : ∀ (ρ : Nat → Int) (γ : Nat → rHp), jn75 a g 0 (zAg (zNA a75_ 0) ρ) (γ 1) → zO 15 S a g q75a0_63 ρ γ → zGl (fun i vs g1 => jn75 a g i vs g1) (sn75 a g) q75a0_63 ρ γ := by
  intro ρ γ hJ h
  obtain ⟨ha, hg, hr, hf, hm, hc, hl⟩ := h
  have ha : a = [ρ 0, ρ 1, ρ 2, ρ 3, ρ 4, ρ 5, ρ 6, ρ 7, ρ 8, ρ 9, ρ 10, ρ 11, ρ 12, ρ 13, ρ 14] := ha
  subst ha
  subst hg
  have hJ : jn75 [ρ 0, ρ 1, ρ 2, ρ 3, ρ 4, ρ 5, ρ 6, ρ 7, ρ 8, ρ 9, ρ 10, ρ 11, ρ 12, ρ 13, ρ 14] (γ 0) 0 [ρ 0, ρ 1, ρ 2, ρ 3, ρ 4, ρ 5, ρ 6, ρ 7, ρ 8, ρ 9, ρ 10, ρ 11, ρ 12, ρ 13, ρ 14, ρ 15, ρ 16, ρ 17, ρ 18, ρ 19] (γ 1) := hJ
  have r3 : (1 : Int) ≤ ρ 3 ∧ ρ 3 ≤ 1 := zRnA hr 3
  have r17 : (0 : Int) ≤ ρ 17 ∧ ρ 17 ≤ 0 := zRnA hr 17
  have r21 : (4 : Int) ≤ ρ 21 ∧ ρ 21 ≤ 4 := zRnA hr 21
  have r22 : (3 : Int) ≤ ρ 22 ∧ ρ 22 ≤ 3 := zRnA hr 22
  have r23 : (3 : Int) ≤ ρ 23 ∧ ρ 23 ≤ 3 := zRnA hr 23
  have r24 : (3 : Int) ≤ ρ 24 ∧ ρ 24 ≤ 3 := zRnA hr 24
  have r25 : (3 : Int) ≤ ρ 25 ∧ ρ 25 ≤ 3 := zRnA hr 25
  have f3 : (0 : Int) ≤ ρ 18 + -ρ 15 + (-1) := zAllA hf 3
  obtain ⟨w_0, w_1, w_2, w_3, w_4, w_5, w_6, w_7, w_8, w_9, w_10, w_11⟩ : (¬ (ρ 15 ≥ ρ 18)) ∧ (¬ (ρ 17 ≠ 0)) ∧ (ρ 3 ≤ 2) ∧ (¬ (ρ 3 ≠ 1)) ∧ (¬ (0 ≥ ρ 21)) ∧ (¬ (ρ 22 ≠ 3)) ∧ (¬ (1 ≥ ρ 21)) ∧ (¬ (ρ 23 ≠ 3)) ∧ (¬ (2 ≥ ρ 21)) ∧ (¬ (ρ 24 ≠ 3)) ∧ (¬ (3 ≥ ρ 21)) ∧ (¬ (ρ 25 ≠ 3)) := ⟨by omega, by omega, by omega, by omega, by omega, by omega, by omega, by omega, by omega, by omega, by omega, by omega⟩
  have m2 : γ 0 71 0 (ρ 0) = ρ 3 := zAllA hm 2
  have m6 : γ 0 69 0 (ρ 0) = ρ 7 := zAllA hm 6
  have m15 : γ 1 15 0 77 = ρ 17 := zAllA hm 15
  have m16 : γ 1 15 0 90 = ρ 18 := zAllA hm 16
  have m19 : γ 1 106 0 (ρ 15) = ρ 20 := zAllA hm 19
  have m20 : γ 0 66 0 (ρ 7) = ρ 21 := zAllA hm 20
  have m21 : γ 0 70 0 (4 * ρ 0) = ρ 22 := zAllA hm 21
  have m22 : γ 0 70 0 (4 * ρ 0 + 1) = ρ 23 := zAllA hm 22
  have m23 : γ 0 70 0 (4 * ρ 0 + 2) = ρ 24 := zAllA hm 23
  have m24 : γ 0 70 0 (4 * ρ 0 + 3) = ρ 25 := zAllA hm 24
  have c2 : γ 2 = rUp (γ 1) 102 0 0 (ρ 20) := And.right (zChA hc 4)
  have c3 : γ 3 = rUp (γ 2) 102 0 1 (ρ 20) := And.right (zChA hc 3)
  have c4 : γ 4 = rUp (γ 3) 102 0 2 (ρ 20) := And.right (zChA hc 2)
  have c5 : γ 5 = rUp (γ 4) 102 0 3 (ρ 20) := And.right (zChA hc 1)
  have l0 : sn57 [ρ 7, ρ 0, ρ 2, ρ 19, ρ 26, ρ 27, ρ 28, ρ 10, ρ 17] (γ 5) 0 0 (γ 6) := hS57 _ _ _ _ _ (zAllA hl 0)
  show jn75 [ρ 0, ρ 1, ρ 2, ρ 3, ρ 4, ρ 5, ρ 6, ρ 7, ρ 8, ρ 9, ρ 10, ρ 11, ρ 12, ρ 13, ρ 14] (γ 0) 0 [ρ 0, ρ 1, ρ 2, ρ 3, ρ 4, ρ 5, ρ 6, ρ 7, ρ 8, ρ 9, ρ 10, ρ 11, ρ 12, ρ 13, ρ 14, ρ 15 + 1, ρ 16, ρ 33, ρ 18, ρ 29] (γ 6)
  have hD : en75 (γ 0) (0, [ρ 0, ρ 15], γ 1) = .inl (0, [ρ 0, ρ 15 + 1], γ 6) := by
    unfold en75
    refine zIP (show (0 : Nat) = 0 by decide) (zLV (γ 1) rfl (zLV (ρ 0) rfl (zLV (ρ 15) rfl (zLE m2 (zLE m6 (zLE m15 (zLE m16 ?_)))))))
    refine zIN w_0 (zIN w_1 (zIP w_2 (zIN w_3 (zLE m19 (zLE m20 (zIN w_4 (zLE m21 ?_)))))))
    refine zIN w_5 (zLE c2.symm (zIN w_6 (zLE m22 (zIN w_7 (zLE c3.symm (zIN w_8 (zLE m23 ?_)))))))
    refine zIN w_9 (zLE c4.symm (zIN w_10 (zLE m24 (zIN w_11 (zLE c5.symm (zLE (show fn57 [ρ 7, ρ 0] (γ 5) = (0, 0, γ 6) from l0.symm) (zLV (γ 6) rfl ?_)))))))
    rfl
  exact zGoo_ato hJ hD
theorem vn75a0_64 {S : Nat → zSpc} (hS57 : zIm S 57 sn57) (hS73 : zIm S 73 sn73) {a : List Int} {g : rHp} : ∀ (ρ : Nat → Int) (γ : Nat → rHp), jn75 a g 0 (zAg (zNA a75_ 0) ρ) (γ 1) → zO 15 S a g q75a0_64 ρ γ → zGl (fun i vs g1 => jn75 a g i vs g1) (sn75 a g) q75a0_64 ρ γ := by
  intro ρ γ hJ h
  obtain ⟨ha, hg, hr, hf, hm, hc, hl⟩ := h
  have ha : a = [ρ 0, ρ 1, ρ 2, ρ 3, ρ 4, ρ 5, ρ 6, ρ 7, ρ 8, ρ 9, ρ 10, ρ 11, ρ 12, ρ 13, ρ 14] := ha
  subst ha
  subst hg
  have hJ : jn75 [ρ 0, ρ 1, ρ 2, ρ 3, ρ 4, ρ 5, ρ 6, ρ 7, ρ 8, ρ 9, ρ 10, ρ 11, ρ 12, ρ 13, ρ 14] (γ 0) 0 [ρ 0, ρ 1, ρ 2, ρ 3, ρ 4, ρ 5, ρ 6, ρ 7, ρ 8, ρ 9, ρ 10, ρ 11, ρ 12, ρ 13, ρ 14, ρ 15, ρ 16, ρ 17, ρ 18, ρ 19] (γ 1) := hJ
  have r3 : (3 : Int) ≤ ρ 3 ∧ ρ 3 ≤ 4 := zRnA hr 3
  have r17 : (0 : Int) ≤ ρ 17 ∧ ρ 17 ≤ 0 := zRnA hr 17
  have r20 : (1 : Int) ≤ ρ 20 ∧ ρ 20 ≤ 1 := zRnA hr 20
  have r22 : (0 : Int) ≤ ρ 22 ∧ ρ 22 ≤ 0 := zRnA hr 22
  have f3 : (0 : Int) ≤ ρ 18 + -ρ 15 + (-1) := zAllA hf 3
  obtain ⟨w_0, w_1, w_2, w_3, w_4⟩ : (¬ (ρ 15 ≥ ρ 18)) ∧ (¬ (ρ 17 ≠ 0)) ∧ (¬ (ρ 3 ≤ 2)) ∧ (ρ 20 ≠ 0) ∧ (0 ≥ ρ 22) := ⟨by omega, by omega, by omega, by omega, by omega⟩
  have m2 : γ 0 71 0 (ρ 0) = ρ 3 := zAllA hm 2
  have m6 : γ 0 69 0 (ρ 0) = ρ 7 := zAllA hm 6
  have m15 : γ 1 15 0 77 = ρ 17 := zAllA hm 15
  have m16 : γ 1 15 0 90 = ρ 18 := zAllA hm 16
  have m19 : γ 1 109 0 (ρ 15) = ρ 20 := zAllA hm 19
  have m20 : γ 1 108 0 (ρ 15) = ρ 21 := zAllA hm 20
  have m21 : γ 0 66 0 (ρ 7) = ρ 22 := zAllA hm 21
  have m22 : γ 1 105 0 (4 * ρ 15) = ρ 23 := zAllA hm 22
  have m23 : γ 1 105 0 (4 * ρ 15 + 1) = ρ 24 := zAllA hm 23
  have m24 : γ 1 105 0 (4 * ρ 15 + 2) = ρ 25 := zAllA hm 24
  have m25 : γ 1 105 0 (4 * ρ 15 + 3) = ρ 26 := zAllA hm 25
  have c2 : γ 2 = rUp (γ 1) 102 0 0 (ρ 23) := And.right (zChA hc 4)
  have c3 : γ 3 = rUp (γ 2) 102 0 1 (ρ 24) := And.right (zChA hc 3)
  have c4 : γ 4 = rUp (γ 3) 102 0 2 (ρ 25) := And.right (zChA hc 2)
  have c5 : γ 5 = rUp (γ 4) 102 0 3 (ρ 26) := And.right (zChA hc 1)
  have l0 : sn57 [ρ 7, ρ 0, ρ 2, ρ 19, ρ 27, ρ 28, ρ 29, ρ 10, ρ 17] (γ 5) 0 0 (γ 6) := hS57 _ _ _ _ _ (zAllA hl 0)
  show jn75 [ρ 0, ρ 1, ρ 2, ρ 3, ρ 4, ρ 5, ρ 6, ρ 7, ρ 8, ρ 9, ρ 10, ρ 11, ρ 12, ρ 13, ρ 14] (γ 0) 0 [ρ 0, ρ 1, ρ 2, ρ 3, ρ 4, ρ 5, ρ 6, ρ 7, ρ 8, ρ 9, ρ 10, ρ 11, ρ 12, ρ 13, ρ 14, ρ 15 + 1, ρ 16, ρ 34, ρ 18, ρ 30] (γ 6)
  have hD : en75 (γ 0) (0, [ρ 0, ρ 15], γ 1) = .inl (0, [ρ 0, ρ 15 + 1], γ 6) := by
    unfold en75
    refine zIP (show (0 : Nat) = 0 by decide) (zLV (γ 1) rfl (zLV (ρ 0) rfl (zLV (ρ 15) rfl (zLE m2 (zLE m6 (zLE m15 (zLE m16 ?_)))))))
    refine zIN w_0 (zIN w_1 (zIN w_2 (zLE m19 (zIP w_3 (zLE m20 (zLE m21 (zIP w_4 ?_)))))))
    refine zLE m22 (zLE c2.symm (zLE m23 (zLE c3.symm (zLE m24 (zLE c4.symm (zLE m25 (zLE c5.symm ?_)))))))
    refine zLE (show fn57 [ρ 7, ρ 0] (γ 5) = (0, 0, γ 6) from l0.symm) (zLV (γ 6) rfl ?_)
    rfl
  exact zGoo_ato hJ hD
theorem vn75a0_65 {S : Nat → zSpc} (hS57 : zIm S 57 sn57) (hS73 : zIm S 73 sn73) {a : List Int} {g : rHp} : ∀ (ρ : Nat → Int) (γ : Nat → rHp), jn75 a g 0 (zAg (zNA a75_ 0) ρ) (γ 1) → zO 15 S a g q75a0_65 ρ γ → zGl (fun i vs g1 => jn75 a g i vs g1) (sn75 a g) q75a0_65 ρ γ := by
  intro ρ γ hJ h
  obtain ⟨ha, hg, hr, hf, hm, hc, hl⟩ := h
  have ha : a = [ρ 0, ρ 1, ρ 2, ρ 3, ρ 4, ρ 5, ρ 6, ρ 7, ρ 8, ρ 9, ρ 10, ρ 11, ρ 12, ρ 13, ρ 14] := ha
  subst ha
  subst hg
  have hJ : jn75 [ρ 0, ρ 1, ρ 2, ρ 3, ρ 4, ρ 5, ρ 6, ρ 7, ρ 8, ρ 9, ρ 10, ρ 11, ρ 12, ρ 13, ρ 14] (γ 0) 0 [ρ 0, ρ 1, ρ 2, ρ 3, ρ 4, ρ 5, ρ 6, ρ 7, ρ 8, ρ 9, ρ 10, ρ 11, ρ 12, ρ 13, ρ 14, ρ 15, ρ 16, ρ 17, ρ 18, ρ 19] (γ 1) := hJ
  have r3 : (3 : Int) ≤ ρ 3 ∧ ρ 3 ≤ 4 := zRnA hr 3
  have r17 : (0 : Int) ≤ ρ 17 ∧ ρ 17 ≤ 0 := zRnA hr 17
  have r20 : (1 : Int) ≤ ρ 20 ∧ ρ 20 ≤ 1 := zRnA hr 20
  have r22 : (1 : Int) ≤ ρ 22 ∧ ρ 22 ≤ 1 := zRnA hr 22
  have r23 : (0 : Int) ≤ ρ 23 ∧ ρ 23 ≤ 2 := zRnA hr 23
  have f3 : (0 : Int) ≤ ρ 18 + -ρ 15 + (-1) := zAllA hf 3
  obtain ⟨w_0, w_1, w_2, w_3, w_4, w_5, w_6⟩ : (¬ (ρ 15 ≥ ρ 18)) ∧ (¬ (ρ 17 ≠ 0)) ∧ (¬ (ρ 3 ≤ 2)) ∧ (ρ 20 ≠ 0) ∧ (¬ (0 ≥ ρ 22)) ∧ (ρ 23 ≠ 3) ∧ (1 ≥ ρ 22) := ⟨by omega, by omega, by omega, by omega, by omega, by omega, by omega⟩
  have m2 : γ 0 71 0 (ρ 0) = ρ 3 := zAllA hm 2
  have m6 : γ 0 69 0 (ρ 0) = ρ 7 := zAllA hm 6
  have m15 : γ 1 15 0 77 = ρ 17 := zAllA hm 15
  have m16 : γ 1 15 0 90 = ρ 18 := zAllA hm 16
  have m19 : γ 1 109 0 (ρ 15) = ρ 20 := zAllA hm 19
  have m20 : γ 1 108 0 (ρ 15) = ρ 21 := zAllA hm 20
  have m21 : γ 0 66 0 (ρ 7) = ρ 22 := zAllA hm 21
  have m22 : γ 0 70 0 (4 * ρ 0) = ρ 23 := zAllA hm 22
  have m23 : γ 1 105 0 (4 * ρ 15) = ρ 24 := zAllA hm 23
  have m24 : γ 1 105 0 (4 * ρ 15 + 1) = ρ 25 := zAllA hm 24
  have m25 : γ 1 105 0 (4 * ρ 15 + 2) = ρ 26 := zAllA hm 25
  have m26 : γ 1 105 0 (4 * ρ 15 + 3) = ρ 27 := zAllA hm 26
  have c2 : γ 2 = rUp (γ 1) 102 0 0 (ρ 24) := And.right (zChA hc 4)
  have c3 : γ 3 = rUp (γ 2) 102 0 1 (ρ 25) := And.right (zChA hc 3)
  have c4 : γ 4 = rUp (γ 3) 102 0 2 (ρ 26) := And.right (zChA hc 2)
  have c5 : γ 5 = rUp (γ 4) 102 0 3 (ρ 27) := And.right (zChA hc 1)
  have l0 : sn57 [ρ 7, ρ 0, ρ 2, ρ 19, ρ 28, ρ 29, ρ 30, ρ 10, ρ 17] (γ 5) 0 0 (γ 6) := hS57 _ _ _ _ _ (zAllA hl 0)
  show jn75 [ρ 0, ρ 1, ρ 2, ρ 3, ρ 4, ρ 5, ρ 6, ρ 7, ρ 8, ρ 9, ρ 10, ρ 11, ρ 12, ρ 13, ρ 14] (γ 0) 0 [ρ 0, ρ 1, ρ 2, ρ 3, ρ 4, ρ 5, ρ 6, ρ 7, ρ 8, ρ 9, ρ 10, ρ 11, ρ 12, ρ 13, ρ 14, ρ 15 + 1, ρ 16, ρ 35, ρ 18, ρ 31] (γ 6)
  have hD : en75 (γ 0) (0, [ρ 0, ρ 15], γ 1) = .inl (0, [ρ 0, ρ 15 + 1], γ 6) := by
    unfold en75
    refine zIP (show (0 : Nat) = 0 by decide) (zLV (γ 1) rfl (zLV (ρ 0) rfl (zLV (ρ 15) rfl (zLE m2 (zLE m6 (zLE m15 (zLE m16 ?_)))))))
    refine zIN w_0 (zIN w_1 (zIN w_2 (zLE m19 (zIP w_3 (zLE m20 (zLE m21 (zIN w_4 ?_)))))))
    refine zLE m22 (zIP w_5 (zLE m23 (zLE c2.symm (zIP w_6 (zLE m24 (zLE c3.symm (zLE m25 ?_)))))))
    refine zLE c4.symm (zLE m26 (zLE c5.symm (zLE (show fn57 [ρ 7, ρ 0] (γ 5) = (0, 0, γ 6) from l0.symm) (zLV (γ 6) rfl ?_))))
    rfl
  exact zGoo_ato hJ hD
theorem vn75a0_66 {S : Nat → zSpc} (hS57 : zIm S 57 sn57) (hS73 : zIm S 73 sn73) {a : List Int} {g : rHp} : ∀ (ρ : Nat → Int) (γ : Nat → rHp), jn75 a g 0 (zAg (zNA a75_ 0) ρ) (γ 1) → zO 15 S a g q75a0_66 ρ γ → zGl (fun i vs g1 => jn75 a g i vs g1) (sn75 a g) q75a0_66 ρ γ := by
  intro ρ γ hJ h
  obtain ⟨ha, hg, hr, hf, hm, hc, hl⟩ := h
  have ha : a = [ρ 0, ρ 1, ρ 2, ρ 3, ρ 4, ρ 5, ρ 6, ρ 7, ρ 8, ρ 9, ρ 10, ρ 11, ρ 12, ρ 13, ρ 14] := ha
  subst ha
  subst hg
  have hJ : jn75 [ρ 0, ρ 1, ρ 2, ρ 3, ρ 4, ρ 5, ρ 6, ρ 7, ρ 8, ρ 9, ρ 10, ρ 11, ρ 12, ρ 13, ρ 14] (γ 0) 0 [ρ 0, ρ 1, ρ 2, ρ 3, ρ 4, ρ 5, ρ 6, ρ 7, ρ 8, ρ 9, ρ 10, ρ 11, ρ 12, ρ 13, ρ 14, ρ 15, ρ 16, ρ 17, ρ 18, ρ 19] (γ 1) := hJ
  have r3 : (3 : Int) ≤ ρ 3 ∧ ρ 3 ≤ 4 := zRnA hr 3
  have r17 : (0 : Int) ≤ ρ 17 ∧ ρ 17 ≤ 0 := zRnA hr 17
  have r20 : (1 : Int) ≤ ρ 20 ∧ ρ 20 ≤ 1 := zRnA hr 20
  have r22 : (2 : Int) ≤ ρ 22 ∧ ρ 22 ≤ 2 := zRnA hr 22
  have r23 : (0 : Int) ≤ ρ 23 ∧ ρ 23 ≤ 2 := zRnA hr 23
  have r25 : (0 : Int) ≤ ρ 25 ∧ ρ 25 ≤ 2 := zRnA hr 25
  have f3 : (0 : Int) ≤ ρ 18 + -ρ 15 + (-1) := zAllA hf 3
  obtain ⟨w_0, w_1, w_2, w_3, w_4, w_5, w_6, w_7, w_8⟩ : (¬ (ρ 15 ≥ ρ 18)) ∧ (¬ (ρ 17 ≠ 0)) ∧ (¬ (ρ 3 ≤ 2)) ∧ (ρ 20 ≠ 0) ∧ (¬ (0 ≥ ρ 22)) ∧ (ρ 23 ≠ 3) ∧ (¬ (1 ≥ ρ 22)) ∧ (ρ 25 ≠ 3) ∧ (2 ≥ ρ 22) := ⟨by omega, by omega, by omega, by omega, by omega, by omega, by omega, by omega, by omega⟩
  have m2 : γ 0 71 0 (ρ 0) = ρ 3 := zAllA hm 2
  have m6 : γ 0 69 0 (ρ 0) = ρ 7 := zAllA hm 6
  have m15 : γ 1 15 0 77 = ρ 17 := zAllA hm 15
  have m16 : γ 1 15 0 90 = ρ 18 := zAllA hm 16
  have m19 : γ 1 109 0 (ρ 15) = ρ 20 := zAllA hm 19
  have m20 : γ 1 108 0 (ρ 15) = ρ 21 := zAllA hm 20
  have m21 : γ 0 66 0 (ρ 7) = ρ 22 := zAllA hm 21
  have m22 : γ 0 70 0 (4 * ρ 0) = ρ 23 := zAllA hm 22
  have m23 : γ 1 105 0 (4 * ρ 15) = ρ 24 := zAllA hm 23
  have m24 : γ 0 70 0 (4 * ρ 0 + 1) = ρ 25 := zAllA hm 24
  have m25 : γ 1 105 0 (4 * ρ 15 + 1) = ρ 26 := zAllA hm 25
  have m26 : γ 1 105 0 (4 * ρ 15 + 2) = ρ 27 := zAllA hm 26
  have m27 : γ 1 105 0 (4 * ρ 15 + 3) = ρ 28 := zAllA hm 27
  have c2 : γ 2 = rUp (γ 1) 102 0 0 (ρ 24) := And.right (zChA hc 4)
  have c3 : γ 3 = rUp (γ 2) 102 0 1 (ρ 26) := And.right (zChA hc 3)
  have c4 : γ 4 = rUp (γ 3) 102 0 2 (ρ 27) := And.right (zChA hc 2)
  have c5 : γ 5 = rUp (γ 4) 102 0 3 (ρ 28) := And.right (zChA hc 1)
  have l0 : sn57 [ρ 7, ρ 0, ρ 2, ρ 19, ρ 29, ρ 30, ρ 31, ρ 10, ρ 17] (γ 5) 0 0 (γ 6) := hS57 _ _ _ _ _ (zAllA hl 0)
  show jn75 [ρ 0, ρ 1, ρ 2, ρ 3, ρ 4, ρ 5, ρ 6, ρ 7, ρ 8, ρ 9, ρ 10, ρ 11, ρ 12, ρ 13, ρ 14] (γ 0) 0 [ρ 0, ρ 1, ρ 2, ρ 3, ρ 4, ρ 5, ρ 6, ρ 7, ρ 8, ρ 9, ρ 10, ρ 11, ρ 12, ρ 13, ρ 14, ρ 15 + 1, ρ 16, ρ 36, ρ 18, ρ 32] (γ 6)
  have hD : en75 (γ 0) (0, [ρ 0, ρ 15], γ 1) = .inl (0, [ρ 0, ρ 15 + 1], γ 6) := by
    unfold en75
    refine zIP (show (0 : Nat) = 0 by decide) (zLV (γ 1) rfl (zLV (ρ 0) rfl (zLV (ρ 15) rfl (zLE m2 (zLE m6 (zLE m15 (zLE m16 ?_)))))))
    refine zIN w_0 (zIN w_1 (zIN w_2 (zLE m19 (zIP w_3 (zLE m20 (zLE m21 (zIN w_4 ?_)))))))
    refine zLE m22 (zIP w_5 (zLE m23 (zLE c2.symm (zIN w_6 (zLE m24 (zIP w_7 (zLE m25 ?_)))))))
    refine zLE c3.symm (zIP w_8 (zLE m26 (zLE c4.symm (zLE m27 (zLE c5.symm (zLE (show fn57 [ρ 7, ρ 0] (γ 5) = (0, 0, γ 6) from l0.symm) (zLV (γ 6) rfl ?_)))))))
    rfl
  exact zGoo_ato hJ hD
theorem vn75a0_67 {S : Nat → zSpc} (hS57 : zIm S 57 sn57) (hS73 : zIm S 73 sn73) {a : List Int} {g : rHp} : ∀ (ρ : Nat → Int) (γ : Nat → rHp), jn75 a g 0 (zAg (zNA a75_ 0) ρ) (γ 1) → zO 15 S a g q75a0_67 ρ γ → zGl (fun i vs g1 => jn75 a g i vs g1) (sn75 a g) q75a0_67 ρ γ := by
  intro ρ γ hJ h
  obtain ⟨ha, hg, hr, hf, hm, hc, hl⟩ := h
  have ha : a = [ρ 0, ρ 1, ρ 2, ρ 3, ρ 4, ρ 5, ρ 6, ρ 7, ρ 8, ρ 9, ρ 10, ρ 11, ρ 12, ρ 13, ρ 14] := ha
  subst ha
  subst hg
  have hJ : jn75 [ρ 0, ρ 1, ρ 2, ρ 3, ρ 4, ρ 5, ρ 6, ρ 7, ρ 8, ρ 9, ρ 10, ρ 11, ρ 12, ρ 13, ρ 14] (γ 0) 0 [ρ 0, ρ 1, ρ 2, ρ 3, ρ 4, ρ 5, ρ 6, ρ 7, ρ 8, ρ 9, ρ 10, ρ 11, ρ 12, ρ 13, ρ 14, ρ 15, ρ 16, ρ 17, ρ 18, ρ 19] (γ 1) := hJ
  have r3 : (3 : Int) ≤ ρ 3 ∧ ρ 3 ≤ 4 := zRnA hr 3
  have r17 : (0 : Int) ≤ ρ 17 ∧ ρ 17 ≤ 0 := zRnA hr 17
  have r20 : (1 : Int) ≤ ρ 20 ∧ ρ 20 ≤ 1 := zRnA hr 20
  have r22 : (3 : Int) ≤ ρ 22 ∧ ρ 22 ≤ 3 := zRnA hr 22
  have r23 : (0 : Int) ≤ ρ 23 ∧ ρ 23 ≤ 2 := zRnA hr 23
  have r25 : (0 : Int) ≤ ρ 25 ∧ ρ 25 ≤ 2 := zRnA hr 25
  have r27 : (0 : Int) ≤ ρ 27 ∧ ρ 27 ≤ 2 := zRnA hr 27
  have f3 : (0 : Int) ≤ ρ 18 + -ρ 15 + (-1) := zAllA hf 3
  obtain ⟨w_0, w_1, w_2, w_3, w_4, w_5, w_6, w_7, w_8, w_9, w_10⟩ : (¬ (ρ 15 ≥ ρ 18)) ∧ (¬ (ρ 17 ≠ 0)) ∧ (¬ (ρ 3 ≤ 2)) ∧ (ρ 20 ≠ 0) ∧ (¬ (0 ≥ ρ 22)) ∧ (ρ 23 ≠ 3) ∧ (¬ (1 ≥ ρ 22)) ∧ (ρ 25 ≠ 3) ∧ (¬ (2 ≥ ρ 22)) ∧ (ρ 27 ≠ 3) ∧ (3 ≥ ρ 22) := ⟨by omega, by omega, by omega, by omega, by omega, by omega, by omega, by omega, by omega, by omega, by omega⟩
  have m2 : γ 0 71 0 (ρ 0) = ρ 3 := zAllA hm 2
  have m6 : γ 0 69 0 (ρ 0) = ρ 7 := zAllA hm 6
  have m15 : γ 1 15 0 77 = ρ 17 := zAllA hm 15
  have m16 : γ 1 15 0 90 = ρ 18 := zAllA hm 16
  have m19 : γ 1 109 0 (ρ 15) = ρ 20 := zAllA hm 19
  have m20 : γ 1 108 0 (ρ 15) = ρ 21 := zAllA hm 20
  have m21 : γ 0 66 0 (ρ 7) = ρ 22 := zAllA hm 21
  have m22 : γ 0 70 0 (4 * ρ 0) = ρ 23 := zAllA hm 22
  have m23 : γ 1 105 0 (4 * ρ 15) = ρ 24 := zAllA hm 23
  have m24 : γ 0 70 0 (4 * ρ 0 + 1) = ρ 25 := zAllA hm 24
  have m25 : γ 1 105 0 (4 * ρ 15 + 1) = ρ 26 := zAllA hm 25
  have m26 : γ 0 70 0 (4 * ρ 0 + 2) = ρ 27 := zAllA hm 26
  have m27 : γ 1 105 0 (4 * ρ 15 + 2) = ρ 28 := zAllA hm 27
  have m28 : γ 1 105 0 (4 * ρ 15 + 3) = ρ 29 := zAllA hm 28
  have c2 : γ 2 = rUp (γ 1) 102 0 0 (ρ 24) := And.right (zChA hc 4)
  have c3 : γ 3 = rUp (γ 2) 102 0 1 (ρ 26) := And.right (zChA hc 3)
  have c4 : γ 4 = rUp (γ 3) 102 0 2 (ρ 28) := And.right (zChA hc 2)
  have c5 : γ 5 = rUp (γ 4) 102 0 3 (ρ 29) := And.right (zChA hc 1)
  have l0 : sn57 [ρ 7, ρ 0, ρ 2, ρ 19, ρ 30, ρ 31, ρ 32, ρ 10, ρ 17] (γ 5) 0 0 (γ 6) := hS57 _ _ _ _ _ (zAllA hl 0)
  show jn75 [ρ 0, ρ 1, ρ 2, ρ 3, ρ 4, ρ 5, ρ 6, ρ 7, ρ 8, ρ 9, ρ 10, ρ 11, ρ 12, ρ 13, ρ 14] (γ 0) 0 [ρ 0, ρ 1, ρ 2, ρ 3, ρ 4, ρ 5, ρ 6, ρ 7, ρ 8, ρ 9, ρ 10, ρ 11, ρ 12, ρ 13, ρ 14, ρ 15 + 1, ρ 16, ρ 37, ρ 18, ρ 33] (γ 6)
  have hD : en75 (γ 0) (0, [ρ 0, ρ 15], γ 1) = .inl (0, [ρ 0, ρ 15 + 1], γ 6) := by
    unfold en75
    refine zIP (show (0 : Nat) = 0 by decide) (zLV (γ 1) rfl (zLV (ρ 0) rfl (zLV (ρ 15) rfl (zLE m2 (zLE m6 (zLE m15 (zLE m16 ?_)))))))
    refine zIN w_0 (zIN w_1 (zIN w_2 (zLE m19 (zIP w_3 (zLE m20 (zLE m21 (zIN w_4 ?_)))))))
    refine zLE m22 (zIP w_5 (zLE m23 (zLE c2.symm (zIN w_6 (zLE m24 (zIP w_7 (zLE m25 ?_)))))))
    refine zLE c3.symm (zIN w_8 (zLE m26 (zIP w_9 (zLE m27 (zLE c4.symm (zIP w_10 (zLE m28 ?_)))))))
    refine zLE c5.symm (zLE (show fn57 [ρ 7, ρ 0] (γ 5) = (0, 0, γ 6) from l0.symm) (zLV (γ 6) rfl ?_))
    rfl
  exact zGoo_ato hJ hD
theorem vn75a0_68 {S : Nat → zSpc} (hS57 : zIm S 57 sn57) (hS73 : zIm S 73 sn73) {a : List Int} {g : rHp} : ∀ (ρ : Nat → Int) (γ : Nat → rHp), jn75 a g 0 (zAg (zNA a75_ 0) ρ) (γ 1) → zO 15 S a g q75a0_68 ρ γ → zGl (fun i vs g1 => jn75 a g i vs g1) (sn75 a g) q75a0_68 ρ γ := by
  intro ρ γ hJ h
  obtain ⟨ha, hg, hr, hf, hm, hc, hl⟩ := h
  have ha : a = [ρ 0, ρ 1, ρ 2, ρ 3, ρ 4, ρ 5, ρ 6, ρ 7, ρ 8, ρ 9, ρ 10, ρ 11, ρ 12, ρ 13, ρ 14] := ha
  subst ha
  subst hg
  have hJ : jn75 [ρ 0, ρ 1, ρ 2, ρ 3, ρ 4, ρ 5, ρ 6, ρ 7, ρ 8, ρ 9, ρ 10, ρ 11, ρ 12, ρ 13, ρ 14] (γ 0) 0 [ρ 0, ρ 1, ρ 2, ρ 3, ρ 4, ρ 5, ρ 6, ρ 7, ρ 8, ρ 9, ρ 10, ρ 11, ρ 12, ρ 13, ρ 14, ρ 15, ρ 16, ρ 17, ρ 18, ρ 19] (γ 1) := hJ
  have r3 : (3 : Int) ≤ ρ 3 ∧ ρ 3 ≤ 4 := zRnA hr 3
  have r17 : (0 : Int) ≤ ρ 17 ∧ ρ 17 ≤ 0 := zRnA hr 17
  have r20 : (1 : Int) ≤ ρ 20 ∧ ρ 20 ≤ 1 := zRnA hr 20
  have r22 : (4 : Int) ≤ ρ 22 ∧ ρ 22 ≤ 4 := zRnA hr 22
  have r23 : (0 : Int) ≤ ρ 23 ∧ ρ 23 ≤ 2 := zRnA hr 23
  have r25 : (0 : Int) ≤ ρ 25 ∧ ρ 25 ≤ 2 := zRnA hr 25
  have r27 : (0 : Int) ≤ ρ 27 ∧ ρ 27 ≤ 2 := zRnA hr 27
  have r29 : (0 : Int) ≤ ρ 29 ∧ ρ 29 ≤ 2 := zRnA hr 29
  have f3 : (0 : Int) ≤ ρ 18 + -ρ 15 + (-1) := zAllA hf 3
  obtain ⟨w_0, w_1, w_2, w_3, w_4, w_5, w_6, w_7, w_8, w_9, w_10, w_11⟩ : (¬ (ρ 15 ≥ ρ 18)) ∧ (¬ (ρ 17 ≠ 0)) ∧ (¬ (ρ 3 ≤ 2)) ∧ (ρ 20 ≠ 0) ∧ (¬ (0 ≥ ρ 22)) ∧ (ρ 23 ≠ 3) ∧ (¬ (1 ≥ ρ 22)) ∧ (ρ 25 ≠ 3) ∧ (¬ (2 ≥ ρ 22)) ∧ (ρ 27 ≠ 3) ∧ (¬ (3 ≥ ρ 22)) ∧ (ρ 29 ≠ 3) := ⟨by omega, by omega, by omega, by omega, by omega, by omega, by omega, by omega, by omega, by omega, by omega, by omega⟩
  have m2 : γ 0 71 0 (ρ 0) = ρ 3 := zAllA hm 2
  have m6 : γ 0 69 0 (ρ 0) = ρ 7 := zAllA hm 6
  have m15 : γ 1 15 0 77 = ρ 17 := zAllA hm 15
  have m16 : γ 1 15 0 90 = ρ 18 := zAllA hm 16
  have m19 : γ 1 109 0 (ρ 15) = ρ 20 := zAllA hm 19
  have m20 : γ 1 108 0 (ρ 15) = ρ 21 := zAllA hm 20
  have m21 : γ 0 66 0 (ρ 7) = ρ 22 := zAllA hm 21
  have m22 : γ 0 70 0 (4 * ρ 0) = ρ 23 := zAllA hm 22
  have m23 : γ 1 105 0 (4 * ρ 15) = ρ 24 := zAllA hm 23
  have m24 : γ 0 70 0 (4 * ρ 0 + 1) = ρ 25 := zAllA hm 24
  have m25 : γ 1 105 0 (4 * ρ 15 + 1) = ρ 26 := zAllA hm 25
  have m26 : γ 0 70 0 (4 * ρ 0 + 2) = ρ 27 := zAllA hm 26
  have m27 : γ 1 105 0 (4 * ρ 15 + 2) = ρ 28 := zAllA hm 27
  have m28 : γ 0 70 0 (4 * ρ 0 + 3) = ρ 29 := zAllA hm 28
  have m29 : γ 1 105 0 (4 * ρ 15 + 3) = ρ 30 := zAllA hm 29
  have c2 : γ 2 = rUp (γ 1) 102 0 0 (ρ 24) := And.right (zChA hc 4)
  have c3 : γ 3 = rUp (γ 2) 102 0 1 (ρ 26) := And.right (zChA hc 3)
  have c4 : γ 4 = rUp (γ 3) 102 0 2 (ρ 28) := And.right (zChA hc 2)
  have c5 : γ 5 = rUp (γ 4) 102 0 3 (ρ 30) := And.right (zChA hc 1)
  have l0 : sn57 [ρ 7, ρ 0, ρ 2, ρ 19, ρ 31, ρ 32, ρ 33, ρ 10, ρ 17] (γ 5) 0 0 (γ 6) := hS57 _ _ _ _ _ (zAllA hl 0)
  show jn75 [ρ 0, ρ 1, ρ 2, ρ 3, ρ 4, ρ 5, ρ 6, ρ 7, ρ 8, ρ 9, ρ 10, ρ 11, ρ 12, ρ 13, ρ 14] (γ 0) 0 [ρ 0, ρ 1, ρ 2, ρ 3, ρ 4, ρ 5, ρ 6, ρ 7, ρ 8, ρ 9, ρ 10, ρ 11, ρ 12, ρ 13, ρ 14, ρ 15 + 1, ρ 16, ρ 38, ρ 18, ρ 34] (γ 6)
  have hD : en75 (γ 0) (0, [ρ 0, ρ 15], γ 1) = .inl (0, [ρ 0, ρ 15 + 1], γ 6) := by
    unfold en75
    refine zIP (show (0 : Nat) = 0 by decide) (zLV (γ 1) rfl (zLV (ρ 0) rfl (zLV (ρ 15) rfl (zLE m2 (zLE m6 (zLE m15 (zLE m16 ?_)))))))
    refine zIN w_0 (zIN w_1 (zIN w_2 (zLE m19 (zIP w_3 (zLE m20 (zLE m21 (zIN w_4 ?_)))))))
    refine zLE m22 (zIP w_5 (zLE m23 (zLE c2.symm (zIN w_6 (zLE m24 (zIP w_7 (zLE m25 ?_)))))))
    refine zLE c3.symm (zIN w_8 (zLE m26 (zIP w_9 (zLE m27 (zLE c4.symm (zIN w_10 (zLE m28 ?_)))))))
    refine zIP w_11 (zLE m29 (zLE c5.symm (zLE (show fn57 [ρ 7, ρ 0] (γ 5) = (0, 0, γ 6) from l0.symm) (zLV (γ 6) rfl ?_))))
    rfl
  exact zGoo_ato hJ hD
theorem vn75a0_69 {S : Nat → zSpc} (hS57 : zIm S 57 sn57) (hS73 : zIm S 73 sn73) {a : List Int} {g : rHp} : ∀ (ρ : Nat → Int) (γ : Nat → rHp), jn75 a g 0 (zAg (zNA a75_ 0) ρ) (γ 1) → zO 15 S a g q75a0_69 ρ γ → zGl (fun i vs g1 => jn75 a g i vs g1) (sn75 a g) q75a0_69 ρ γ := by
  intro ρ γ hJ h
  obtain ⟨ha, hg, hr, hf, hm, hc, hl⟩ := h
  have ha : a = [ρ 0, ρ 1, ρ 2, ρ 3, ρ 4, ρ 5, ρ 6, ρ 7, ρ 8, ρ 9, ρ 10, ρ 11, ρ 12, ρ 13, ρ 14] := ha
  subst ha
  subst hg
  have hJ : jn75 [ρ 0, ρ 1, ρ 2, ρ 3, ρ 4, ρ 5, ρ 6, ρ 7, ρ 8, ρ 9, ρ 10, ρ 11, ρ 12, ρ 13, ρ 14] (γ 0) 0 [ρ 0, ρ 1, ρ 2, ρ 3, ρ 4, ρ 5, ρ 6, ρ 7, ρ 8, ρ 9, ρ 10, ρ 11, ρ 12, ρ 13, ρ 14, ρ 15, ρ 16, ρ 17, ρ 18, ρ 19] (γ 1) := hJ
  have r3 : (3 : Int) ≤ ρ 3 ∧ ρ 3 ≤ 4 := zRnA hr 3
  have r17 : (0 : Int) ≤ ρ 17 ∧ ρ 17 ≤ 0 := zRnA hr 17
  have r20 : (1 : Int) ≤ ρ 20 ∧ ρ 20 ≤ 1 := zRnA hr 20
  have r22 : (4 : Int) ≤ ρ 22 ∧ ρ 22 ≤ 4 := zRnA hr 22
  have r23 : (0 : Int) ≤ ρ 23 ∧ ρ 23 ≤ 2 := zRnA hr 23
  have r25 : (0 : Int) ≤ ρ 25 ∧ ρ 25 ≤ 2 := zRnA hr 25
  have r27 : (0 : Int) ≤ ρ 27 ∧ ρ 27 ≤ 2 := zRnA hr 27
  have r29 : (3 : Int) ≤ ρ 29 ∧ ρ 29 ≤ 3 := zRnA hr 29
  have f3 : (0 : Int) ≤ ρ 18 + -ρ 15 + (-1) := zAllA hf 3
  obtain ⟨w_0, w_1, w_2, w_3, w_4, w_5, w_6, w_7, w_8, w_9, w_10, w_11⟩ : (¬ (ρ 15 ≥ ρ 18)) ∧ (¬ (ρ 17 ≠ 0)) ∧ (¬ (ρ 3 ≤ 2)) ∧ (ρ 20 ≠ 0) ∧ (¬ (0 ≥ ρ 22)) ∧ (ρ 23 ≠ 3) ∧ (¬ (1 ≥ ρ 22)) ∧ (ρ 25 ≠ 3) ∧ (¬ (2 ≥ ρ 22)) ∧ (ρ 27 ≠ 3) ∧ (¬ (3 ≥ ρ 22)) ∧ (¬ (ρ 29 ≠ 3)) := ⟨by omega, by omega, by omega, by omega, by omega, by omega, by omega, by omega, by omega, by omega, by omega, by omega⟩
  have m2 : γ 0 71 0 (ρ 0) = ρ 3 := zAllA hm 2
  have m6 : γ 0 69 0 (ρ 0) = ρ 7 := zAllA hm 6
  have m15 : γ 1 15 0 77 = ρ 17 := zAllA hm 15
  have m16 : γ 1 15 0 90 = ρ 18 := zAllA hm 16
  have m19 : γ 1 109 0 (ρ 15) = ρ 20 := zAllA hm 19
  have m20 : γ 1 108 0 (ρ 15) = ρ 21 := zAllA hm 20
  have m21 : γ 0 66 0 (ρ 7) = ρ 22 := zAllA hm 21
  have m22 : γ 0 70 0 (4 * ρ 0) = ρ 23 := zAllA hm 22
  have m23 : γ 1 105 0 (4 * ρ 15) = ρ 24 := zAllA hm 23
  have m24 : γ 0 70 0 (4 * ρ 0 + 1) = ρ 25 := zAllA hm 24
  have m25 : γ 1 105 0 (4 * ρ 15 + 1) = ρ 26 := zAllA hm 25
  have m26 : γ 0 70 0 (4 * ρ 0 + 2) = ρ 27 := zAllA hm 26
  have m27 : γ 1 105 0 (4 * ρ 15 + 2) = ρ 28 := zAllA hm 27
  have m28 : γ 0 70 0 (4 * ρ 0 + 3) = ρ 29 := zAllA hm 28
  have c2 : γ 2 = rUp (γ 1) 102 0 0 (ρ 24) := And.right (zChA hc 4)
  have c3 : γ 3 = rUp (γ 2) 102 0 1 (ρ 26) := And.right (zChA hc 3)
  have c4 : γ 4 = rUp (γ 3) 102 0 2 (ρ 28) := And.right (zChA hc 2)
  have c5 : γ 5 = rUp (γ 4) 102 0 3 (ρ 21) := And.right (zChA hc 1)
  have l0 : sn57 [ρ 7, ρ 0, ρ 2, ρ 19, ρ 30, ρ 31, ρ 32, ρ 10, ρ 17] (γ 5) 0 0 (γ 6) := hS57 _ _ _ _ _ (zAllA hl 0)
  show jn75 [ρ 0, ρ 1, ρ 2, ρ 3, ρ 4, ρ 5, ρ 6, ρ 7, ρ 8, ρ 9, ρ 10, ρ 11, ρ 12, ρ 13, ρ 14] (γ 0) 0 [ρ 0, ρ 1, ρ 2, ρ 3, ρ 4, ρ 5, ρ 6, ρ 7, ρ 8, ρ 9, ρ 10, ρ 11, ρ 12, ρ 13, ρ 14, ρ 15 + 1, ρ 16, ρ 37, ρ 18, ρ 33] (γ 6)
  have hD : en75 (γ 0) (0, [ρ 0, ρ 15], γ 1) = .inl (0, [ρ 0, ρ 15 + 1], γ 6) := by
    unfold en75
    refine zIP (show (0 : Nat) = 0 by decide) (zLV (γ 1) rfl (zLV (ρ 0) rfl (zLV (ρ 15) rfl (zLE m2 (zLE m6 (zLE m15 (zLE m16 ?_)))))))
    refine zIN w_0 (zIN w_1 (zIN w_2 (zLE m19 (zIP w_3 (zLE m20 (zLE m21 (zIN w_4 ?_)))))))
    refine zLE m22 (zIP w_5 (zLE m23 (zLE c2.symm (zIN w_6 (zLE m24 (zIP w_7 (zLE m25 ?_)))))))
    refine zLE c3.symm (zIN w_8 (zLE m26 (zIP w_9 (zLE m27 (zLE c4.symm (zIN w_10 (zLE m28 ?_)))))))
    refine zIN w_11 (zLE c5.symm (zLE (show fn57 [ρ 7, ρ 0] (γ 5) = (0, 0, γ 6) from l0.symm) (zLV (γ 6) rfl ?_)))
    rfl
  exact zGoo_ato hJ hD
theorem vn75a0_70 {S : Nat → zSpc} (hS57 : zIm S 57 sn57) (hS73 : zIm S 73 sn73) {a : List Int} {g : rHp} : ∀ (ρ : Nat → Int) (γ : Nat → rHp), jn75 a g 0 (zAg (zNA a75_ 0) ρ) (γ 1) → zO 15 S a g q75a0_70 ρ γ → zGl (fun i vs g1 => jn75 a g i vs g1) (sn75 a g) q75a0_70 ρ γ := by
  intro ρ γ hJ h
  obtain ⟨ha, hg, hr, hf, hm, hc, hl⟩ := h
  have ha : a = [ρ 0, ρ 1, ρ 2, ρ 3, ρ 4, ρ 5, ρ 6, ρ 7, ρ 8, ρ 9, ρ 10, ρ 11, ρ 12, ρ 13, ρ 14] := ha
  subst ha
  subst hg
  have hJ : jn75 [ρ 0, ρ 1, ρ 2, ρ 3, ρ 4, ρ 5, ρ 6, ρ 7, ρ 8, ρ 9, ρ 10, ρ 11, ρ 12, ρ 13, ρ 14] (γ 0) 0 [ρ 0, ρ 1, ρ 2, ρ 3, ρ 4, ρ 5, ρ 6, ρ 7, ρ 8, ρ 9, ρ 10, ρ 11, ρ 12, ρ 13, ρ 14, ρ 15, ρ 16, ρ 17, ρ 18, ρ 19] (γ 1) := hJ
  have r3 : (3 : Int) ≤ ρ 3 ∧ ρ 3 ≤ 4 := zRnA hr 3
  have r17 : (0 : Int) ≤ ρ 17 ∧ ρ 17 ≤ 0 := zRnA hr 17
  have r20 : (1 : Int) ≤ ρ 20 ∧ ρ 20 ≤ 1 := zRnA hr 20
  have r22 : (3 : Int) ≤ ρ 22 ∧ ρ 22 ≤ 3 := zRnA hr 22
  have r23 : (0 : Int) ≤ ρ 23 ∧ ρ 23 ≤ 2 := zRnA hr 23
  have r25 : (0 : Int) ≤ ρ 25 ∧ ρ 25 ≤ 2 := zRnA hr 25
  have r27 : (3 : Int) ≤ ρ 27 ∧ ρ 27 ≤ 3 := zRnA hr 27
  have f3 : (0 : Int) ≤ ρ 18 + -ρ 15 + (-1) := zAllA hf 3
  obtain ⟨w_0, w_1, w_2, w_3, w_4, w_5, w_6, w_7, w_8, w_9, w_10⟩ : (¬ (ρ 15 ≥ ρ 18)) ∧ (¬ (ρ 17 ≠ 0)) ∧ (¬ (ρ 3 ≤ 2)) ∧ (ρ 20 ≠ 0) ∧ (¬ (0 ≥ ρ 22)) ∧ (ρ 23 ≠ 3) ∧ (¬ (1 ≥ ρ 22)) ∧ (ρ 25 ≠ 3) ∧ (¬ (2 ≥ ρ 22)) ∧ (¬ (ρ 27 ≠ 3)) ∧ (3 ≥ ρ 22) := ⟨by omega, by omega, by omega, by omega, by omega, by omega, by omega, by omega, by omega, by omega, by omega⟩
  have m2 : γ 0 71 0 (ρ 0) = ρ 3 := zAllA hm 2
  have m6 : γ 0 69 0 (ρ 0) = ρ 7 := zAllA hm 6
  have m15 : γ 1 15 0 77 = ρ 17 := zAllA hm 15
  have m16 : γ 1 15 0 90 = ρ 18 := zAllA hm 16
  have m19 : γ 1 109 0 (ρ 15) = ρ 20 := zAllA hm 19
  have m20 : γ 1 108 0 (ρ 15) = ρ 21 := zAllA hm 20
  have m21 : γ 0 66 0 (ρ 7) = ρ 22 := zAllA hm 21
  have m22 : γ 0 70 0 (4 * ρ 0) = ρ 23 := zAllA hm 22
  have m23 : γ 1 105 0 (4 * ρ 15) = ρ 24 := zAllA hm 23
  have m24 : γ 0 70 0 (4 * ρ 0 + 1) = ρ 25 := zAllA hm 24
  have m25 : γ 1 105 0 (4 * ρ 15 + 1) = ρ 26 := zAllA hm 25
  have m26 : γ 0 70 0 (4 * ρ 0 + 2) = ρ 27 := zAllA hm 26
  have m27 : γ 1 105 0 (4 * ρ 15 + 3) = ρ 28 := zAllA hm 27
  have c2 : γ 2 = rUp (γ 1) 102 0 0 (ρ 24) := And.right (zChA hc 4)
  have c3 : γ 3 = rUp (γ 2) 102 0 1 (ρ 26) := And.right (zChA hc 3)
  have c4 : γ 4 = rUp (γ 3) 102 0 2 (ρ 21) := And.right (zChA hc 2)
  have c5 : γ 5 = rUp (γ 4) 102 0 3 (ρ 28) := And.right (zChA hc 1)
  have l0 : sn57 [ρ 7, ρ 0, ρ 2, ρ 19, ρ 29, ρ 30, ρ 31, ρ 10, ρ 17] (γ 5) 0 0 (γ 6) := hS57 _ _ _ _ _ (zAllA hl 0)
  show jn75 [ρ 0, ρ 1, ρ 2, ρ 3, ρ 4, ρ 5, ρ 6, ρ 7, ρ 8, ρ 9, ρ 10, ρ 11, ρ 12, ρ 13, ρ 14] (γ 0) 0 [ρ 0, ρ 1, ρ 2, ρ 3, ρ 4, ρ 5, ρ 6, ρ 7, ρ 8, ρ 9, ρ 10, ρ 11, ρ 12, ρ 13, ρ 14, ρ 15 + 1, ρ 16, ρ 36, ρ 18, ρ 32] (γ 6)
  have hD : en75 (γ 0) (0, [ρ 0, ρ 15], γ 1) = .inl (0, [ρ 0, ρ 15 + 1], γ 6) := by
    unfold en75
    refine zIP (show (0 : Nat) = 0 by decide) (zLV (γ 1) rfl (zLV (ρ 0) rfl (zLV (ρ 15) rfl (zLE m2 (zLE m6 (zLE m15 (zLE m16 ?_)))))))
    refine zIN w_0 (zIN w_1 (zIN w_2 (zLE m19 (zIP w_3 (zLE m20 (zLE m21 (zIN w_4 ?_)))))))
    refine zLE m22 (zIP w_5 (zLE m23 (zLE c2.symm (zIN w_6 (zLE m24 (zIP w_7 (zLE m25 ?_)))))))
    refine zLE c3.symm (zIN w_8 (zLE m26 (zIN w_9 (zLE c4.symm (zIP w_10 (zLE m27 (zLE c5.symm ?_)))))))
    refine zLE (show fn57 [ρ 7, ρ 0] (γ 5) = (0, 0, γ 6) from l0.symm) (zLV (γ 6) rfl ?_)
    rfl
  exact zGoo_ato hJ hD
theorem vn75a0_71 {S : Nat → zSpc} (hS57 : zIm S 57 sn57) (hS73 : zIm S 73 sn73) {a : List Int} {g : rHp} : ∀ (ρ : Nat → Int) (γ : Nat → rHp), jn75 a g 0 (zAg (zNA a75_ 0) ρ) (γ 1) → zO 15 S a g q75a0_71 ρ γ → zGl (fun i vs g1 => jn75 a g i vs g1) (sn75 a g) q75a0_71 ρ γ := by
  intro ρ γ hJ h
  obtain ⟨ha, hg, hr, hf, hm, hc, hl⟩ := h
  have ha : a = [ρ 0, ρ 1, ρ 2, ρ 3, ρ 4, ρ 5, ρ 6, ρ 7, ρ 8, ρ 9, ρ 10, ρ 11, ρ 12, ρ 13, ρ 14] := ha
  subst ha
  subst hg
  have hJ : jn75 [ρ 0, ρ 1, ρ 2, ρ 3, ρ 4, ρ 5, ρ 6, ρ 7, ρ 8, ρ 9, ρ 10, ρ 11, ρ 12, ρ 13, ρ 14] (γ 0) 0 [ρ 0, ρ 1, ρ 2, ρ 3, ρ 4, ρ 5, ρ 6, ρ 7, ρ 8, ρ 9, ρ 10, ρ 11, ρ 12, ρ 13, ρ 14, ρ 15, ρ 16, ρ 17, ρ 18, ρ 19] (γ 1) := hJ
  have r3 : (3 : Int) ≤ ρ 3 ∧ ρ 3 ≤ 4 := zRnA hr 3
  have r17 : (0 : Int) ≤ ρ 17 ∧ ρ 17 ≤ 0 := zRnA hr 17
  have r20 : (1 : Int) ≤ ρ 20 ∧ ρ 20 ≤ 1 := zRnA hr 20
  have r22 : (4 : Int) ≤ ρ 22 ∧ ρ 22 ≤ 4 := zRnA hr 22
  have r23 : (0 : Int) ≤ ρ 23 ∧ ρ 23 ≤ 2 := zRnA hr 23
  have r25 : (0 : Int) ≤ ρ 25 ∧ ρ 25 ≤ 2 := zRnA hr 25
  have r27 : (3 : Int) ≤ ρ 27 ∧ ρ 27 ≤ 3 := zRnA hr 27
  have r28 : (0 : Int) ≤ ρ 28 ∧ ρ 28 ≤ 2 := zRnA hr 28
  have f3 : (0 : Int) ≤ ρ 18 + -ρ 15 + (-1) := zAllA hf 3
  obtain ⟨w_0, w_1, w_2, w_3, w_4, w_5, w_6, w_7, w_8, w_9, w_10, w_11⟩ : (¬ (ρ 15 ≥ ρ 18)) ∧ (¬ (ρ 17 ≠ 0)) ∧ (¬ (ρ 3 ≤ 2)) ∧ (ρ 20 ≠ 0) ∧ (¬ (0 ≥ ρ 22)) ∧ (ρ 23 ≠ 3) ∧ (¬ (1 ≥ ρ 22)) ∧ (ρ 25 ≠ 3) ∧ (¬ (2 ≥ ρ 22)) ∧ (¬ (ρ 27 ≠ 3)) ∧ (¬ (3 ≥ ρ 22)) ∧ (ρ 28 ≠ 3) := ⟨by omega, by omega, by omega, by omega, by omega, by omega, by omega, by omega, by omega, by omega, by omega, by omega⟩
  have m2 : γ 0 71 0 (ρ 0) = ρ 3 := zAllA hm 2
  have m6 : γ 0 69 0 (ρ 0) = ρ 7 := zAllA hm 6
  have m15 : γ 1 15 0 77 = ρ 17 := zAllA hm 15
  have m16 : γ 1 15 0 90 = ρ 18 := zAllA hm 16
  have m19 : γ 1 109 0 (ρ 15) = ρ 20 := zAllA hm 19
  have m20 : γ 1 108 0 (ρ 15) = ρ 21 := zAllA hm 20
  have m21 : γ 0 66 0 (ρ 7) = ρ 22 := zAllA hm 21
  have m22 : γ 0 70 0 (4 * ρ 0) = ρ 23 := zAllA hm 22
  have m23 : γ 1 105 0 (4 * ρ 15) = ρ 24 := zAllA hm 23
  have m24 : γ 0 70 0 (4 * ρ 0 + 1) = ρ 25 := zAllA hm 24
  have m25 : γ 1 105 0 (4 * ρ 15 + 1) = ρ 26 := zAllA hm 25
  have m26 : γ 0 70 0 (4 * ρ 0 + 2) = ρ 27 := zAllA hm 26
  have m27 : γ 0 70 0 (4 * ρ 0 + 3) = ρ 28 := zAllA hm 27
  have m28 : γ 1 105 0 (4 * ρ 15 + 3) = ρ 29 := zAllA hm 28
  have c2 : γ 2 = rUp (γ 1) 102 0 0 (ρ 24) := And.right (zChA hc 4)
  have c3 : γ 3 = rUp (γ 2) 102 0 1 (ρ 26) := And.right (zChA hc 3)
  have c4 : γ 4 = rUp (γ 3) 102 0 2 (ρ 21) := And.right (zChA hc 2)
  have c5 : γ 5 = rUp (γ 4) 102 0 3 (ρ 29) := And.right (zChA hc 1)
  have l0 : sn57 [ρ 7, ρ 0, ρ 2, ρ 19, ρ 30, ρ 31, ρ 32, ρ 10, ρ 17] (γ 5) 0 0 (γ 6) := hS57 _ _ _ _ _ (zAllA hl 0)
  show jn75 [ρ 0, ρ 1, ρ 2, ρ 3, ρ 4, ρ 5, ρ 6, ρ 7, ρ 8, ρ 9, ρ 10, ρ 11, ρ 12, ρ 13, ρ 14] (γ 0) 0 [ρ 0, ρ 1, ρ 2, ρ 3, ρ 4, ρ 5, ρ 6, ρ 7, ρ 8, ρ 9, ρ 10, ρ 11, ρ 12, ρ 13, ρ 14, ρ 15 + 1, ρ 16, ρ 37, ρ 18, ρ 33] (γ 6)
  have hD : en75 (γ 0) (0, [ρ 0, ρ 15], γ 1) = .inl (0, [ρ 0, ρ 15 + 1], γ 6) := by
    unfold en75
    refine zIP (show (0 : Nat) = 0 by decide) (zLV (γ 1) rfl (zLV (ρ 0) rfl (zLV (ρ 15) rfl (zLE m2 (zLE m6 (zLE m15 (zLE m16 ?_)))))))
    refine zIN w_0 (zIN w_1 (zIN w_2 (zLE m19 (zIP w_3 (zLE m20 (zLE m21 (zIN w_4 ?_)))))))
    refine zLE m22 (zIP w_5 (zLE m23 (zLE c2.symm (zIN w_6 (zLE m24 (zIP w_7 (zLE m25 ?_)))))))
    refine zLE c3.symm (zIN w_8 (zLE m26 (zIN w_9 (zLE c4.symm (zIN w_10 (zLE m27 (zIP w_11 ?_)))))))
    refine zLE m28 (zLE c5.symm (zLE (show fn57 [ρ 7, ρ 0] (γ 5) = (0, 0, γ 6) from l0.symm) (zLV (γ 6) rfl ?_)))
    rfl
  exact zGoo_ato hJ hD
theorem vn75a0_72 {S : Nat → zSpc} (hS57 : zIm S 57 sn57) (hS73 : zIm S 73 sn73) {a : List Int} {g : rHp} : ∀ (ρ : Nat → Int) (γ : Nat → rHp), jn75 a g 0 (zAg (zNA a75_ 0) ρ) (γ 1) → zO 15 S a g q75a0_72 ρ γ → zGl (fun i vs g1 => jn75 a g i vs g1) (sn75 a g) q75a0_72 ρ γ := by
  intro ρ γ hJ h
  obtain ⟨ha, hg, hr, hf, hm, hc, hl⟩ := h
  have ha : a = [ρ 0, ρ 1, ρ 2, ρ 3, ρ 4, ρ 5, ρ 6, ρ 7, ρ 8, ρ 9, ρ 10, ρ 11, ρ 12, ρ 13, ρ 14] := ha
  subst ha
  subst hg
  have hJ : jn75 [ρ 0, ρ 1, ρ 2, ρ 3, ρ 4, ρ 5, ρ 6, ρ 7, ρ 8, ρ 9, ρ 10, ρ 11, ρ 12, ρ 13, ρ 14] (γ 0) 0 [ρ 0, ρ 1, ρ 2, ρ 3, ρ 4, ρ 5, ρ 6, ρ 7, ρ 8, ρ 9, ρ 10, ρ 11, ρ 12, ρ 13, ρ 14, ρ 15, ρ 16, ρ 17, ρ 18, ρ 19] (γ 1) := hJ
  have r3 : (3 : Int) ≤ ρ 3 ∧ ρ 3 ≤ 4 := zRnA hr 3
  have r17 : (0 : Int) ≤ ρ 17 ∧ ρ 17 ≤ 0 := zRnA hr 17
  have r20 : (1 : Int) ≤ ρ 20 ∧ ρ 20 ≤ 1 := zRnA hr 20
  have r22 : (4 : Int) ≤ ρ 22 ∧ ρ 22 ≤ 4 := zRnA hr 22
  have r23 : (0 : Int) ≤ ρ 23 ∧ ρ 23 ≤ 2 := zRnA hr 23
  have r25 : (0 : Int) ≤ ρ 25 ∧ ρ 25 ≤ 2 := zRnA hr 25
  have r27 : (3 : Int) ≤ ρ 27 ∧ ρ 27 ≤ 3 := zRnA hr 27
  have r28 : (3 : Int) ≤ ρ 28 ∧ ρ 28 ≤ 3 := zRnA hr 28
  have f3 : (0 : Int) ≤ ρ 18 + -ρ 15 + (-1) := zAllA hf 3
  obtain ⟨w_0, w_1, w_2, w_3, w_4, w_5, w_6, w_7, w_8, w_9, w_10, w_11⟩ : (¬ (ρ 15 ≥ ρ 18)) ∧ (¬ (ρ 17 ≠ 0)) ∧ (¬ (ρ 3 ≤ 2)) ∧ (ρ 20 ≠ 0) ∧ (¬ (0 ≥ ρ 22)) ∧ (ρ 23 ≠ 3) ∧ (¬ (1 ≥ ρ 22)) ∧ (ρ 25 ≠ 3) ∧ (¬ (2 ≥ ρ 22)) ∧ (¬ (ρ 27 ≠ 3)) ∧ (¬ (3 ≥ ρ 22)) ∧ (¬ (ρ 28 ≠ 3)) := ⟨by omega, by omega, by omega, by omega, by omega, by omega, by omega, by omega, by omega, by omega, by omega, by omega⟩
  have m2 : γ 0 71 0 (ρ 0) = ρ 3 := zAllA hm 2
  have m6 : γ 0 69 0 (ρ 0) = ρ 7 := zAllA hm 6
  have m15 : γ 1 15 0 77 = ρ 17 := zAllA hm 15
  have m16 : γ 1 15 0 90 = ρ 18 := zAllA hm 16
  have m19 : γ 1 109 0 (ρ 15) = ρ 20 := zAllA hm 19
  have m20 : γ 1 108 0 (ρ 15) = ρ 21 := zAllA hm 20
  have m21 : γ 0 66 0 (ρ 7) = ρ 22 := zAllA hm 21
  have m22 : γ 0 70 0 (4 * ρ 0) = ρ 23 := zAllA hm 22
  have m23 : γ 1 105 0 (4 * ρ 15) = ρ 24 := zAllA hm 23
  have m24 : γ 0 70 0 (4 * ρ 0 + 1) = ρ 25 := zAllA hm 24
  have m25 : γ 1 105 0 (4 * ρ 15 + 1) = ρ 26 := zAllA hm 25
  have m26 : γ 0 70 0 (4 * ρ 0 + 2) = ρ 27 := zAllA hm 26
  have m27 : γ 0 70 0 (4 * ρ 0 + 3) = ρ 28 := zAllA hm 27
  have c2 : γ 2 = rUp (γ 1) 102 0 0 (ρ 24) := And.right (zChA hc 4)
  have c3 : γ 3 = rUp (γ 2) 102 0 1 (ρ 26) := And.right (zChA hc 3)
  have c4 : γ 4 = rUp (γ 3) 102 0 2 (ρ 21) := And.right (zChA hc 2)
  have c5 : γ 5 = rUp (γ 4) 102 0 3 (ρ 21) := And.right (zChA hc 1)
  have l0 : sn57 [ρ 7, ρ 0, ρ 2, ρ 19, ρ 29, ρ 30, ρ 31, ρ 10, ρ 17] (γ 5) 0 0 (γ 6) := hS57 _ _ _ _ _ (zAllA hl 0)
  show jn75 [ρ 0, ρ 1, ρ 2, ρ 3, ρ 4, ρ 5, ρ 6, ρ 7, ρ 8, ρ 9, ρ 10, ρ 11, ρ 12, ρ 13, ρ 14] (γ 0) 0 [ρ 0, ρ 1, ρ 2, ρ 3, ρ 4, ρ 5, ρ 6, ρ 7, ρ 8, ρ 9, ρ 10, ρ 11, ρ 12, ρ 13, ρ 14, ρ 15 + 1, ρ 16, ρ 36, ρ 18, ρ 32] (γ 6)
  have hD : en75 (γ 0) (0, [ρ 0, ρ 15], γ 1) = .inl (0, [ρ 0, ρ 15 + 1], γ 6) := by
    unfold en75
    refine zIP (show (0 : Nat) = 0 by decide) (zLV (γ 1) rfl (zLV (ρ 0) rfl (zLV (ρ 15) rfl (zLE m2 (zLE m6 (zLE m15 (zLE m16 ?_)))))))
    refine zIN w_0 (zIN w_1 (zIN w_2 (zLE m19 (zIP w_3 (zLE m20 (zLE m21 (zIN w_4 ?_)))))))
    refine zLE m22 (zIP w_5 (zLE m23 (zLE c2.symm (zIN w_6 (zLE m24 (zIP w_7 (zLE m25 ?_)))))))
    refine zLE c3.symm (zIN w_8 (zLE m26 (zIN w_9 (zLE c4.symm (zIN w_10 (zLE m27 (zIN w_11 ?_)))))))
    refine zLE c5.symm (zLE (show fn57 [ρ 7, ρ 0] (γ 5) = (0, 0, γ 6) from l0.symm) (zLV (γ 6) rfl ?_))
    rfl
  exact zGoo_ato hJ hD
theorem vn75a0_73 {S : Nat → zSpc} (hS57 : zIm S 57 sn57) (hS73 : zIm S 73 sn73) {a : List Int} {g : rHp} : ∀ (ρ : Nat → Int) (γ : Nat → rHp), jn75 a g 0 (zAg (zNA a75_ 0) ρ) (γ 1) → zO 15 S a g q75a0_73 ρ γ → zGl (fun i vs g1 => jn75 a g i vs g1) (sn75 a g) q75a0_73 ρ γ := by
  intro ρ γ hJ h
  obtain ⟨ha, hg, hr, hf, hm, hc, hl⟩ := h
  have ha : a = [ρ 0, ρ 1, ρ 2, ρ 3, ρ 4, ρ 5, ρ 6, ρ 7, ρ 8, ρ 9, ρ 10, ρ 11, ρ 12, ρ 13, ρ 14] := ha
  subst ha
  subst hg
  have hJ : jn75 [ρ 0, ρ 1, ρ 2, ρ 3, ρ 4, ρ 5, ρ 6, ρ 7, ρ 8, ρ 9, ρ 10, ρ 11, ρ 12, ρ 13, ρ 14] (γ 0) 0 [ρ 0, ρ 1, ρ 2, ρ 3, ρ 4, ρ 5, ρ 6, ρ 7, ρ 8, ρ 9, ρ 10, ρ 11, ρ 12, ρ 13, ρ 14, ρ 15, ρ 16, ρ 17, ρ 18, ρ 19] (γ 1) := hJ
  have r3 : (3 : Int) ≤ ρ 3 ∧ ρ 3 ≤ 4 := zRnA hr 3
  have r17 : (0 : Int) ≤ ρ 17 ∧ ρ 17 ≤ 0 := zRnA hr 17
  have r20 : (1 : Int) ≤ ρ 20 ∧ ρ 20 ≤ 1 := zRnA hr 20
  have r22 : (2 : Int) ≤ ρ 22 ∧ ρ 22 ≤ 2 := zRnA hr 22
  have r23 : (0 : Int) ≤ ρ 23 ∧ ρ 23 ≤ 2 := zRnA hr 23
  have r25 : (3 : Int) ≤ ρ 25 ∧ ρ 25 ≤ 3 := zRnA hr 25
  have f3 : (0 : Int) ≤ ρ 18 + -ρ 15 + (-1) := zAllA hf 3
  obtain ⟨w_0, w_1, w_2, w_3, w_4, w_5, w_6, w_7, w_8⟩ : (¬ (ρ 15 ≥ ρ 18)) ∧ (¬ (ρ 17 ≠ 0)) ∧ (¬ (ρ 3 ≤ 2)) ∧ (ρ 20 ≠ 0) ∧ (¬ (0 ≥ ρ 22)) ∧ (ρ 23 ≠ 3) ∧ (¬ (1 ≥ ρ 22)) ∧ (¬ (ρ 25 ≠ 3)) ∧ (2 ≥ ρ 22) := ⟨by omega, by omega, by omega, by omega, by omega, by omega, by omega, by omega, by omega⟩
  have m2 : γ 0 71 0 (ρ 0) = ρ 3 := zAllA hm 2
  have m6 : γ 0 69 0 (ρ 0) = ρ 7 := zAllA hm 6
  have m15 : γ 1 15 0 77 = ρ 17 := zAllA hm 15
  have m16 : γ 1 15 0 90 = ρ 18 := zAllA hm 16
  have m19 : γ 1 109 0 (ρ 15) = ρ 20 := zAllA hm 19
  have m20 : γ 1 108 0 (ρ 15) = ρ 21 := zAllA hm 20
  have m21 : γ 0 66 0 (ρ 7) = ρ 22 := zAllA hm 21
  have m22 : γ 0 70 0 (4 * ρ 0) = ρ 23 := zAllA hm 22
  have m23 : γ 1 105 0 (4 * ρ 15) = ρ 24 := zAllA hm 23
  have m24 : γ 0 70 0 (4 * ρ 0 + 1) = ρ 25 := zAllA hm 24
  have m25 : γ 1 105 0 (4 * ρ 15 + 2) = ρ 26 := zAllA hm 25
  have m26 : γ 1 105 0 (4 * ρ 15 + 3) = ρ 27 := zAllA hm 26
  have c2 : γ 2 = rUp (γ 1) 102 0 0 (ρ 24) := And.right (zChA hc 4)
  have c3 : γ 3 = rUp (γ 2) 102 0 1 (ρ 21) := And.right (zChA hc 3)
  have c4 : γ 4 = rUp (γ 3) 102 0 2 (ρ 26) := And.right (zChA hc 2)
  have c5 : γ 5 = rUp (γ 4) 102 0 3 (ρ 27) := And.right (zChA hc 1)
  have l0 : sn57 [ρ 7, ρ 0, ρ 2, ρ 19, ρ 28, ρ 29, ρ 30, ρ 10, ρ 17] (γ 5) 0 0 (γ 6) := hS57 _ _ _ _ _ (zAllA hl 0)
  show jn75 [ρ 0, ρ 1, ρ 2, ρ 3, ρ 4, ρ 5, ρ 6, ρ 7, ρ 8, ρ 9, ρ 10, ρ 11, ρ 12, ρ 13, ρ 14] (γ 0) 0 [ρ 0, ρ 1, ρ 2, ρ 3, ρ 4, ρ 5, ρ 6, ρ 7, ρ 8, ρ 9, ρ 10, ρ 11, ρ 12, ρ 13, ρ 14, ρ 15 + 1, ρ 16, ρ 35, ρ 18, ρ 31] (γ 6)
  have hD : en75 (γ 0) (0, [ρ 0, ρ 15], γ 1) = .inl (0, [ρ 0, ρ 15 + 1], γ 6) := by
    unfold en75
    refine zIP (show (0 : Nat) = 0 by decide) (zLV (γ 1) rfl (zLV (ρ 0) rfl (zLV (ρ 15) rfl (zLE m2 (zLE m6 (zLE m15 (zLE m16 ?_)))))))
    refine zIN w_0 (zIN w_1 (zIN w_2 (zLE m19 (zIP w_3 (zLE m20 (zLE m21 (zIN w_4 ?_)))))))
    refine zLE m22 (zIP w_5 (zLE m23 (zLE c2.symm (zIN w_6 (zLE m24 (zIN w_7 (zLE c3.symm ?_)))))))
    refine zIP w_8 (zLE m25 (zLE c4.symm (zLE m26 (zLE c5.symm (zLE (show fn57 [ρ 7, ρ 0] (γ 5) = (0, 0, γ 6) from l0.symm) (zLV (γ 6) rfl ?_))))))
    rfl
  exact zGoo_ato hJ hD
theorem vn75a0_74 {S : Nat → zSpc} (hS57 : zIm S 57 sn57) (hS73 : zIm S 73 sn73) {a : List Int} {g : rHp} : ∀ (ρ : Nat → Int) (γ : Nat → rHp), jn75 a g 0 (zAg (zNA a75_ 0) ρ) (γ 1) → zO 15 S a g q75a0_74 ρ γ → zGl (fun i vs g1 => jn75 a g i vs g1) (sn75 a g) q75a0_74 ρ γ := by
  intro ρ γ hJ h
  obtain ⟨ha, hg, hr, hf, hm, hc, hl⟩ := h
  have ha : a = [ρ 0, ρ 1, ρ 2, ρ 3, ρ 4, ρ 5, ρ 6, ρ 7, ρ 8, ρ 9, ρ 10, ρ 11, ρ 12, ρ 13, ρ 14] := ha
  subst ha
  subst hg
  have hJ : jn75 [ρ 0, ρ 1, ρ 2, ρ 3, ρ 4, ρ 5, ρ 6, ρ 7, ρ 8, ρ 9, ρ 10, ρ 11, ρ 12, ρ 13, ρ 14] (γ 0) 0 [ρ 0, ρ 1, ρ 2, ρ 3, ρ 4, ρ 5, ρ 6, ρ 7, ρ 8, ρ 9, ρ 10, ρ 11, ρ 12, ρ 13, ρ 14, ρ 15, ρ 16, ρ 17, ρ 18, ρ 19] (γ 1) := hJ
  have r3 : (3 : Int) ≤ ρ 3 ∧ ρ 3 ≤ 4 := zRnA hr 3
  have r17 : (0 : Int) ≤ ρ 17 ∧ ρ 17 ≤ 0 := zRnA hr 17
  have r20 : (1 : Int) ≤ ρ 20 ∧ ρ 20 ≤ 1 := zRnA hr 20
  have r22 : (3 : Int) ≤ ρ 22 ∧ ρ 22 ≤ 3 := zRnA hr 22
  have r23 : (0 : Int) ≤ ρ 23 ∧ ρ 23 ≤ 2 := zRnA hr 23
  have r25 : (3 : Int) ≤ ρ 25 ∧ ρ 25 ≤ 3 := zRnA hr 25
  have r26 : (0 : Int) ≤ ρ 26 ∧ ρ 26 ≤ 2 := zRnA hr 26
  have f3 : (0 : Int) ≤ ρ 18 + -ρ 15 + (-1) := zAllA hf 3
  obtain ⟨w_0, w_1, w_2, w_3, w_4, w_5, w_6, w_7, w_8, w_9, w_10⟩ : (¬ (ρ 15 ≥ ρ 18)) ∧ (¬ (ρ 17 ≠ 0)) ∧ (¬ (ρ 3 ≤ 2)) ∧ (ρ 20 ≠ 0) ∧ (¬ (0 ≥ ρ 22)) ∧ (ρ 23 ≠ 3) ∧ (¬ (1 ≥ ρ 22)) ∧ (¬ (ρ 25 ≠ 3)) ∧ (¬ (2 ≥ ρ 22)) ∧ (ρ 26 ≠ 3) ∧ (3 ≥ ρ 22) := ⟨by omega, by omega, by omega, by omega, by omega, by omega, by omega, by omega, by omega, by omega, by omega⟩
  have m2 : γ 0 71 0 (ρ 0) = ρ 3 := zAllA hm 2
  have m6 : γ 0 69 0 (ρ 0) = ρ 7 := zAllA hm 6
  have m15 : γ 1 15 0 77 = ρ 17 := zAllA hm 15
  have m16 : γ 1 15 0 90 = ρ 18 := zAllA hm 16
  have m19 : γ 1 109 0 (ρ 15) = ρ 20 := zAllA hm 19
  have m20 : γ 1 108 0 (ρ 15) = ρ 21 := zAllA hm 20
  have m21 : γ 0 66 0 (ρ 7) = ρ 22 := zAllA hm 21
  have m22 : γ 0 70 0 (4 * ρ 0) = ρ 23 := zAllA hm 22
  have m23 : γ 1 105 0 (4 * ρ 15) = ρ 24 := zAllA hm 23
  have m24 : γ 0 70 0 (4 * ρ 0 + 1) = ρ 25 := zAllA hm 24
  have m25 : γ 0 70 0 (4 * ρ 0 + 2) = ρ 26 := zAllA hm 25
  have m26 : γ 1 105 0 (4 * ρ 15 + 2) = ρ 27 := zAllA hm 26
  have m27 : γ 1 105 0 (4 * ρ 15 + 3) = ρ 28 := zAllA hm 27
  have c2 : γ 2 = rUp (γ 1) 102 0 0 (ρ 24) := And.right (zChA hc 4)
  have c3 : γ 3 = rUp (γ 2) 102 0 1 (ρ 21) := And.right (zChA hc 3)
  have c4 : γ 4 = rUp (γ 3) 102 0 2 (ρ 27) := And.right (zChA hc 2)
  have c5 : γ 5 = rUp (γ 4) 102 0 3 (ρ 28) := And.right (zChA hc 1)
  have l0 : sn57 [ρ 7, ρ 0, ρ 2, ρ 19, ρ 29, ρ 30, ρ 31, ρ 10, ρ 17] (γ 5) 0 0 (γ 6) := hS57 _ _ _ _ _ (zAllA hl 0)
  show jn75 [ρ 0, ρ 1, ρ 2, ρ 3, ρ 4, ρ 5, ρ 6, ρ 7, ρ 8, ρ 9, ρ 10, ρ 11, ρ 12, ρ 13, ρ 14] (γ 0) 0 [ρ 0, ρ 1, ρ 2, ρ 3, ρ 4, ρ 5, ρ 6, ρ 7, ρ 8, ρ 9, ρ 10, ρ 11, ρ 12, ρ 13, ρ 14, ρ 15 + 1, ρ 16, ρ 36, ρ 18, ρ 32] (γ 6)
  have hD : en75 (γ 0) (0, [ρ 0, ρ 15], γ 1) = .inl (0, [ρ 0, ρ 15 + 1], γ 6) := by
    unfold en75
    refine zIP (show (0 : Nat) = 0 by decide) (zLV (γ 1) rfl (zLV (ρ 0) rfl (zLV (ρ 15) rfl (zLE m2 (zLE m6 (zLE m15 (zLE m16 ?_)))))))
    refine zIN w_0 (zIN w_1 (zIN w_2 (zLE m19 (zIP w_3 (zLE m20 (zLE m21 (zIN w_4 ?_)))))))
    refine zLE m22 (zIP w_5 (zLE m23 (zLE c2.symm (zIN w_6 (zLE m24 (zIN w_7 (zLE c3.symm ?_)))))))
    refine zIN w_8 (zLE m25 (zIP w_9 (zLE m26 (zLE c4.symm (zIP w_10 (zLE m27 (zLE c5.symm ?_)))))))
    refine zLE (show fn57 [ρ 7, ρ 0] (γ 5) = (0, 0, γ 6) from l0.symm) (zLV (γ 6) rfl ?_)
    rfl
  exact zGoo_ato hJ hD
theorem vn75a0_75 {S : Nat → zSpc} (hS57 : zIm S 57 sn57) (hS73 : zIm S 73 sn73) {a : List Int} {g : rHp} : ∀ (ρ : Nat → Int) (γ : Nat → rHp), jn75 a g 0 (zAg (zNA a75_ 0) ρ) (γ 1) → zO 15 S a g q75a0_75 ρ γ → zGl (fun i vs g1 => jn75 a g i vs g1) (sn75 a g) q75a0_75 ρ γ := by
  intro ρ γ hJ h
  obtain ⟨ha, hg, hr, hf, hm, hc, hl⟩ := h
  have ha : a = [ρ 0, ρ 1, ρ 2, ρ 3, ρ 4, ρ 5, ρ 6, ρ 7, ρ 8, ρ 9, ρ 10, ρ 11, ρ 12, ρ 13, ρ 14] := ha
  subst ha
  subst hg
  have hJ : jn75 [ρ 0, ρ 1, ρ 2, ρ 3, ρ 4, ρ 5, ρ 6, ρ 7, ρ 8, ρ 9, ρ 10, ρ 11, ρ 12, ρ 13, ρ 14] (γ 0) 0 [ρ 0, ρ 1, ρ 2, ρ 3, ρ 4, ρ 5, ρ 6, ρ 7, ρ 8, ρ 9, ρ 10, ρ 11, ρ 12, ρ 13, ρ 14, ρ 15, ρ 16, ρ 17, ρ 18, ρ 19] (γ 1) := hJ
  have r3 : (3 : Int) ≤ ρ 3 ∧ ρ 3 ≤ 4 := zRnA hr 3
  have r17 : (0 : Int) ≤ ρ 17 ∧ ρ 17 ≤ 0 := zRnA hr 17
  have r20 : (1 : Int) ≤ ρ 20 ∧ ρ 20 ≤ 1 := zRnA hr 20
  have r22 : (4 : Int) ≤ ρ 22 ∧ ρ 22 ≤ 4 := zRnA hr 22
  have r23 : (0 : Int) ≤ ρ 23 ∧ ρ 23 ≤ 2 := zRnA hr 23
  have r25 : (3 : Int) ≤ ρ 25 ∧ ρ 25 ≤ 3 := zRnA hr 25
  have r26 : (0 : Int) ≤ ρ 26 ∧ ρ 26 ≤ 2 := zRnA hr 26
  have r28 : (0 : Int) ≤ ρ 28 ∧ ρ 28 ≤ 2 := zRnA hr 28
  have f3 : (0 : Int) ≤ ρ 18 + -ρ 15 + (-1) := zAllA hf 3
  obtain ⟨w_0, w_1, w_2, w_3, w_4, w_5, w_6, w_7, w_8, w_9, w_10, w_11⟩ : (¬ (ρ 15 ≥ ρ 18)) ∧ (¬ (ρ 17 ≠ 0)) ∧ (¬ (ρ 3 ≤ 2)) ∧ (ρ 20 ≠ 0) ∧ (¬ (0 ≥ ρ 22)) ∧ (ρ 23 ≠ 3) ∧ (¬ (1 ≥ ρ 22)) ∧ (¬ (ρ 25 ≠ 3)) ∧ (¬ (2 ≥ ρ 22)) ∧ (ρ 26 ≠ 3) ∧ (¬ (3 ≥ ρ 22)) ∧ (ρ 28 ≠ 3) := ⟨by omega, by omega, by omega, by omega, by omega, by omega, by omega, by omega, by omega, by omega, by omega, by omega⟩
  have m2 : γ 0 71 0 (ρ 0) = ρ 3 := zAllA hm 2
  have m6 : γ 0 69 0 (ρ 0) = ρ 7 := zAllA hm 6
  have m15 : γ 1 15 0 77 = ρ 17 := zAllA hm 15
  have m16 : γ 1 15 0 90 = ρ 18 := zAllA hm 16
  have m19 : γ 1 109 0 (ρ 15) = ρ 20 := zAllA hm 19
  have m20 : γ 1 108 0 (ρ 15) = ρ 21 := zAllA hm 20
  have m21 : γ 0 66 0 (ρ 7) = ρ 22 := zAllA hm 21
  have m22 : γ 0 70 0 (4 * ρ 0) = ρ 23 := zAllA hm 22
  have m23 : γ 1 105 0 (4 * ρ 15) = ρ 24 := zAllA hm 23
  have m24 : γ 0 70 0 (4 * ρ 0 + 1) = ρ 25 := zAllA hm 24
  have m25 : γ 0 70 0 (4 * ρ 0 + 2) = ρ 26 := zAllA hm 25
  have m26 : γ 1 105 0 (4 * ρ 15 + 2) = ρ 27 := zAllA hm 26
  have m27 : γ 0 70 0 (4 * ρ 0 + 3) = ρ 28 := zAllA hm 27
  have m28 : γ 1 105 0 (4 * ρ 15 + 3) = ρ 29 := zAllA hm 28
  have c2 : γ 2 = rUp (γ 1) 102 0 0 (ρ 24) := And.right (zChA hc 4)
  have c3 : γ 3 = rUp (γ 2) 102 0 1 (ρ 21) := And.right (zChA hc 3)
  have c4 : γ 4 = rUp (γ 3) 102 0 2 (ρ 27) := And.right (zChA hc 2)
  have c5 : γ 5 = rUp (γ 4) 102 0 3 (ρ 29) := And.right (zChA hc 1)
  have l0 : sn57 [ρ 7, ρ 0, ρ 2, ρ 19, ρ 30, ρ 31, ρ 32, ρ 10, ρ 17] (γ 5) 0 0 (γ 6) := hS57 _ _ _ _ _ (zAllA hl 0)
  show jn75 [ρ 0, ρ 1, ρ 2, ρ 3, ρ 4, ρ 5, ρ 6, ρ 7, ρ 8, ρ 9, ρ 10, ρ 11, ρ 12, ρ 13, ρ 14] (γ 0) 0 [ρ 0, ρ 1, ρ 2, ρ 3, ρ 4, ρ 5, ρ 6, ρ 7, ρ 8, ρ 9, ρ 10, ρ 11, ρ 12, ρ 13, ρ 14, ρ 15 + 1, ρ 16, ρ 37, ρ 18, ρ 33] (γ 6)
  have hD : en75 (γ 0) (0, [ρ 0, ρ 15], γ 1) = .inl (0, [ρ 0, ρ 15 + 1], γ 6) := by
    unfold en75
    refine zIP (show (0 : Nat) = 0 by decide) (zLV (γ 1) rfl (zLV (ρ 0) rfl (zLV (ρ 15) rfl (zLE m2 (zLE m6 (zLE m15 (zLE m16 ?_)))))))
    refine zIN w_0 (zIN w_1 (zIN w_2 (zLE m19 (zIP w_3 (zLE m20 (zLE m21 (zIN w_4 ?_)))))))
    refine zLE m22 (zIP w_5 (zLE m23 (zLE c2.symm (zIN w_6 (zLE m24 (zIN w_7 (zLE c3.symm ?_)))))))
    refine zIN w_8 (zLE m25 (zIP w_9 (zLE m26 (zLE c4.symm (zIN w_10 (zLE m27 (zIP w_11 ?_)))))))
    refine zLE m28 (zLE c5.symm (zLE (show fn57 [ρ 7, ρ 0] (γ 5) = (0, 0, γ 6) from l0.symm) (zLV (γ 6) rfl ?_)))
    rfl
  exact zGoo_ato hJ hD
theorem vn75a0_76 {S : Nat → zSpc} (hS57 : zIm S 57 sn57) (hS73 : zIm S 73 sn73) {a : List Int} {g : rHp} : ∀ (ρ : Nat → Int) (γ : Nat → rHp), jn75 a g 0 (zAg (zNA a75_ 0) ρ) (γ 1) → zO 15 S a g q75a0_76 ρ γ → zGl (fun i vs g1 => jn75 a g i vs g1) (sn75 a g) q75a0_76 ρ γ := by
  intro ρ γ hJ h
  obtain ⟨ha, hg, hr, hf, hm, hc, hl⟩ := h
  have ha : a = [ρ 0, ρ 1, ρ 2, ρ 3, ρ 4, ρ 5, ρ 6, ρ 7, ρ 8, ρ 9, ρ 10, ρ 11, ρ 12, ρ 13, ρ 14] := ha
  subst ha
  subst hg
  have hJ : jn75 [ρ 0, ρ 1, ρ 2, ρ 3, ρ 4, ρ 5, ρ 6, ρ 7, ρ 8, ρ 9, ρ 10, ρ 11, ρ 12, ρ 13, ρ 14] (γ 0) 0 [ρ 0, ρ 1, ρ 2, ρ 3, ρ 4, ρ 5, ρ 6, ρ 7, ρ 8, ρ 9, ρ 10, ρ 11, ρ 12, ρ 13, ρ 14, ρ 15, ρ 16, ρ 17, ρ 18, ρ 19] (γ 1) := hJ
  have r3 : (3 : Int) ≤ ρ 3 ∧ ρ 3 ≤ 4 := zRnA hr 3
  have r17 : (0 : Int) ≤ ρ 17 ∧ ρ 17 ≤ 0 := zRnA hr 17
  have r20 : (1 : Int) ≤ ρ 20 ∧ ρ 20 ≤ 1 := zRnA hr 20
  have r22 : (4 : Int) ≤ ρ 22 ∧ ρ 22 ≤ 4 := zRnA hr 22
  have r23 : (0 : Int) ≤ ρ 23 ∧ ρ 23 ≤ 2 := zRnA hr 23
  have r25 : (3 : Int) ≤ ρ 25 ∧ ρ 25 ≤ 3 := zRnA hr 25
  have r26 : (0 : Int) ≤ ρ 26 ∧ ρ 26 ≤ 2 := zRnA hr 26
  have r28 : (3 : Int) ≤ ρ 28 ∧ ρ 28 ≤ 3 := zRnA hr 28
  have f3 : (0 : Int) ≤ ρ 18 + -ρ 15 + (-1) := zAllA hf 3
  obtain ⟨w_0, w_1, w_2, w_3, w_4, w_5, w_6, w_7, w_8, w_9, w_10, w_11⟩ : (¬ (ρ 15 ≥ ρ 18)) ∧ (¬ (ρ 17 ≠ 0)) ∧ (¬ (ρ 3 ≤ 2)) ∧ (ρ 20 ≠ 0) ∧ (¬ (0 ≥ ρ 22)) ∧ (ρ 23 ≠ 3) ∧ (¬ (1 ≥ ρ 22)) ∧ (¬ (ρ 25 ≠ 3)) ∧ (¬ (2 ≥ ρ 22)) ∧ (ρ 26 ≠ 3) ∧ (¬ (3 ≥ ρ 22)) ∧ (¬ (ρ 28 ≠ 3)) := ⟨by omega, by omega, by omega, by omega, by omega, by omega, by omega, by omega, by omega, by omega, by omega, by omega⟩
  have m2 : γ 0 71 0 (ρ 0) = ρ 3 := zAllA hm 2
  have m6 : γ 0 69 0 (ρ 0) = ρ 7 := zAllA hm 6
  have m15 : γ 1 15 0 77 = ρ 17 := zAllA hm 15
  have m16 : γ 1 15 0 90 = ρ 18 := zAllA hm 16
  have m19 : γ 1 109 0 (ρ 15) = ρ 20 := zAllA hm 19
  have m20 : γ 1 108 0 (ρ 15) = ρ 21 := zAllA hm 20
  have m21 : γ 0 66 0 (ρ 7) = ρ 22 := zAllA hm 21
  have m22 : γ 0 70 0 (4 * ρ 0) = ρ 23 := zAllA hm 22
  have m23 : γ 1 105 0 (4 * ρ 15) = ρ 24 := zAllA hm 23
  have m24 : γ 0 70 0 (4 * ρ 0 + 1) = ρ 25 := zAllA hm 24
  have m25 : γ 0 70 0 (4 * ρ 0 + 2) = ρ 26 := zAllA hm 25
  have m26 : γ 1 105 0 (4 * ρ 15 + 2) = ρ 27 := zAllA hm 26
  have m27 : γ 0 70 0 (4 * ρ 0 + 3) = ρ 28 := zAllA hm 27
  have c2 : γ 2 = rUp (γ 1) 102 0 0 (ρ 24) := And.right (zChA hc 4)
  have c3 : γ 3 = rUp (γ 2) 102 0 1 (ρ 21) := And.right (zChA hc 3)
  have c4 : γ 4 = rUp (γ 3) 102 0 2 (ρ 27) := And.right (zChA hc 2)
  have c5 : γ 5 = rUp (γ 4) 102 0 3 (ρ 21) := And.right (zChA hc 1)
  have l0 : sn57 [ρ 7, ρ 0, ρ 2, ρ 19, ρ 29, ρ 30, ρ 31, ρ 10, ρ 17] (γ 5) 0 0 (γ 6) := hS57 _ _ _ _ _ (zAllA hl 0)
  show jn75 [ρ 0, ρ 1, ρ 2, ρ 3, ρ 4, ρ 5, ρ 6, ρ 7, ρ 8, ρ 9, ρ 10, ρ 11, ρ 12, ρ 13, ρ 14] (γ 0) 0 [ρ 0, ρ 1, ρ 2, ρ 3, ρ 4, ρ 5, ρ 6, ρ 7, ρ 8, ρ 9, ρ 10, ρ 11, ρ 12, ρ 13, ρ 14, ρ 15 + 1, ρ 16, ρ 36, ρ 18, ρ 32] (γ 6)
  have hD : en75 (γ 0) (0, [ρ 0, ρ 15], γ 1) = .inl (0, [ρ 0, ρ 15 + 1], γ 6) := by
    unfold en75
    refine zIP (show (0 : Nat) = 0 by decide) (zLV (γ 1) rfl (zLV (ρ 0) rfl (zLV (ρ 15) rfl (zLE m2 (zLE m6 (zLE m15 (zLE m16 ?_)))))))
    refine zIN w_0 (zIN w_1 (zIN w_2 (zLE m19 (zIP w_3 (zLE m20 (zLE m21 (zIN w_4 ?_)))))))
    refine zLE m22 (zIP w_5 (zLE m23 (zLE c2.symm (zIN w_6 (zLE m24 (zIN w_7 (zLE c3.symm ?_)))))))
    refine zIN w_8 (zLE m25 (zIP w_9 (zLE m26 (zLE c4.symm (zIN w_10 (zLE m27 (zIN w_11 ?_)))))))
    refine zLE c5.symm (zLE (show fn57 [ρ 7, ρ 0] (γ 5) = (0, 0, γ 6) from l0.symm) (zLV (γ 6) rfl ?_))
    rfl
  exact zGoo_ato hJ hD
theorem vn75a0_77 {S : Nat → zSpc} (hS57 : zIm S 57 sn57) (hS73 : zIm S 73 sn73) {a : List Int} {g : rHp} : ∀ (ρ : Nat → Int) (γ : Nat → rHp), jn75 a g 0 (zAg (zNA a75_ 0) ρ) (γ 1) → zO 15 S a g q75a0_77 ρ γ → zGl (fun i vs g1 => jn75 a g i vs g1) (sn75 a g) q75a0_77 ρ γ := by
  intro ρ γ hJ h
  obtain ⟨ha, hg, hr, hf, hm, hc, hl⟩ := h
  have ha : a = [ρ 0, ρ 1, ρ 2, ρ 3, ρ 4, ρ 5, ρ 6, ρ 7, ρ 8, ρ 9, ρ 10, ρ 11, ρ 12, ρ 13, ρ 14] := ha
  subst ha
  subst hg
  have hJ : jn75 [ρ 0, ρ 1, ρ 2, ρ 3, ρ 4, ρ 5, ρ 6, ρ 7, ρ 8, ρ 9, ρ 10, ρ 11, ρ 12, ρ 13, ρ 14] (γ 0) 0 [ρ 0, ρ 1, ρ 2, ρ 3, ρ 4, ρ 5, ρ 6, ρ 7, ρ 8, ρ 9, ρ 10, ρ 11, ρ 12, ρ 13, ρ 14, ρ 15, ρ 16, ρ 17, ρ 18, ρ 19] (γ 1) := hJ
  have r3 : (3 : Int) ≤ ρ 3 ∧ ρ 3 ≤ 4 := zRnA hr 3
  have r17 : (0 : Int) ≤ ρ 17 ∧ ρ 17 ≤ 0 := zRnA hr 17
  have r20 : (1 : Int) ≤ ρ 20 ∧ ρ 20 ≤ 1 := zRnA hr 20
  have r22 : (3 : Int) ≤ ρ 22 ∧ ρ 22 ≤ 3 := zRnA hr 22
  have r23 : (0 : Int) ≤ ρ 23 ∧ ρ 23 ≤ 2 := zRnA hr 23
  have r25 : (3 : Int) ≤ ρ 25 ∧ ρ 25 ≤ 3 := zRnA hr 25
  have r26 : (3 : Int) ≤ ρ 26 ∧ ρ 26 ≤ 3 := zRnA hr 26
  have f3 : (0 : Int) ≤ ρ 18 + -ρ 15 + (-1) := zAllA hf 3
  obtain ⟨w_0, w_1, w_2, w_3, w_4, w_5, w_6, w_7, w_8, w_9, w_10⟩ : (¬ (ρ 15 ≥ ρ 18)) ∧ (¬ (ρ 17 ≠ 0)) ∧ (¬ (ρ 3 ≤ 2)) ∧ (ρ 20 ≠ 0) ∧ (¬ (0 ≥ ρ 22)) ∧ (ρ 23 ≠ 3) ∧ (¬ (1 ≥ ρ 22)) ∧ (¬ (ρ 25 ≠ 3)) ∧ (¬ (2 ≥ ρ 22)) ∧ (¬ (ρ 26 ≠ 3)) ∧ (3 ≥ ρ 22) := ⟨by omega, by omega, by omega, by omega, by omega, by omega, by omega, by omega, by omega, by omega, by omega⟩
  have m2 : γ 0 71 0 (ρ 0) = ρ 3 := zAllA hm 2
  have m6 : γ 0 69 0 (ρ 0) = ρ 7 := zAllA hm 6
  have m15 : γ 1 15 0 77 = ρ 17 := zAllA hm 15
  have m16 : γ 1 15 0 90 = ρ 18 := zAllA hm 16
  have m19 : γ 1 109 0 (ρ 15) = ρ 20 := zAllA hm 19
  have m20 : γ 1 108 0 (ρ 15) = ρ 21 := zAllA hm 20
  have m21 : γ 0 66 0 (ρ 7) = ρ 22 := zAllA hm 21
  have m22 : γ 0 70 0 (4 * ρ 0) = ρ 23 := zAllA hm 22
  have m23 : γ 1 105 0 (4 * ρ 15) = ρ 24 := zAllA hm 23
  have m24 : γ 0 70 0 (4 * ρ 0 + 1) = ρ 25 := zAllA hm 24
  have m25 : γ 0 70 0 (4 * ρ 0 + 2) = ρ 26 := zAllA hm 25
  have m26 : γ 1 105 0 (4 * ρ 15 + 3) = ρ 27 := zAllA hm 26
  have c2 : γ 2 = rUp (γ 1) 102 0 0 (ρ 24) := And.right (zChA hc 4)
  have c3 : γ 3 = rUp (γ 2) 102 0 1 (ρ 21) := And.right (zChA hc 3)
  have c4 : γ 4 = rUp (γ 3) 102 0 2 (ρ 21) := And.right (zChA hc 2)
  have c5 : γ 5 = rUp (γ 4) 102 0 3 (ρ 27) := And.right (zChA hc 1)
  have l0 : sn57 [ρ 7, ρ 0, ρ 2, ρ 19, ρ 28, ρ 29, ρ 30, ρ 10, ρ 17] (γ 5) 0 0 (γ 6) := hS57 _ _ _ _ _ (zAllA hl 0)
  show jn75 [ρ 0, ρ 1, ρ 2, ρ 3, ρ 4, ρ 5, ρ 6, ρ 7, ρ 8, ρ 9, ρ 10, ρ 11, ρ 12, ρ 13, ρ 14] (γ 0) 0 [ρ 0, ρ 1, ρ 2, ρ 3, ρ 4, ρ 5, ρ 6, ρ 7, ρ 8, ρ 9, ρ 10, ρ 11, ρ 12, ρ 13, ρ 14, ρ 15 + 1, ρ 16, ρ 35, ρ 18, ρ 31] (γ 6)
  have hD : en75 (γ 0) (0, [ρ 0, ρ 15], γ 1) = .inl (0, [ρ 0, ρ 15 + 1], γ 6) := by
    unfold en75
    refine zIP (show (0 : Nat) = 0 by decide) (zLV (γ 1) rfl (zLV (ρ 0) rfl (zLV (ρ 15) rfl (zLE m2 (zLE m6 (zLE m15 (zLE m16 ?_)))))))
    refine zIN w_0 (zIN w_1 (zIN w_2 (zLE m19 (zIP w_3 (zLE m20 (zLE m21 (zIN w_4 ?_)))))))
    refine zLE m22 (zIP w_5 (zLE m23 (zLE c2.symm (zIN w_6 (zLE m24 (zIN w_7 (zLE c3.symm ?_)))))))
    refine zIN w_8 (zLE m25 (zIN w_9 (zLE c4.symm (zIP w_10 (zLE m26 (zLE c5.symm (zLE (show fn57 [ρ 7, ρ 0] (γ 5) = (0, 0, γ 6) from l0.symm) ?_)))))))
    refine zLV (γ 6) rfl ?_
    rfl
  exact zGoo_ato hJ hD
theorem vn75a0_78 {S : Nat → zSpc} (hS57 : zIm S 57 sn57) (hS73 : zIm S 73 sn73) {a : List Int} {g : rHp} : ∀ (ρ : Nat → Int) (γ : Nat → rHp), jn75 a g 0 (zAg (zNA a75_ 0) ρ) (γ 1) → zO 15 S a g q75a0_78 ρ γ → zGl (fun i vs g1 => jn75 a g i vs g1) (sn75 a g) q75a0_78 ρ γ := by
  intro ρ γ hJ h
  obtain ⟨ha, hg, hr, hf, hm, hc, hl⟩ := h
  have ha : a = [ρ 0, ρ 1, ρ 2, ρ 3, ρ 4, ρ 5, ρ 6, ρ 7, ρ 8, ρ 9, ρ 10, ρ 11, ρ 12, ρ 13, ρ 14] := ha
  subst ha
  subst hg
  have hJ : jn75 [ρ 0, ρ 1, ρ 2, ρ 3, ρ 4, ρ 5, ρ 6, ρ 7, ρ 8, ρ 9, ρ 10, ρ 11, ρ 12, ρ 13, ρ 14] (γ 0) 0 [ρ 0, ρ 1, ρ 2, ρ 3, ρ 4, ρ 5, ρ 6, ρ 7, ρ 8, ρ 9, ρ 10, ρ 11, ρ 12, ρ 13, ρ 14, ρ 15, ρ 16, ρ 17, ρ 18, ρ 19] (γ 1) := hJ
  have r3 : (3 : Int) ≤ ρ 3 ∧ ρ 3 ≤ 4 := zRnA hr 3
  have r17 : (0 : Int) ≤ ρ 17 ∧ ρ 17 ≤ 0 := zRnA hr 17
  have r20 : (1 : Int) ≤ ρ 20 ∧ ρ 20 ≤ 1 := zRnA hr 20
  have r22 : (4 : Int) ≤ ρ 22 ∧ ρ 22 ≤ 4 := zRnA hr 22
  have r23 : (0 : Int) ≤ ρ 23 ∧ ρ 23 ≤ 2 := zRnA hr 23
  have r25 : (3 : Int) ≤ ρ 25 ∧ ρ 25 ≤ 3 := zRnA hr 25
  have r26 : (3 : Int) ≤ ρ 26 ∧ ρ 26 ≤ 3 := zRnA hr 26
  have r27 : (0 : Int) ≤ ρ 27 ∧ ρ 27 ≤ 2 := zRnA hr 27
  have f3 : (0 : Int) ≤ ρ 18 + -ρ 15 + (-1) := zAllA hf 3
  obtain ⟨w_0, w_1, w_2, w_3, w_4, w_5, w_6, w_7, w_8, w_9, w_10, w_11⟩ : (¬ (ρ 15 ≥ ρ 18)) ∧ (¬ (ρ 17 ≠ 0)) ∧ (¬ (ρ 3 ≤ 2)) ∧ (ρ 20 ≠ 0) ∧ (¬ (0 ≥ ρ 22)) ∧ (ρ 23 ≠ 3) ∧ (¬ (1 ≥ ρ 22)) ∧ (¬ (ρ 25 ≠ 3)) ∧ (¬ (2 ≥ ρ 22)) ∧ (¬ (ρ 26 ≠ 3)) ∧ (¬ (3 ≥ ρ 22)) ∧ (ρ 27 ≠ 3) := ⟨by omega, by omega, by omega, by omega, by omega, by omega, by omega, by omega, by omega, by omega, by omega, by omega⟩
  have m2 : γ 0 71 0 (ρ 0) = ρ 3 := zAllA hm 2
  have m6 : γ 0 69 0 (ρ 0) = ρ 7 := zAllA hm 6
  have m15 : γ 1 15 0 77 = ρ 17 := zAllA hm 15
  have m16 : γ 1 15 0 90 = ρ 18 := zAllA hm 16
  have m19 : γ 1 109 0 (ρ 15) = ρ 20 := zAllA hm 19
  have m20 : γ 1 108 0 (ρ 15) = ρ 21 := zAllA hm 20
  have m21 : γ 0 66 0 (ρ 7) = ρ 22 := zAllA hm 21
  have m22 : γ 0 70 0 (4 * ρ 0) = ρ 23 := zAllA hm 22
  have m23 : γ 1 105 0 (4 * ρ 15) = ρ 24 := zAllA hm 23
  have m24 : γ 0 70 0 (4 * ρ 0 + 1) = ρ 25 := zAllA hm 24
  have m25 : γ 0 70 0 (4 * ρ 0 + 2) = ρ 26 := zAllA hm 25
  have m26 : γ 0 70 0 (4 * ρ 0 + 3) = ρ 27 := zAllA hm 26
  have m27 : γ 1 105 0 (4 * ρ 15 + 3) = ρ 28 := zAllA hm 27
  have c2 : γ 2 = rUp (γ 1) 102 0 0 (ρ 24) := And.right (zChA hc 4)
  have c3 : γ 3 = rUp (γ 2) 102 0 1 (ρ 21) := And.right (zChA hc 3)
  have c4 : γ 4 = rUp (γ 3) 102 0 2 (ρ 21) := And.right (zChA hc 2)
  have c5 : γ 5 = rUp (γ 4) 102 0 3 (ρ 28) := And.right (zChA hc 1)
  have l0 : sn57 [ρ 7, ρ 0, ρ 2, ρ 19, ρ 29, ρ 30, ρ 31, ρ 10, ρ 17] (γ 5) 0 0 (γ 6) := hS57 _ _ _ _ _ (zAllA hl 0)
  show jn75 [ρ 0, ρ 1, ρ 2, ρ 3, ρ 4, ρ 5, ρ 6, ρ 7, ρ 8, ρ 9, ρ 10, ρ 11, ρ 12, ρ 13, ρ 14] (γ 0) 0 [ρ 0, ρ 1, ρ 2, ρ 3, ρ 4, ρ 5, ρ 6, ρ 7, ρ 8, ρ 9, ρ 10, ρ 11, ρ 12, ρ 13, ρ 14, ρ 15 + 1, ρ 16, ρ 36, ρ 18, ρ 32] (γ 6)
  have hD : en75 (γ 0) (0, [ρ 0, ρ 15], γ 1) = .inl (0, [ρ 0, ρ 15 + 1], γ 6) := by
    unfold en75
    refine zIP (show (0 : Nat) = 0 by decide) (zLV (γ 1) rfl (zLV (ρ 0) rfl (zLV (ρ 15) rfl (zLE m2 (zLE m6 (zLE m15 (zLE m16 ?_)))))))
    refine zIN w_0 (zIN w_1 (zIN w_2 (zLE m19 (zIP w_3 (zLE m20 (zLE m21 (zIN w_4 ?_)))))))
    refine zLE m22 (zIP w_5 (zLE m23 (zLE c2.symm (zIN w_6 (zLE m24 (zIN w_7 (zLE c3.symm ?_)))))))
    refine zIN w_8 (zLE m25 (zIN w_9 (zLE c4.symm (zIN w_10 (zLE m26 (zIP w_11 (zLE m27 ?_)))))))
    refine zLE c5.symm (zLE (show fn57 [ρ 7, ρ 0] (γ 5) = (0, 0, γ 6) from l0.symm) (zLV (γ 6) rfl ?_))
    rfl
  exact zGoo_ato hJ hD
theorem vn75a0_79 {S : Nat → zSpc} (hS57 : zIm S 57 sn57) (hS73 : zIm S 73 sn73) {a : List Int} {g : rHp} : ∀ (ρ : Nat → Int) (γ : Nat → rHp), jn75 a g 0 (zAg (zNA a75_ 0) ρ) (γ 1) → zO 15 S a g q75a0_79 ρ γ → zGl (fun i vs g1 => jn75 a g i vs g1) (sn75 a g) q75a0_79 ρ γ := by
  intro ρ γ hJ h
  obtain ⟨ha, hg, hr, hf, hm, hc, hl⟩ := h
  have ha : a = [ρ 0, ρ 1, ρ 2, ρ 3, ρ 4, ρ 5, ρ 6, ρ 7, ρ 8, ρ 9, ρ 10, ρ 11, ρ 12, ρ 13, ρ 14] := ha
  subst ha
  subst hg
  have hJ : jn75 [ρ 0, ρ 1, ρ 2, ρ 3, ρ 4, ρ 5, ρ 6, ρ 7, ρ 8, ρ 9, ρ 10, ρ 11, ρ 12, ρ 13, ρ 14] (γ 0) 0 [ρ 0, ρ 1, ρ 2, ρ 3, ρ 4, ρ 5, ρ 6, ρ 7, ρ 8, ρ 9, ρ 10, ρ 11, ρ 12, ρ 13, ρ 14, ρ 15, ρ 16, ρ 17, ρ 18, ρ 19] (γ 1) := hJ
  have r3 : (3 : Int) ≤ ρ 3 ∧ ρ 3 ≤ 4 := zRnA hr 3
  have r17 : (0 : Int) ≤ ρ 17 ∧ ρ 17 ≤ 0 := zRnA hr 17
  have r20 : (1 : Int) ≤ ρ 20 ∧ ρ 20 ≤ 1 := zRnA hr 20
  have r22 : (4 : Int) ≤ ρ 22 ∧ ρ 22 ≤ 4 := zRnA hr 22
  have r23 : (0 : Int) ≤ ρ 23 ∧ ρ 23 ≤ 2 := zRnA hr 23
  have r25 : (3 : Int) ≤ ρ 25 ∧ ρ 25 ≤ 3 := zRnA hr 25
  have r26 : (3 : Int) ≤ ρ 26 ∧ ρ 26 ≤ 3 := zRnA hr 26
  have r27 : (3 : Int) ≤ ρ 27 ∧ ρ 27 ≤ 3 := zRnA hr 27
  have f3 : (0 : Int) ≤ ρ 18 + -ρ 15 + (-1) := zAllA hf 3
  obtain ⟨w_0, w_1, w_2, w_3, w_4, w_5, w_6, w_7, w_8, w_9, w_10, w_11⟩ : (¬ (ρ 15 ≥ ρ 18)) ∧ (¬ (ρ 17 ≠ 0)) ∧ (¬ (ρ 3 ≤ 2)) ∧ (ρ 20 ≠ 0) ∧ (¬ (0 ≥ ρ 22)) ∧ (ρ 23 ≠ 3) ∧ (¬ (1 ≥ ρ 22)) ∧ (¬ (ρ 25 ≠ 3)) ∧ (¬ (2 ≥ ρ 22)) ∧ (¬ (ρ 26 ≠ 3)) ∧ (¬ (3 ≥ ρ 22)) ∧ (¬ (ρ 27 ≠ 3)) := ⟨by omega, by omega, by omega, by omega, by omega, by omega, by omega, by omega, by omega, by omega, by omega, by omega⟩
  have m2 : γ 0 71 0 (ρ 0) = ρ 3 := zAllA hm 2
  have m6 : γ 0 69 0 (ρ 0) = ρ 7 := zAllA hm 6
  have m15 : γ 1 15 0 77 = ρ 17 := zAllA hm 15
  have m16 : γ 1 15 0 90 = ρ 18 := zAllA hm 16
  have m19 : γ 1 109 0 (ρ 15) = ρ 20 := zAllA hm 19
  have m20 : γ 1 108 0 (ρ 15) = ρ 21 := zAllA hm 20
  have m21 : γ 0 66 0 (ρ 7) = ρ 22 := zAllA hm 21
  have m22 : γ 0 70 0 (4 * ρ 0) = ρ 23 := zAllA hm 22
  have m23 : γ 1 105 0 (4 * ρ 15) = ρ 24 := zAllA hm 23
  have m24 : γ 0 70 0 (4 * ρ 0 + 1) = ρ 25 := zAllA hm 24
  have m25 : γ 0 70 0 (4 * ρ 0 + 2) = ρ 26 := zAllA hm 25
  have m26 : γ 0 70 0 (4 * ρ 0 + 3) = ρ 27 := zAllA hm 26
  have c2 : γ 2 = rUp (γ 1) 102 0 0 (ρ 24) := And.right (zChA hc 4)
  have c3 : γ 3 = rUp (γ 2) 102 0 1 (ρ 21) := And.right (zChA hc 3)
  have c4 : γ 4 = rUp (γ 3) 102 0 2 (ρ 21) := And.right (zChA hc 2)
  have c5 : γ 5 = rUp (γ 4) 102 0 3 (ρ 21) := And.right (zChA hc 1)
  have l0 : sn57 [ρ 7, ρ 0, ρ 2, ρ 19, ρ 28, ρ 29, ρ 30, ρ 10, ρ 17] (γ 5) 0 0 (γ 6) := hS57 _ _ _ _ _ (zAllA hl 0)
  show jn75 [ρ 0, ρ 1, ρ 2, ρ 3, ρ 4, ρ 5, ρ 6, ρ 7, ρ 8, ρ 9, ρ 10, ρ 11, ρ 12, ρ 13, ρ 14] (γ 0) 0 [ρ 0, ρ 1, ρ 2, ρ 3, ρ 4, ρ 5, ρ 6, ρ 7, ρ 8, ρ 9, ρ 10, ρ 11, ρ 12, ρ 13, ρ 14, ρ 15 + 1, ρ 16, ρ 35, ρ 18, ρ 31] (γ 6)
  have hD : en75 (γ 0) (0, [ρ 0, ρ 15], γ 1) = .inl (0, [ρ 0, ρ 15 + 1], γ 6) := by
    unfold en75
    refine zIP (show (0 : Nat) = 0 by decide) (zLV (γ 1) rfl (zLV (ρ 0) rfl (zLV (ρ 15) rfl (zLE m2 (zLE m6 (zLE m15 (zLE m16 ?_)))))))
    refine zIN w_0 (zIN w_1 (zIN w_2 (zLE m19 (zIP w_3 (zLE m20 (zLE m21 (zIN w_4 ?_)))))))
    refine zLE m22 (zIP w_5 (zLE m23 (zLE c2.symm (zIN w_6 (zLE m24 (zIN w_7 (zLE c3.symm ?_)))))))
    refine zIN w_8 (zLE m25 (zIN w_9 (zLE c4.symm (zIN w_10 (zLE m26 (zIN w_11 (zLE c5.symm ?_)))))))
    refine zLE (show fn57 [ρ 7, ρ 0] (γ 5) = (0, 0, γ 6) from l0.symm) (zLV (γ 6) rfl ?_)
    rfl
  exact zGoo_ato hJ hD
theorem vn75a0_80 {S : Nat → zSpc} (hS57 : zIm S 57 sn57) (hS73 : zIm S 73 sn73) {a : List Int} {g : rHp} : ∀ (ρ : Nat → Int) (γ : Nat → rHp), jn75 a g 0 (zAg (zNA a75_ 0) ρ) (γ 1) → zO 15 S a g q75a0_80 ρ γ → zGl (fun i vs g1 => jn75 a g i vs g1) (sn75 a g) q75a0_80 ρ γ := by
  intro ρ γ hJ h
  obtain ⟨ha, hg, hr, hf, hm, hc, hl⟩ := h
  have ha : a = [ρ 0, ρ 1, ρ 2, ρ 3, ρ 4, ρ 5, ρ 6, ρ 7, ρ 8, ρ 9, ρ 10, ρ 11, ρ 12, ρ 13, ρ 14] := ha
  subst ha
  subst hg
  have hJ : jn75 [ρ 0, ρ 1, ρ 2, ρ 3, ρ 4, ρ 5, ρ 6, ρ 7, ρ 8, ρ 9, ρ 10, ρ 11, ρ 12, ρ 13, ρ 14] (γ 0) 0 [ρ 0, ρ 1, ρ 2, ρ 3, ρ 4, ρ 5, ρ 6, ρ 7, ρ 8, ρ 9, ρ 10, ρ 11, ρ 12, ρ 13, ρ 14, ρ 15, ρ 16, ρ 17, ρ 18, ρ 19] (γ 1) := hJ
  have r3 : (3 : Int) ≤ ρ 3 ∧ ρ 3 ≤ 4 := zRnA hr 3
  have r17 : (0 : Int) ≤ ρ 17 ∧ ρ 17 ≤ 0 := zRnA hr 17
  have r20 : (1 : Int) ≤ ρ 20 ∧ ρ 20 ≤ 1 := zRnA hr 20
  have r22 : (1 : Int) ≤ ρ 22 ∧ ρ 22 ≤ 1 := zRnA hr 22
  have r23 : (3 : Int) ≤ ρ 23 ∧ ρ 23 ≤ 3 := zRnA hr 23
  have f3 : (0 : Int) ≤ ρ 18 + -ρ 15 + (-1) := zAllA hf 3
  obtain ⟨w_0, w_1, w_2, w_3, w_4, w_5, w_6⟩ : (¬ (ρ 15 ≥ ρ 18)) ∧ (¬ (ρ 17 ≠ 0)) ∧ (¬ (ρ 3 ≤ 2)) ∧ (ρ 20 ≠ 0) ∧ (¬ (0 ≥ ρ 22)) ∧ (¬ (ρ 23 ≠ 3)) ∧ (1 ≥ ρ 22) := ⟨by omega, by omega, by omega, by omega, by omega, by omega, by omega⟩
  have m2 : γ 0 71 0 (ρ 0) = ρ 3 := zAllA hm 2
  have m6 : γ 0 69 0 (ρ 0) = ρ 7 := zAllA hm 6
  have m15 : γ 1 15 0 77 = ρ 17 := zAllA hm 15
  have m16 : γ 1 15 0 90 = ρ 18 := zAllA hm 16
  have m19 : γ 1 109 0 (ρ 15) = ρ 20 := zAllA hm 19
  have m20 : γ 1 108 0 (ρ 15) = ρ 21 := zAllA hm 20
  have m21 : γ 0 66 0 (ρ 7) = ρ 22 := zAllA hm 21
  have m22 : γ 0 70 0 (4 * ρ 0) = ρ 23 := zAllA hm 22
  have m23 : γ 1 105 0 (4 * ρ 15 + 1) = ρ 24 := zAllA hm 23
  have m24 : γ 1 105 0 (4 * ρ 15 + 2) = ρ 25 := zAllA hm 24
  have m25 : γ 1 105 0 (4 * ρ 15 + 3) = ρ 26 := zAllA hm 25
  have c2 : γ 2 = rUp (γ 1) 102 0 0 (ρ 21) := And.right (zChA hc 4)
  have c3 : γ 3 = rUp (γ 2) 102 0 1 (ρ 24) := And.right (zChA hc 3)
  have c4 : γ 4 = rUp (γ 3) 102 0 2 (ρ 25) := And.right (zChA hc 2)
  have c5 : γ 5 = rUp (γ 4) 102 0 3 (ρ 26) := And.right (zChA hc 1)
  have l0 : sn57 [ρ 7, ρ 0, ρ 2, ρ 19, ρ 27, ρ 28, ρ 29, ρ 10, ρ 17] (γ 5) 0 0 (γ 6) := hS57 _ _ _ _ _ (zAllA hl 0)
  show jn75 [ρ 0, ρ 1, ρ 2, ρ 3, ρ 4, ρ 5, ρ 6, ρ 7, ρ 8, ρ 9, ρ 10, ρ 11, ρ 12, ρ 13, ρ 14] (γ 0) 0 [ρ 0, ρ 1, ρ 2, ρ 3, ρ 4, ρ 5, ρ 6, ρ 7, ρ 8, ρ 9, ρ 10, ρ 11, ρ 12, ρ 13, ρ 14, ρ 15 + 1, ρ 16, ρ 34, ρ 18, ρ 30] (γ 6)
  have hD : en75 (γ 0) (0, [ρ 0, ρ 15], γ 1) = .inl (0, [ρ 0, ρ 15 + 1], γ 6) := by
    unfold en75
    refine zIP (show (0 : Nat) = 0 by decide) (zLV (γ 1) rfl (zLV (ρ 0) rfl (zLV (ρ 15) rfl (zLE m2 (zLE m6 (zLE m15 (zLE m16 ?_)))))))
    refine zIN w_0 (zIN w_1 (zIN w_2 (zLE m19 (zIP w_3 (zLE m20 (zLE m21 (zIN w_4 ?_)))))))
    refine zLE m22 (zIN w_5 (zLE c2.symm (zIP w_6 (zLE m23 (zLE c3.symm (zLE m24 (zLE c4.symm ?_)))))))
    refine zLE m25 (zLE c5.symm (zLE (show fn57 [ρ 7, ρ 0] (γ 5) = (0, 0, γ 6) from l0.symm) (zLV (γ 6) rfl ?_)))
    rfl
  exact zGoo_ato hJ hD
theorem vn75a0_81 {S : Nat → zSpc} (hS57 : zIm S 57 sn57) (hS73 : zIm S 73 sn73) {a : List Int} {g : rHp} : ∀ (ρ : Nat → Int) (γ : Nat → rHp), jn75 a g 0 (zAg (zNA a75_ 0) ρ) (γ 1) → zO 15 S a g q75a0_81 ρ γ → zGl (fun i vs g1 => jn75 a g i vs g1) (sn75 a g) q75a0_81 ρ γ := by
  intro ρ γ hJ h
  obtain ⟨ha, hg, hr, hf, hm, hc, hl⟩ := h
  have ha : a = [ρ 0, ρ 1, ρ 2, ρ 3, ρ 4, ρ 5, ρ 6, ρ 7, ρ 8, ρ 9, ρ 10, ρ 11, ρ 12, ρ 13, ρ 14] := ha
  subst ha
  subst hg
  have hJ : jn75 [ρ 0, ρ 1, ρ 2, ρ 3, ρ 4, ρ 5, ρ 6, ρ 7, ρ 8, ρ 9, ρ 10, ρ 11, ρ 12, ρ 13, ρ 14] (γ 0) 0 [ρ 0, ρ 1, ρ 2, ρ 3, ρ 4, ρ 5, ρ 6, ρ 7, ρ 8, ρ 9, ρ 10, ρ 11, ρ 12, ρ 13, ρ 14, ρ 15, ρ 16, ρ 17, ρ 18, ρ 19] (γ 1) := hJ
  have r3 : (3 : Int) ≤ ρ 3 ∧ ρ 3 ≤ 4 := zRnA hr 3
  have r17 : (0 : Int) ≤ ρ 17 ∧ ρ 17 ≤ 0 := zRnA hr 17
  have r20 : (1 : Int) ≤ ρ 20 ∧ ρ 20 ≤ 1 := zRnA hr 20
  have r22 : (2 : Int) ≤ ρ 22 ∧ ρ 22 ≤ 2 := zRnA hr 22
  have r23 : (3 : Int) ≤ ρ 23 ∧ ρ 23 ≤ 3 := zRnA hr 23
  have r24 : (0 : Int) ≤ ρ 24 ∧ ρ 24 ≤ 2 := zRnA hr 24
  have f3 : (0 : Int) ≤ ρ 18 + -ρ 15 + (-1) := zAllA hf 3
  obtain ⟨w_0, w_1, w_2, w_3, w_4, w_5, w_6, w_7, w_8⟩ : (¬ (ρ 15 ≥ ρ 18)) ∧ (¬ (ρ 17 ≠ 0)) ∧ (¬ (ρ 3 ≤ 2)) ∧ (ρ 20 ≠ 0) ∧ (¬ (0 ≥ ρ 22)) ∧ (¬ (ρ 23 ≠ 3)) ∧ (¬ (1 ≥ ρ 22)) ∧ (ρ 24 ≠ 3) ∧ (2 ≥ ρ 22) := ⟨by omega, by omega, by omega, by omega, by omega, by omega, by omega, by omega, by omega⟩
  have m2 : γ 0 71 0 (ρ 0) = ρ 3 := zAllA hm 2
  have m6 : γ 0 69 0 (ρ 0) = ρ 7 := zAllA hm 6
  have m15 : γ 1 15 0 77 = ρ 17 := zAllA hm 15
  have m16 : γ 1 15 0 90 = ρ 18 := zAllA hm 16
  have m19 : γ 1 109 0 (ρ 15) = ρ 20 := zAllA hm 19
  have m20 : γ 1 108 0 (ρ 15) = ρ 21 := zAllA hm 20
  have m21 : γ 0 66 0 (ρ 7) = ρ 22 := zAllA hm 21
  have m22 : γ 0 70 0 (4 * ρ 0) = ρ 23 := zAllA hm 22
  have m23 : γ 0 70 0 (4 * ρ 0 + 1) = ρ 24 := zAllA hm 23
  have m24 : γ 1 105 0 (4 * ρ 15 + 1) = ρ 25 := zAllA hm 24
  have m25 : γ 1 105 0 (4 * ρ 15 + 2) = ρ 26 := zAllA hm 25
  have m26 : γ 1 105 0 (4 * ρ 15 + 3) = ρ 27 := zAllA hm 26
  have c2 : γ 2 = rUp (γ 1) 102 0 0 (ρ 21) := And.right (zChA hc 4)
  have c3 : γ 3 = rUp (γ 2) 102 0 1 (ρ 25) := And.right (zChA hc 3)
  have c4 : γ 4 = rUp (γ 3) 102 0 2 (ρ 26) := And.right (zChA hc 2)
  have c5 : γ 5 = rUp (γ 4) 102 0 3 (ρ 27) := And.right (zChA hc 1)
  have l0 : sn57 [ρ 7, ρ 0, ρ 2, ρ 19, ρ 28, ρ 29, ρ 30, ρ 10, ρ 17] (γ 5) 0 0 (γ 6) := hS57 _ _ _ _ _ (zAllA hl 0)
  show jn75 [ρ 0, ρ 1, ρ 2, ρ 3, ρ 4, ρ 5, ρ 6, ρ 7, ρ 8, ρ 9, ρ 10, ρ 11, ρ 12, ρ 13, ρ 14] (γ 0) 0 [ρ 0, ρ 1, ρ 2, ρ 3, ρ 4, ρ 5, ρ 6, ρ 7, ρ 8, ρ 9, ρ 10, ρ 11, ρ 12, ρ 13, ρ 14, ρ 15 + 1, ρ 16, ρ 35, ρ 18, ρ 31] (γ 6)
  have hD : en75 (γ 0) (0, [ρ 0, ρ 15], γ 1) = .inl (0, [ρ 0, ρ 15 + 1], γ 6) := by
    unfold en75
    refine zIP (show (0 : Nat) = 0 by decide) (zLV (γ 1) rfl (zLV (ρ 0) rfl (zLV (ρ 15) rfl (zLE m2 (zLE m6 (zLE m15 (zLE m16 ?_)))))))
    refine zIN w_0 (zIN w_1 (zIN w_2 (zLE m19 (zIP w_3 (zLE m20 (zLE m21 (zIN w_4 ?_)))))))
    refine zLE m22 (zIN w_5 (zLE c2.symm (zIN w_6 (zLE m23 (zIP w_7 (zLE m24 (zLE c3.symm ?_)))))))
    refine zIP w_8 (zLE m25 (zLE c4.symm (zLE m26 (zLE c5.symm (zLE (show fn57 [ρ 7, ρ 0] (γ 5) = (0, 0, γ 6) from l0.symm) (zLV (γ 6) rfl ?_))))))
    rfl
  exact zGoo_ato hJ hD
theorem vn75a0_82 {S : Nat → zSpc} (hS57 : zIm S 57 sn57) (hS73 : zIm S 73 sn73) {a : List Int} {g : rHp} : ∀ (ρ : Nat → Int) (γ : Nat → rHp), jn75 a g 0 (zAg (zNA a75_ 0) ρ) (γ 1) → zO 15 S a g q75a0_82 ρ γ → zGl (fun i vs g1 => jn75 a g i vs g1) (sn75 a g) q75a0_82 ρ γ := by
  intro ρ γ hJ h
  obtain ⟨ha, hg, hr, hf, hm, hc, hl⟩ := h
  have ha : a = [ρ 0, ρ 1, ρ 2, ρ 3, ρ 4, ρ 5, ρ 6, ρ 7, ρ 8, ρ 9, ρ 10, ρ 11, ρ 12, ρ 13, ρ 14] := ha
  subst ha
  subst hg
  have hJ : jn75 [ρ 0, ρ 1, ρ 2, ρ 3, ρ 4, ρ 5, ρ 6, ρ 7, ρ 8, ρ 9, ρ 10, ρ 11, ρ 12, ρ 13, ρ 14] (γ 0) 0 [ρ 0, ρ 1, ρ 2, ρ 3, ρ 4, ρ 5, ρ 6, ρ 7, ρ 8, ρ 9, ρ 10, ρ 11, ρ 12, ρ 13, ρ 14, ρ 15, ρ 16, ρ 17, ρ 18, ρ 19] (γ 1) := hJ
  have r3 : (3 : Int) ≤ ρ 3 ∧ ρ 3 ≤ 4 := zRnA hr 3
  have r17 : (0 : Int) ≤ ρ 17 ∧ ρ 17 ≤ 0 := zRnA hr 17
  have r20 : (1 : Int) ≤ ρ 20 ∧ ρ 20 ≤ 1 := zRnA hr 20
  have r22 : (3 : Int) ≤ ρ 22 ∧ ρ 22 ≤ 3 := zRnA hr 22
  have r23 : (3 : Int) ≤ ρ 23 ∧ ρ 23 ≤ 3 := zRnA hr 23
  have r24 : (0 : Int) ≤ ρ 24 ∧ ρ 24 ≤ 2 := zRnA hr 24
  have r26 : (0 : Int) ≤ ρ 26 ∧ ρ 26 ≤ 2 := zRnA hr 26
  have f3 : (0 : Int) ≤ ρ 18 + -ρ 15 + (-1) := zAllA hf 3
  obtain ⟨w_0, w_1, w_2, w_3, w_4, w_5, w_6, w_7, w_8, w_9, w_10⟩ : (¬ (ρ 15 ≥ ρ 18)) ∧ (¬ (ρ 17 ≠ 0)) ∧ (¬ (ρ 3 ≤ 2)) ∧ (ρ 20 ≠ 0) ∧ (¬ (0 ≥ ρ 22)) ∧ (¬ (ρ 23 ≠ 3)) ∧ (¬ (1 ≥ ρ 22)) ∧ (ρ 24 ≠ 3) ∧ (¬ (2 ≥ ρ 22)) ∧ (ρ 26 ≠ 3) ∧ (3 ≥ ρ 22) := ⟨by omega, by omega, by omega, by omega, by omega, by omega, by omega, by omega, by omega, by omega, by omega⟩
  have m2 : γ 0 71 0 (ρ 0) = ρ 3 := zAllA hm 2
  have m6 : γ 0 69 0 (ρ 0) = ρ 7 := zAllA hm 6
  have m15 : γ 1 15 0 77 = ρ 17 := zAllA hm 15
  have m16 : γ 1 15 0 90 = ρ 18 := zAllA hm 16
  have m19 : γ 1 109 0 (ρ 15) = ρ 20 := zAllA hm 19
  have m20 : γ 1 108 0 (ρ 15) = ρ 21 := zAllA hm 20
  have m21 : γ 0 66 0 (ρ 7) = ρ 22 := zAllA hm 21
  have m22 : γ 0 70 0 (4 * ρ 0) = ρ 23 := zAllA hm 22
  have m23 : γ 0 70 0 (4 * ρ 0 + 1) = ρ 24 := zAllA hm 23
  have m24 : γ 1 105 0 (4 * ρ 15 + 1) = ρ 25 := zAllA hm 24
  have m25 : γ 0 70 0 (4 * ρ 0 + 2) = ρ 26 := zAllA hm 25
  have m26 : γ 1 105 0 (4 * ρ 15 + 2) = ρ 27 := zAllA hm 26
  have m27 : γ 1 105 0 (4 * ρ 15 + 3) = ρ 28 := zAllA hm 27
  have c2 : γ 2 = rUp (γ 1) 102 0 0 (ρ 21) := And.right (zChA hc 4)
  have c3 : γ 3 = rUp (γ 2) 102 0 1 (ρ 25) := And.right (zChA hc 3)
  have c4 : γ 4 = rUp (γ 3) 102 0 2 (ρ 27) := And.right (zChA hc 2)
  have c5 : γ 5 = rUp (γ 4) 102 0 3 (ρ 28) := And.right (zChA hc 1)
  have l0 : sn57 [ρ 7, ρ 0, ρ 2, ρ 19, ρ 29, ρ 30, ρ 31, ρ 10, ρ 17] (γ 5) 0 0 (γ 6) := hS57 _ _ _ _ _ (zAllA hl 0)
  show jn75 [ρ 0, ρ 1, ρ 2, ρ 3, ρ 4, ρ 5, ρ 6, ρ 7, ρ 8, ρ 9, ρ 10, ρ 11, ρ 12, ρ 13, ρ 14] (γ 0) 0 [ρ 0, ρ 1, ρ 2, ρ 3, ρ 4, ρ 5, ρ 6, ρ 7, ρ 8, ρ 9, ρ 10, ρ 11, ρ 12, ρ 13, ρ 14, ρ 15 + 1, ρ 16, ρ 36, ρ 18, ρ 32] (γ 6)
  have hD : en75 (γ 0) (0, [ρ 0, ρ 15], γ 1) = .inl (0, [ρ 0, ρ 15 + 1], γ 6) := by
    unfold en75
    refine zIP (show (0 : Nat) = 0 by decide) (zLV (γ 1) rfl (zLV (ρ 0) rfl (zLV (ρ 15) rfl (zLE m2 (zLE m6 (zLE m15 (zLE m16 ?_)))))))
    refine zIN w_0 (zIN w_1 (zIN w_2 (zLE m19 (zIP w_3 (zLE m20 (zLE m21 (zIN w_4 ?_)))))))
    refine zLE m22 (zIN w_5 (zLE c2.symm (zIN w_6 (zLE m23 (zIP w_7 (zLE m24 (zLE c3.symm ?_)))))))
    refine zIN w_8 (zLE m25 (zIP w_9 (zLE m26 (zLE c4.symm (zIP w_10 (zLE m27 (zLE c5.symm ?_)))))))
    refine zLE (show fn57 [ρ 7, ρ 0] (γ 5) = (0, 0, γ 6) from l0.symm) (zLV (γ 6) rfl ?_)
    rfl
  exact zGoo_ato hJ hD
theorem vn75a0_83 {S : Nat → zSpc} (hS57 : zIm S 57 sn57) (hS73 : zIm S 73 sn73) {a : List Int} {g : rHp} : ∀ (ρ : Nat → Int) (γ : Nat → rHp), jn75 a g 0 (zAg (zNA a75_ 0) ρ) (γ 1) → zO 15 S a g q75a0_83 ρ γ → zGl (fun i vs g1 => jn75 a g i vs g1) (sn75 a g) q75a0_83 ρ γ := by
  intro ρ γ hJ h
  obtain ⟨ha, hg, hr, hf, hm, hc, hl⟩ := h
  have ha : a = [ρ 0, ρ 1, ρ 2, ρ 3, ρ 4, ρ 5, ρ 6, ρ 7, ρ 8, ρ 9, ρ 10, ρ 11, ρ 12, ρ 13, ρ 14] := ha
  subst ha
  subst hg
  have hJ : jn75 [ρ 0, ρ 1, ρ 2, ρ 3, ρ 4, ρ 5, ρ 6, ρ 7, ρ 8, ρ 9, ρ 10, ρ 11, ρ 12, ρ 13, ρ 14] (γ 0) 0 [ρ 0, ρ 1, ρ 2, ρ 3, ρ 4, ρ 5, ρ 6, ρ 7, ρ 8, ρ 9, ρ 10, ρ 11, ρ 12, ρ 13, ρ 14, ρ 15, ρ 16, ρ 17, ρ 18, ρ 19] (γ 1) := hJ
  have r3 : (3 : Int) ≤ ρ 3 ∧ ρ 3 ≤ 4 := zRnA hr 3
  have r17 : (0 : Int) ≤ ρ 17 ∧ ρ 17 ≤ 0 := zRnA hr 17
  have r20 : (1 : Int) ≤ ρ 20 ∧ ρ 20 ≤ 1 := zRnA hr 20
  have r22 : (4 : Int) ≤ ρ 22 ∧ ρ 22 ≤ 4 := zRnA hr 22
  have r23 : (3 : Int) ≤ ρ 23 ∧ ρ 23 ≤ 3 := zRnA hr 23
  have r24 : (0 : Int) ≤ ρ 24 ∧ ρ 24 ≤ 2 := zRnA hr 24
  have r26 : (0 : Int) ≤ ρ 26 ∧ ρ 26 ≤ 2 := zRnA hr 26
  have r28 : (0 : Int) ≤ ρ 28 ∧ ρ 28 ≤ 2 := zRnA hr 28
  have f3 : (0 : Int) ≤ ρ 18 + -ρ 15 + (-1) := zAllA hf 3
  obtain ⟨w_0, w_1, w_2, w_3, w_4, w_5, w_6, w_7, w_8, w_9, w_10, w_11⟩ : (¬ (ρ 15 ≥ ρ 18)) ∧ (¬ (ρ 17 ≠ 0)) ∧ (¬ (ρ 3 ≤ 2)) ∧ (ρ 20 ≠ 0) ∧ (¬ (0 ≥ ρ 22)) ∧ (¬ (ρ 23 ≠ 3)) ∧ (¬ (1 ≥ ρ 22)) ∧ (ρ 24 ≠ 3) ∧ (¬ (2 ≥ ρ 22)) ∧ (ρ 26 ≠ 3) ∧ (¬ (3 ≥ ρ 22)) ∧ (ρ 28 ≠ 3) := ⟨by omega, by omega, by omega, by omega, by omega, by omega, by omega, by omega, by omega, by omega, by omega, by omega⟩
  have m2 : γ 0 71 0 (ρ 0) = ρ 3 := zAllA hm 2
  have m6 : γ 0 69 0 (ρ 0) = ρ 7 := zAllA hm 6
  have m15 : γ 1 15 0 77 = ρ 17 := zAllA hm 15
  have m16 : γ 1 15 0 90 = ρ 18 := zAllA hm 16
  have m19 : γ 1 109 0 (ρ 15) = ρ 20 := zAllA hm 19
  have m20 : γ 1 108 0 (ρ 15) = ρ 21 := zAllA hm 20
  have m21 : γ 0 66 0 (ρ 7) = ρ 22 := zAllA hm 21
  have m22 : γ 0 70 0 (4 * ρ 0) = ρ 23 := zAllA hm 22
  have m23 : γ 0 70 0 (4 * ρ 0 + 1) = ρ 24 := zAllA hm 23
  have m24 : γ 1 105 0 (4 * ρ 15 + 1) = ρ 25 := zAllA hm 24
  have m25 : γ 0 70 0 (4 * ρ 0 + 2) = ρ 26 := zAllA hm 25
  have m26 : γ 1 105 0 (4 * ρ 15 + 2) = ρ 27 := zAllA hm 26
  have m27 : γ 0 70 0 (4 * ρ 0 + 3) = ρ 28 := zAllA hm 27
  have m28 : γ 1 105 0 (4 * ρ 15 + 3) = ρ 29 := zAllA hm 28
  have c2 : γ 2 = rUp (γ 1) 102 0 0 (ρ 21) := And.right (zChA hc 4)
  have c3 : γ 3 = rUp (γ 2) 102 0 1 (ρ 25) := And.right (zChA hc 3)
  have c4 : γ 4 = rUp (γ 3) 102 0 2 (ρ 27) := And.right (zChA hc 2)
  have c5 : γ 5 = rUp (γ 4) 102 0 3 (ρ 29) := And.right (zChA hc 1)
  have l0 : sn57 [ρ 7, ρ 0, ρ 2, ρ 19, ρ 30, ρ 31, ρ 32, ρ 10, ρ 17] (γ 5) 0 0 (γ 6) := hS57 _ _ _ _ _ (zAllA hl 0)
  show jn75 [ρ 0, ρ 1, ρ 2, ρ 3, ρ 4, ρ 5, ρ 6, ρ 7, ρ 8, ρ 9, ρ 10, ρ 11, ρ 12, ρ 13, ρ 14] (γ 0) 0 [ρ 0, ρ 1, ρ 2, ρ 3, ρ 4, ρ 5, ρ 6, ρ 7, ρ 8, ρ 9, ρ 10, ρ 11, ρ 12, ρ 13, ρ 14, ρ 15 + 1, ρ 16, ρ 37, ρ 18, ρ 33] (γ 6)
  have hD : en75 (γ 0) (0, [ρ 0, ρ 15], γ 1) = .inl (0, [ρ 0, ρ 15 + 1], γ 6) := by
    unfold en75
    refine zIP (show (0 : Nat) = 0 by decide) (zLV (γ 1) rfl (zLV (ρ 0) rfl (zLV (ρ 15) rfl (zLE m2 (zLE m6 (zLE m15 (zLE m16 ?_)))))))
    refine zIN w_0 (zIN w_1 (zIN w_2 (zLE m19 (zIP w_3 (zLE m20 (zLE m21 (zIN w_4 ?_)))))))
    refine zLE m22 (zIN w_5 (zLE c2.symm (zIN w_6 (zLE m23 (zIP w_7 (zLE m24 (zLE c3.symm ?_)))))))
    refine zIN w_8 (zLE m25 (zIP w_9 (zLE m26 (zLE c4.symm (zIN w_10 (zLE m27 (zIP w_11 ?_)))))))
    refine zLE m28 (zLE c5.symm (zLE (show fn57 [ρ 7, ρ 0] (γ 5) = (0, 0, γ 6) from l0.symm) (zLV (γ 6) rfl ?_)))
    rfl
  exact zGoo_ato hJ hD
theorem vn75a0_84 {S : Nat → zSpc} (hS57 : zIm S 57 sn57) (hS73 : zIm S 73 sn73) {a : List Int} {g : rHp} : ∀ (ρ : Nat → Int) (γ : Nat → rHp), jn75 a g 0 (zAg (zNA a75_ 0) ρ) (γ 1) → zO 15 S a g q75a0_84 ρ γ → zGl (fun i vs g1 => jn75 a g i vs g1) (sn75 a g) q75a0_84 ρ γ := by
  intro ρ γ hJ h
  obtain ⟨ha, hg, hr, hf, hm, hc, hl⟩ := h
  have ha : a = [ρ 0, ρ 1, ρ 2, ρ 3, ρ 4, ρ 5, ρ 6, ρ 7, ρ 8, ρ 9, ρ 10, ρ 11, ρ 12, ρ 13, ρ 14] := ha
  subst ha
  subst hg
  have hJ : jn75 [ρ 0, ρ 1, ρ 2, ρ 3, ρ 4, ρ 5, ρ 6, ρ 7, ρ 8, ρ 9, ρ 10, ρ 11, ρ 12, ρ 13, ρ 14] (γ 0) 0 [ρ 0, ρ 1, ρ 2, ρ 3, ρ 4, ρ 5, ρ 6, ρ 7, ρ 8, ρ 9, ρ 10, ρ 11, ρ 12, ρ 13, ρ 14, ρ 15, ρ 16, ρ 17, ρ 18, ρ 19] (γ 1) := hJ
  have r3 : (3 : Int) ≤ ρ 3 ∧ ρ 3 ≤ 4 := zRnA hr 3
  have r17 : (0 : Int) ≤ ρ 17 ∧ ρ 17 ≤ 0 := zRnA hr 17
  have r20 : (1 : Int) ≤ ρ 20 ∧ ρ 20 ≤ 1 := zRnA hr 20
  have r22 : (4 : Int) ≤ ρ 22 ∧ ρ 22 ≤ 4 := zRnA hr 22
  have r23 : (3 : Int) ≤ ρ 23 ∧ ρ 23 ≤ 3 := zRnA hr 23
  have r24 : (0 : Int) ≤ ρ 24 ∧ ρ 24 ≤ 2 := zRnA hr 24
  have r26 : (0 : Int) ≤ ρ 26 ∧ ρ 26 ≤ 2 := zRnA hr 26
  have r28 : (3 : Int) ≤ ρ 28 ∧ ρ 28 ≤ 3 := zRnA hr 28
  have f3 : (0 : Int) ≤ ρ 18 + -ρ 15 + (-1) := zAllA hf 3
  obtain ⟨w_0, w_1, w_2, w_3, w_4, w_5, w_6, w_7, w_8, w_9, w_10, w_11⟩ : (¬ (ρ 15 ≥ ρ 18)) ∧ (¬ (ρ 17 ≠ 0)) ∧ (¬ (ρ 3 ≤ 2)) ∧ (ρ 20 ≠ 0) ∧ (¬ (0 ≥ ρ 22)) ∧ (¬ (ρ 23 ≠ 3)) ∧ (¬ (1 ≥ ρ 22)) ∧ (ρ 24 ≠ 3) ∧ (¬ (2 ≥ ρ 22)) ∧ (ρ 26 ≠ 3) ∧ (¬ (3 ≥ ρ 22)) ∧ (¬ (ρ 28 ≠ 3)) := ⟨by omega, by omega, by omega, by omega, by omega, by omega, by omega, by omega, by omega, by omega, by omega, by omega⟩
  have m2 : γ 0 71 0 (ρ 0) = ρ 3 := zAllA hm 2
  have m6 : γ 0 69 0 (ρ 0) = ρ 7 := zAllA hm 6
  have m15 : γ 1 15 0 77 = ρ 17 := zAllA hm 15
  have m16 : γ 1 15 0 90 = ρ 18 := zAllA hm 16
  have m19 : γ 1 109 0 (ρ 15) = ρ 20 := zAllA hm 19
  have m20 : γ 1 108 0 (ρ 15) = ρ 21 := zAllA hm 20
  have m21 : γ 0 66 0 (ρ 7) = ρ 22 := zAllA hm 21
  have m22 : γ 0 70 0 (4 * ρ 0) = ρ 23 := zAllA hm 22
  have m23 : γ 0 70 0 (4 * ρ 0 + 1) = ρ 24 := zAllA hm 23
  have m24 : γ 1 105 0 (4 * ρ 15 + 1) = ρ 25 := zAllA hm 24
  have m25 : γ 0 70 0 (4 * ρ 0 + 2) = ρ 26 := zAllA hm 25
  have m26 : γ 1 105 0 (4 * ρ 15 + 2) = ρ 27 := zAllA hm 26
  have m27 : γ 0 70 0 (4 * ρ 0 + 3) = ρ 28 := zAllA hm 27
  have c2 : γ 2 = rUp (γ 1) 102 0 0 (ρ 21) := And.right (zChA hc 4)
  have c3 : γ 3 = rUp (γ 2) 102 0 1 (ρ 25) := And.right (zChA hc 3)
  have c4 : γ 4 = rUp (γ 3) 102 0 2 (ρ 27) := And.right (zChA hc 2)
  have c5 : γ 5 = rUp (γ 4) 102 0 3 (ρ 21) := And.right (zChA hc 1)
  have l0 : sn57 [ρ 7, ρ 0, ρ 2, ρ 19, ρ 29, ρ 30, ρ 31, ρ 10, ρ 17] (γ 5) 0 0 (γ 6) := hS57 _ _ _ _ _ (zAllA hl 0)
  show jn75 [ρ 0, ρ 1, ρ 2, ρ 3, ρ 4, ρ 5, ρ 6, ρ 7, ρ 8, ρ 9, ρ 10, ρ 11, ρ 12, ρ 13, ρ 14] (γ 0) 0 [ρ 0, ρ 1, ρ 2, ρ 3, ρ 4, ρ 5, ρ 6, ρ 7, ρ 8, ρ 9, ρ 10, ρ 11, ρ 12, ρ 13, ρ 14, ρ 15 + 1, ρ 16, ρ 36, ρ 18, ρ 32] (γ 6)
  have hD : en75 (γ 0) (0, [ρ 0, ρ 15], γ 1) = .inl (0, [ρ 0, ρ 15 + 1], γ 6) := by
    unfold en75
    refine zIP (show (0 : Nat) = 0 by decide) (zLV (γ 1) rfl (zLV (ρ 0) rfl (zLV (ρ 15) rfl (zLE m2 (zLE m6 (zLE m15 (zLE m16 ?_)))))))
    refine zIN w_0 (zIN w_1 (zIN w_2 (zLE m19 (zIP w_3 (zLE m20 (zLE m21 (zIN w_4 ?_)))))))
    refine zLE m22 (zIN w_5 (zLE c2.symm (zIN w_6 (zLE m23 (zIP w_7 (zLE m24 (zLE c3.symm ?_)))))))
    refine zIN w_8 (zLE m25 (zIP w_9 (zLE m26 (zLE c4.symm (zIN w_10 (zLE m27 (zIN w_11 ?_)))))))
    refine zLE c5.symm (zLE (show fn57 [ρ 7, ρ 0] (γ 5) = (0, 0, γ 6) from l0.symm) (zLV (γ 6) rfl ?_))
    rfl
  exact zGoo_ato hJ hD
theorem vn75a0_85 {S : Nat → zSpc} (hS57 : zIm S 57 sn57) (hS73 : zIm S 73 sn73) {a : List Int} {g : rHp} : ∀ (ρ : Nat → Int) (γ : Nat → rHp), jn75 a g 0 (zAg (zNA a75_ 0) ρ) (γ 1) → zO 15 S a g q75a0_85 ρ γ → zGl (fun i vs g1 => jn75 a g i vs g1) (sn75 a g) q75a0_85 ρ γ := by
  intro ρ γ hJ h
  obtain ⟨ha, hg, hr, hf, hm, hc, hl⟩ := h
  have ha : a = [ρ 0, ρ 1, ρ 2, ρ 3, ρ 4, ρ 5, ρ 6, ρ 7, ρ 8, ρ 9, ρ 10, ρ 11, ρ 12, ρ 13, ρ 14] := ha
  subst ha
  subst hg
  have hJ : jn75 [ρ 0, ρ 1, ρ 2, ρ 3, ρ 4, ρ 5, ρ 6, ρ 7, ρ 8, ρ 9, ρ 10, ρ 11, ρ 12, ρ 13, ρ 14] (γ 0) 0 [ρ 0, ρ 1, ρ 2, ρ 3, ρ 4, ρ 5, ρ 6, ρ 7, ρ 8, ρ 9, ρ 10, ρ 11, ρ 12, ρ 13, ρ 14, ρ 15, ρ 16, ρ 17, ρ 18, ρ 19] (γ 1) := hJ
  have r3 : (3 : Int) ≤ ρ 3 ∧ ρ 3 ≤ 4 := zRnA hr 3
  have r17 : (0 : Int) ≤ ρ 17 ∧ ρ 17 ≤ 0 := zRnA hr 17
  have r20 : (1 : Int) ≤ ρ 20 ∧ ρ 20 ≤ 1 := zRnA hr 20
  have r22 : (3 : Int) ≤ ρ 22 ∧ ρ 22 ≤ 3 := zRnA hr 22
  have r23 : (3 : Int) ≤ ρ 23 ∧ ρ 23 ≤ 3 := zRnA hr 23
  have r24 : (0 : Int) ≤ ρ 24 ∧ ρ 24 ≤ 2 := zRnA hr 24
  have r26 : (3 : Int) ≤ ρ 26 ∧ ρ 26 ≤ 3 := zRnA hr 26
  have f3 : (0 : Int) ≤ ρ 18 + -ρ 15 + (-1) := zAllA hf 3
  obtain ⟨w_0, w_1, w_2, w_3, w_4, w_5, w_6, w_7, w_8, w_9, w_10⟩ : (¬ (ρ 15 ≥ ρ 18)) ∧ (¬ (ρ 17 ≠ 0)) ∧ (¬ (ρ 3 ≤ 2)) ∧ (ρ 20 ≠ 0) ∧ (¬ (0 ≥ ρ 22)) ∧ (¬ (ρ 23 ≠ 3)) ∧ (¬ (1 ≥ ρ 22)) ∧ (ρ 24 ≠ 3) ∧ (¬ (2 ≥ ρ 22)) ∧ (¬ (ρ 26 ≠ 3)) ∧ (3 ≥ ρ 22) := ⟨by omega, by omega, by omega, by omega, by omega, by omega, by omega, by omega, by omega, by omega, by omega⟩
  have m2 : γ 0 71 0 (ρ 0) = ρ 3 := zAllA hm 2
  have m6 : γ 0 69 0 (ρ 0) = ρ 7 := zAllA hm 6
  have m15 : γ 1 15 0 77 = ρ 17 := zAllA hm 15
  have m16 : γ 1 15 0 90 = ρ 18 := zAllA hm 16
  have m19 : γ 1 109 0 (ρ 15) = ρ 20 := zAllA hm 19
  have m20 : γ 1 108 0 (ρ 15) = ρ 21 := zAllA hm 20
  have m21 : γ 0 66 0 (ρ 7) = ρ 22 := zAllA hm 21
  have m22 : γ 0 70 0 (4 * ρ 0) = ρ 23 := zAllA hm 22
  have m23 : γ 0 70 0 (4 * ρ 0 + 1) = ρ 24 := zAllA hm 23
  have m24 : γ 1 105 0 (4 * ρ 15 + 1) = ρ 25 := zAllA hm 24
  have m25 : γ 0 70 0 (4 * ρ 0 + 2) = ρ 26 := zAllA hm 25
  have m26 : γ 1 105 0 (4 * ρ 15 + 3) = ρ 27 := zAllA hm 26
  have c2 : γ 2 = rUp (γ 1) 102 0 0 (ρ 21) := And.right (zChA hc 4)
  have c3 : γ 3 = rUp (γ 2) 102 0 1 (ρ 25) := And.right (zChA hc 3)
  have c4 : γ 4 = rUp (γ 3) 102 0 2 (ρ 21) := And.right (zChA hc 2)
  have c5 : γ 5 = rUp (γ 4) 102 0 3 (ρ 27) := And.right (zChA hc 1)
  have l0 : sn57 [ρ 7, ρ 0, ρ 2, ρ 19, ρ 28, ρ 29, ρ 30, ρ 10, ρ 17] (γ 5) 0 0 (γ 6) := hS57 _ _ _ _ _ (zAllA hl 0)
  show jn75 [ρ 0, ρ 1, ρ 2, ρ 3, ρ 4, ρ 5, ρ 6, ρ 7, ρ 8, ρ 9, ρ 10, ρ 11, ρ 12, ρ 13, ρ 14] (γ 0) 0 [ρ 0, ρ 1, ρ 2, ρ 3, ρ 4, ρ 5, ρ 6, ρ 7, ρ 8, ρ 9, ρ 10, ρ 11, ρ 12, ρ 13, ρ 14, ρ 15 + 1, ρ 16, ρ 35, ρ 18, ρ 31] (γ 6)
  have hD : en75 (γ 0) (0, [ρ 0, ρ 15], γ 1) = .inl (0, [ρ 0, ρ 15 + 1], γ 6) := by
    unfold en75
    refine zIP (show (0 : Nat) = 0 by decide) (zLV (γ 1) rfl (zLV (ρ 0) rfl (zLV (ρ 15) rfl (zLE m2 (zLE m6 (zLE m15 (zLE m16 ?_)))))))
    refine zIN w_0 (zIN w_1 (zIN w_2 (zLE m19 (zIP w_3 (zLE m20 (zLE m21 (zIN w_4 ?_)))))))
    refine zLE m22 (zIN w_5 (zLE c2.symm (zIN w_6 (zLE m23 (zIP w_7 (zLE m24 (zLE c3.symm ?_)))))))
    refine zIN w_8 (zLE m25 (zIN w_9 (zLE c4.symm (zIP w_10 (zLE m26 (zLE c5.symm (zLE (show fn57 [ρ 7, ρ 0] (γ 5) = (0, 0, γ 6) from l0.symm) ?_)))))))
    refine zLV (γ 6) rfl ?_
    rfl
  exact zGoo_ato hJ hD
theorem vn75a0_86 {S : Nat → zSpc} (hS57 : zIm S 57 sn57) (hS73 : zIm S 73 sn73) {a : List Int} {g : rHp} : ∀ (ρ : Nat → Int) (γ : Nat → rHp), jn75 a g 0 (zAg (zNA a75_ 0) ρ) (γ 1) → zO 15 S a g q75a0_86 ρ γ → zGl (fun i vs g1 => jn75 a g i vs g1) (sn75 a g) q75a0_86 ρ γ := by
  intro ρ γ hJ h
  obtain ⟨ha, hg, hr, hf, hm, hc, hl⟩ := h
  have ha : a = [ρ 0, ρ 1, ρ 2, ρ 3, ρ 4, ρ 5, ρ 6, ρ 7, ρ 8, ρ 9, ρ 10, ρ 11, ρ 12, ρ 13, ρ 14] := ha
  subst ha
  subst hg
  have hJ : jn75 [ρ 0, ρ 1, ρ 2, ρ 3, ρ 4, ρ 5, ρ 6, ρ 7, ρ 8, ρ 9, ρ 10, ρ 11, ρ 12, ρ 13, ρ 14] (γ 0) 0 [ρ 0, ρ 1, ρ 2, ρ 3, ρ 4, ρ 5, ρ 6, ρ 7, ρ 8, ρ 9, ρ 10, ρ 11, ρ 12, ρ 13, ρ 14, ρ 15, ρ 16, ρ 17, ρ 18, ρ 19] (γ 1) := hJ
  have r3 : (3 : Int) ≤ ρ 3 ∧ ρ 3 ≤ 4 := zRnA hr 3
  have r17 : (0 : Int) ≤ ρ 17 ∧ ρ 17 ≤ 0 := zRnA hr 17
  have r20 : (1 : Int) ≤ ρ 20 ∧ ρ 20 ≤ 1 := zRnA hr 20
  have r22 : (4 : Int) ≤ ρ 22 ∧ ρ 22 ≤ 4 := zRnA hr 22
  have r23 : (3 : Int) ≤ ρ 23 ∧ ρ 23 ≤ 3 := zRnA hr 23
  have r24 : (0 : Int) ≤ ρ 24 ∧ ρ 24 ≤ 2 := zRnA hr 24
  have r26 : (3 : Int) ≤ ρ 26 ∧ ρ 26 ≤ 3 := zRnA hr 26
  have r27 : (0 : Int) ≤ ρ 27 ∧ ρ 27 ≤ 2 := zRnA hr 27
  have f3 : (0 : Int) ≤ ρ 18 + -ρ 15 + (-1) := zAllA hf 3
  obtain ⟨w_0, w_1, w_2, w_3, w_4, w_5, w_6, w_7, w_8, w_9, w_10, w_11⟩ : (¬ (ρ 15 ≥ ρ 18)) ∧ (¬ (ρ 17 ≠ 0)) ∧ (¬ (ρ 3 ≤ 2)) ∧ (ρ 20 ≠ 0) ∧ (¬ (0 ≥ ρ 22)) ∧ (¬ (ρ 23 ≠ 3)) ∧ (¬ (1 ≥ ρ 22)) ∧ (ρ 24 ≠ 3) ∧ (¬ (2 ≥ ρ 22)) ∧ (¬ (ρ 26 ≠ 3)) ∧ (¬ (3 ≥ ρ 22)) ∧ (ρ 27 ≠ 3) := ⟨by omega, by omega, by omega, by omega, by omega, by omega, by omega, by omega, by omega, by omega, by omega, by omega⟩
  have m2 : γ 0 71 0 (ρ 0) = ρ 3 := zAllA hm 2
  have m6 : γ 0 69 0 (ρ 0) = ρ 7 := zAllA hm 6
  have m15 : γ 1 15 0 77 = ρ 17 := zAllA hm 15
  have m16 : γ 1 15 0 90 = ρ 18 := zAllA hm 16
  have m19 : γ 1 109 0 (ρ 15) = ρ 20 := zAllA hm 19
  have m20 : γ 1 108 0 (ρ 15) = ρ 21 := zAllA hm 20
  have m21 : γ 0 66 0 (ρ 7) = ρ 22 := zAllA hm 21
  have m22 : γ 0 70 0 (4 * ρ 0) = ρ 23 := zAllA hm 22
  have m23 : γ 0 70 0 (4 * ρ 0 + 1) = ρ 24 := zAllA hm 23
  have m24 : γ 1 105 0 (4 * ρ 15 + 1) = ρ 25 := zAllA hm 24
  have m25 : γ 0 70 0 (4 * ρ 0 + 2) = ρ 26 := zAllA hm 25
  have m26 : γ 0 70 0 (4 * ρ 0 + 3) = ρ 27 := zAllA hm 26
  have m27 : γ 1 105 0 (4 * ρ 15 + 3) = ρ 28 := zAllA hm 27
  have c2 : γ 2 = rUp (γ 1) 102 0 0 (ρ 21) := And.right (zChA hc 4)
  have c3 : γ 3 = rUp (γ 2) 102 0 1 (ρ 25) := And.right (zChA hc 3)
  have c4 : γ 4 = rUp (γ 3) 102 0 2 (ρ 21) := And.right (zChA hc 2)
  have c5 : γ 5 = rUp (γ 4) 102 0 3 (ρ 28) := And.right (zChA hc 1)
  have l0 : sn57 [ρ 7, ρ 0, ρ 2, ρ 19, ρ 29, ρ 30, ρ 31, ρ 10, ρ 17] (γ 5) 0 0 (γ 6) := hS57 _ _ _ _ _ (zAllA hl 0)
  show jn75 [ρ 0, ρ 1, ρ 2, ρ 3, ρ 4, ρ 5, ρ 6, ρ 7, ρ 8, ρ 9, ρ 10, ρ 11, ρ 12, ρ 13, ρ 14] (γ 0) 0 [ρ 0, ρ 1, ρ 2, ρ 3, ρ 4, ρ 5, ρ 6, ρ 7, ρ 8, ρ 9, ρ 10, ρ 11, ρ 12, ρ 13, ρ 14, ρ 15 + 1, ρ 16, ρ 36, ρ 18, ρ 32] (γ 6)
  have hD : en75 (γ 0) (0, [ρ 0, ρ 15], γ 1) = .inl (0, [ρ 0, ρ 15 + 1], γ 6) := by
    unfold en75
    refine zIP (show (0 : Nat) = 0 by decide) (zLV (γ 1) rfl (zLV (ρ 0) rfl (zLV (ρ 15) rfl (zLE m2 (zLE m6 (zLE m15 (zLE m16 ?_)))))))
    refine zIN w_0 (zIN w_1 (zIN w_2 (zLE m19 (zIP w_3 (zLE m20 (zLE m21 (zIN w_4 ?_)))))))
    refine zLE m22 (zIN w_5 (zLE c2.symm (zIN w_6 (zLE m23 (zIP w_7 (zLE m24 (zLE c3.symm ?_)))))))
    refine zIN w_8 (zLE m25 (zIN w_9 (zLE c4.symm (zIN w_10 (zLE m26 (zIP w_11 (zLE m27 ?_)))))))
    refine zLE c5.symm (zLE (show fn57 [ρ 7, ρ 0] (γ 5) = (0, 0, γ 6) from l0.symm) (zLV (γ 6) rfl ?_))
    rfl
  exact zGoo_ato hJ hD
theorem vn75a0_87 {S : Nat → zSpc} (hS57 : zIm S 57 sn57) (hS73 : zIm S 73 sn73) {a : List Int} {g : rHp} : ∀ (ρ : Nat → Int) (γ : Nat → rHp), jn75 a g 0 (zAg (zNA a75_ 0) ρ) (γ 1) → zO 15 S a g q75a0_87 ρ γ → zGl (fun i vs g1 => jn75 a g i vs g1) (sn75 a g) q75a0_87 ρ γ := by
  intro ρ γ hJ h
  obtain ⟨ha, hg, hr, hf, hm, hc, hl⟩ := h
  have ha : a = [ρ 0, ρ 1, ρ 2, ρ 3, ρ 4, ρ 5, ρ 6, ρ 7, ρ 8, ρ 9, ρ 10, ρ 11, ρ 12, ρ 13, ρ 14] := ha
  subst ha
  subst hg
  have hJ : jn75 [ρ 0, ρ 1, ρ 2, ρ 3, ρ 4, ρ 5, ρ 6, ρ 7, ρ 8, ρ 9, ρ 10, ρ 11, ρ 12, ρ 13, ρ 14] (γ 0) 0 [ρ 0, ρ 1, ρ 2, ρ 3, ρ 4, ρ 5, ρ 6, ρ 7, ρ 8, ρ 9, ρ 10, ρ 11, ρ 12, ρ 13, ρ 14, ρ 15, ρ 16, ρ 17, ρ 18, ρ 19] (γ 1) := hJ
  have r3 : (3 : Int) ≤ ρ 3 ∧ ρ 3 ≤ 4 := zRnA hr 3
  have r17 : (0 : Int) ≤ ρ 17 ∧ ρ 17 ≤ 0 := zRnA hr 17
  have r20 : (1 : Int) ≤ ρ 20 ∧ ρ 20 ≤ 1 := zRnA hr 20
  have r22 : (4 : Int) ≤ ρ 22 ∧ ρ 22 ≤ 4 := zRnA hr 22
  have r23 : (3 : Int) ≤ ρ 23 ∧ ρ 23 ≤ 3 := zRnA hr 23
  have r24 : (0 : Int) ≤ ρ 24 ∧ ρ 24 ≤ 2 := zRnA hr 24
  have r26 : (3 : Int) ≤ ρ 26 ∧ ρ 26 ≤ 3 := zRnA hr 26
  have r27 : (3 : Int) ≤ ρ 27 ∧ ρ 27 ≤ 3 := zRnA hr 27
  have f3 : (0 : Int) ≤ ρ 18 + -ρ 15 + (-1) := zAllA hf 3
  obtain ⟨w_0, w_1, w_2, w_3, w_4, w_5, w_6, w_7, w_8, w_9, w_10, w_11⟩ : (¬ (ρ 15 ≥ ρ 18)) ∧ (¬ (ρ 17 ≠ 0)) ∧ (¬ (ρ 3 ≤ 2)) ∧ (ρ 20 ≠ 0) ∧ (¬ (0 ≥ ρ 22)) ∧ (¬ (ρ 23 ≠ 3)) ∧ (¬ (1 ≥ ρ 22)) ∧ (ρ 24 ≠ 3) ∧ (¬ (2 ≥ ρ 22)) ∧ (¬ (ρ 26 ≠ 3)) ∧ (¬ (3 ≥ ρ 22)) ∧ (¬ (ρ 27 ≠ 3)) := ⟨by omega, by omega, by omega, by omega, by omega, by omega, by omega, by omega, by omega, by omega, by omega, by omega⟩
  have m2 : γ 0 71 0 (ρ 0) = ρ 3 := zAllA hm 2
  have m6 : γ 0 69 0 (ρ 0) = ρ 7 := zAllA hm 6
  have m15 : γ 1 15 0 77 = ρ 17 := zAllA hm 15
  have m16 : γ 1 15 0 90 = ρ 18 := zAllA hm 16
  have m19 : γ 1 109 0 (ρ 15) = ρ 20 := zAllA hm 19
  have m20 : γ 1 108 0 (ρ 15) = ρ 21 := zAllA hm 20
  have m21 : γ 0 66 0 (ρ 7) = ρ 22 := zAllA hm 21
  have m22 : γ 0 70 0 (4 * ρ 0) = ρ 23 := zAllA hm 22
  have m23 : γ 0 70 0 (4 * ρ 0 + 1) = ρ 24 := zAllA hm 23
  have m24 : γ 1 105 0 (4 * ρ 15 + 1) = ρ 25 := zAllA hm 24
  have m25 : γ 0 70 0 (4 * ρ 0 + 2) = ρ 26 := zAllA hm 25
  have m26 : γ 0 70 0 (4 * ρ 0 + 3) = ρ 27 := zAllA hm 26
  have c2 : γ 2 = rUp (γ 1) 102 0 0 (ρ 21) := And.right (zChA hc 4)
  have c3 : γ 3 = rUp (γ 2) 102 0 1 (ρ 25) := And.right (zChA hc 3)
  have c4 : γ 4 = rUp (γ 3) 102 0 2 (ρ 21) := And.right (zChA hc 2)
  have c5 : γ 5 = rUp (γ 4) 102 0 3 (ρ 21) := And.right (zChA hc 1)
  have l0 : sn57 [ρ 7, ρ 0, ρ 2, ρ 19, ρ 28, ρ 29, ρ 30, ρ 10, ρ 17] (γ 5) 0 0 (γ 6) := hS57 _ _ _ _ _ (zAllA hl 0)
  show jn75 [ρ 0, ρ 1, ρ 2, ρ 3, ρ 4, ρ 5, ρ 6, ρ 7, ρ 8, ρ 9, ρ 10, ρ 11, ρ 12, ρ 13, ρ 14] (γ 0) 0 [ρ 0, ρ 1, ρ 2, ρ 3, ρ 4, ρ 5, ρ 6, ρ 7, ρ 8, ρ 9, ρ 10, ρ 11, ρ 12, ρ 13, ρ 14, ρ 15 + 1, ρ 16, ρ 35, ρ 18, ρ 31] (γ 6)
  have hD : en75 (γ 0) (0, [ρ 0, ρ 15], γ 1) = .inl (0, [ρ 0, ρ 15 + 1], γ 6) := by
    unfold en75
    refine zIP (show (0 : Nat) = 0 by decide) (zLV (γ 1) rfl (zLV (ρ 0) rfl (zLV (ρ 15) rfl (zLE m2 (zLE m6 (zLE m15 (zLE m16 ?_)))))))
    refine zIN w_0 (zIN w_1 (zIN w_2 (zLE m19 (zIP w_3 (zLE m20 (zLE m21 (zIN w_4 ?_)))))))
    refine zLE m22 (zIN w_5 (zLE c2.symm (zIN w_6 (zLE m23 (zIP w_7 (zLE m24 (zLE c3.symm ?_)))))))
    refine zIN w_8 (zLE m25 (zIN w_9 (zLE c4.symm (zIN w_10 (zLE m26 (zIN w_11 (zLE c5.symm ?_)))))))
    refine zLE (show fn57 [ρ 7, ρ 0] (γ 5) = (0, 0, γ 6) from l0.symm) (zLV (γ 6) rfl ?_)
    rfl
  exact zGoo_ato hJ hD
theorem vn75a0_88 {S : Nat → zSpc} (hS57 : zIm S 57 sn57) (hS73 : zIm S 73 sn73) {a : List Int} {g : rHp} : ∀ (ρ : Nat → Int) (γ : Nat → rHp), jn75 a g 0 (zAg (zNA a75_ 0) ρ) (γ 1) → zO 15 S a g q75a0_88 ρ γ → zGl (fun i vs g1 => jn75 a g i vs g1) (sn75 a g) q75a0_88 ρ γ := by
  intro ρ γ hJ h
  obtain ⟨ha, hg, hr, hf, hm, hc, hl⟩ := h
  have ha : a = [ρ 0, ρ 1, ρ 2, ρ 3, ρ 4, ρ 5, ρ 6, ρ 7, ρ 8, ρ 9, ρ 10, ρ 11, ρ 12, ρ 13, ρ 14] := ha
  subst ha
  subst hg
  have hJ : jn75 [ρ 0, ρ 1, ρ 2, ρ 3, ρ 4, ρ 5, ρ 6, ρ 7, ρ 8, ρ 9, ρ 10, ρ 11, ρ 12, ρ 13, ρ 14] (γ 0) 0 [ρ 0, ρ 1, ρ 2, ρ 3, ρ 4, ρ 5, ρ 6, ρ 7, ρ 8, ρ 9, ρ 10, ρ 11, ρ 12, ρ 13, ρ 14, ρ 15, ρ 16, ρ 17, ρ 18, ρ 19] (γ 1) := hJ
  have r3 : (3 : Int) ≤ ρ 3 ∧ ρ 3 ≤ 4 := zRnA hr 3
  have r17 : (0 : Int) ≤ ρ 17 ∧ ρ 17 ≤ 0 := zRnA hr 17
  have r20 : (1 : Int) ≤ ρ 20 ∧ ρ 20 ≤ 1 := zRnA hr 20
  have r22 : (2 : Int) ≤ ρ 22 ∧ ρ 22 ≤ 2 := zRnA hr 22
  have r23 : (3 : Int) ≤ ρ 23 ∧ ρ 23 ≤ 3 := zRnA hr 23
  have r24 : (3 : Int) ≤ ρ 24 ∧ ρ 24 ≤ 3 := zRnA hr 24
  have f3 : (0 : Int) ≤ ρ 18 + -ρ 15 + (-1) := zAllA hf 3
  obtain ⟨w_0, w_1, w_2, w_3, w_4, w_5, w_6, w_7, w_8⟩ : (¬ (ρ 15 ≥ ρ 18)) ∧ (¬ (ρ 17 ≠ 0)) ∧ (¬ (ρ 3 ≤ 2)) ∧ (ρ 20 ≠ 0) ∧ (¬ (0 ≥ ρ 22)) ∧ (¬ (ρ 23 ≠ 3)) ∧ (¬ (1 ≥ ρ 22)) ∧ (¬ (ρ 24 ≠ 3)) ∧ (2 ≥ ρ 22) := ⟨by omega, by omega, by omega, by omega, by omega, by omega, by omega, by omega, by omega⟩
  have m2 : γ 0 71 0 (ρ 0) = ρ 3 := zAllA hm 2
  have m6 : γ 0 69 0 (ρ 0) = ρ 7 := zAllA hm 6
  have m15 : γ 1 15 0 77 = ρ 17 := zAllA hm 15
  have m16 : γ 1 15 0 90 = ρ 18 := zAllA hm 16
  have m19 : γ 1 109 0 (ρ 15) = ρ 20 := zAllA hm 19
  have m20 : γ 1 108 0 (ρ 15) = ρ 21 := zAllA hm 20
  have m21 : γ 0 66 0 (ρ 7) = ρ 22 := zAllA hm 21
  have m22 : γ 0 70 0 (4 * ρ 0) = ρ 23 := zAllA hm 22
  have m23 : γ 0 70 0 (4 * ρ 0 + 1) = ρ 24 := zAllA hm 23
  have m24 : γ 1 105 0 (4 * ρ 15 + 2) = ρ 25 := zAllA hm 24
  have m25 : γ 1 105 0 (4 * ρ 15 + 3) = ρ 26 := zAllA hm 25
  have c2 : γ 2 = rUp (γ 1) 102 0 0 (ρ 21) := And.right (zChA hc 4)
  have c3 : γ 3 = rUp (γ 2) 102 0 1 (ρ 21) := And.right (zChA hc 3)
  have c4 : γ 4 = rUp (γ 3) 102 0 2 (ρ 25) := And.right (zChA hc 2)
  have c5 : γ 5 = rUp (γ 4) 102 0 3 (ρ 26) := And.right (zChA hc 1)
  have l0 : sn57 [ρ 7, ρ 0, ρ 2, ρ 19, ρ 27, ρ 28, ρ 29, ρ 10, ρ 17] (γ 5) 0 0 (γ 6) := hS57 _ _ _ _ _ (zAllA hl 0)
  show jn75 [ρ 0, ρ 1, ρ 2, ρ 3, ρ 4, ρ 5, ρ 6, ρ 7, ρ 8, ρ 9, ρ 10, ρ 11, ρ 12, ρ 13, ρ 14] (γ 0) 0 [ρ 0, ρ 1, ρ 2, ρ 3, ρ 4, ρ 5, ρ 6, ρ 7, ρ 8, ρ 9, ρ 10, ρ 11, ρ 12, ρ 13, ρ 14, ρ 15 + 1, ρ 16, ρ 34, ρ 18, ρ 30] (γ 6)
  have hD : en75 (γ 0) (0, [ρ 0, ρ 15], γ 1) = .inl (0, [ρ 0, ρ 15 + 1], γ 6) := by
    unfold en75
    refine zIP (show (0 : Nat) = 0 by decide) (zLV (γ 1) rfl (zLV (ρ 0) rfl (zLV (ρ 15) rfl (zLE m2 (zLE m6 (zLE m15 (zLE m16 ?_)))))))
    refine zIN w_0 (zIN w_1 (zIN w_2 (zLE m19 (zIP w_3 (zLE m20 (zLE m21 (zIN w_4 ?_)))))))
    refine zLE m22 (zIN w_5 (zLE c2.symm (zIN w_6 (zLE m23 (zIN w_7 (zLE c3.symm (zIP w_8 ?_)))))))
    refine zLE m24 (zLE c4.symm (zLE m25 (zLE c5.symm (zLE (show fn57 [ρ 7, ρ 0] (γ 5) = (0, 0, γ 6) from l0.symm) (zLV (γ 6) rfl ?_)))))
    rfl
  exact zGoo_ato hJ hD
theorem vn75a0_89 {S : Nat → zSpc} (hS57 : zIm S 57 sn57) (hS73 : zIm S 73 sn73) {a : List Int} {g : rHp} : ∀ (ρ : Nat → Int) (γ : Nat → rHp), jn75 a g 0 (zAg (zNA a75_ 0) ρ) (γ 1) → zO 15 S a g q75a0_89 ρ γ → zGl (fun i vs g1 => jn75 a g i vs g1) (sn75 a g) q75a0_89 ρ γ := by
  intro ρ γ hJ h
  obtain ⟨ha, hg, hr, hf, hm, hc, hl⟩ := h
  have ha : a = [ρ 0, ρ 1, ρ 2, ρ 3, ρ 4, ρ 5, ρ 6, ρ 7, ρ 8, ρ 9, ρ 10, ρ 11, ρ 12, ρ 13, ρ 14] := ha
  subst ha
  subst hg
  have hJ : jn75 [ρ 0, ρ 1, ρ 2, ρ 3, ρ 4, ρ 5, ρ 6, ρ 7, ρ 8, ρ 9, ρ 10, ρ 11, ρ 12, ρ 13, ρ 14] (γ 0) 0 [ρ 0, ρ 1, ρ 2, ρ 3, ρ 4, ρ 5, ρ 6, ρ 7, ρ 8, ρ 9, ρ 10, ρ 11, ρ 12, ρ 13, ρ 14, ρ 15, ρ 16, ρ 17, ρ 18, ρ 19] (γ 1) := hJ
  have r3 : (3 : Int) ≤ ρ 3 ∧ ρ 3 ≤ 4 := zRnA hr 3
  have r17 : (0 : Int) ≤ ρ 17 ∧ ρ 17 ≤ 0 := zRnA hr 17
  have r20 : (1 : Int) ≤ ρ 20 ∧ ρ 20 ≤ 1 := zRnA hr 20
  have r22 : (3 : Int) ≤ ρ 22 ∧ ρ 22 ≤ 3 := zRnA hr 22
  have r23 : (3 : Int) ≤ ρ 23 ∧ ρ 23 ≤ 3 := zRnA hr 23
  have r24 : (3 : Int) ≤ ρ 24 ∧ ρ 24 ≤ 3 := zRnA hr 24
  have r25 : (0 : Int) ≤ ρ 25 ∧ ρ 25 ≤ 2 := zRnA hr 25
  have f3 : (0 : Int) ≤ ρ 18 + -ρ 15 + (-1) := zAllA hf 3
  obtain ⟨w_0, w_1, w_2, w_3, w_4, w_5, w_6, w_7, w_8, w_9, w_10⟩ : (¬ (ρ 15 ≥ ρ 18)) ∧ (¬ (ρ 17 ≠ 0)) ∧ (¬ (ρ 3 ≤ 2)) ∧ (ρ 20 ≠ 0) ∧ (¬ (0 ≥ ρ 22)) ∧ (¬ (ρ 23 ≠ 3)) ∧ (¬ (1 ≥ ρ 22)) ∧ (¬ (ρ 24 ≠ 3)) ∧ (¬ (2 ≥ ρ 22)) ∧ (ρ 25 ≠ 3) ∧ (3 ≥ ρ 22) := ⟨by omega, by omega, by omega, by omega, by omega, by omega, by omega, by omega, by omega, by omega, by omega⟩
  have m2 : γ 0 71 0 (ρ 0) = ρ 3 := zAllA hm 2
  have m6 : γ 0 69 0 (ρ 0) = ρ 7 := zAllA hm 6
  have m15 : γ 1 15 0 77 = ρ 17 := zAllA hm 15
  have m16 : γ 1 15 0 90 = ρ 18 := zAllA hm 16
  have m19 : γ 1 109 0 (ρ 15) = ρ 20 := zAllA hm 19
  have m20 : γ 1 108 0 (ρ 15) = ρ 21 := zAllA hm 20
  have m21 : γ 0 66 0 (ρ 7) = ρ 22 := zAllA hm 21
  have m22 : γ 0 70 0 (4 * ρ 0) = ρ 23 := zAllA hm 22
  have m23 : γ 0 70 0 (4 * ρ 0 + 1) = ρ 24 := zAllA hm 23
  have m24 : γ 0 70 0 (4 * ρ 0 + 2) = ρ 25 := zAllA hm 24
  have m25 : γ 1 105 0 (4 * ρ 15 + 2) = ρ 26 := zAllA hm 25
  have m26 : γ 1 105 0 (4 * ρ 15 + 3) = ρ 27 := zAllA hm 26
  have c2 : γ 2 = rUp (γ 1) 102 0 0 (ρ 21) := And.right (zChA hc 4)
  have c3 : γ 3 = rUp (γ 2) 102 0 1 (ρ 21) := And.right (zChA hc 3)
  have c4 : γ 4 = rUp (γ 3) 102 0 2 (ρ 26) := And.right (zChA hc 2)
  have c5 : γ 5 = rUp (γ 4) 102 0 3 (ρ 27) := And.right (zChA hc 1)
  have l0 : sn57 [ρ 7, ρ 0, ρ 2, ρ 19, ρ 28, ρ 29, ρ 30, ρ 10, ρ 17] (γ 5) 0 0 (γ 6) := hS57 _ _ _ _ _ (zAllA hl 0)
  show jn75 [ρ 0, ρ 1, ρ 2, ρ 3, ρ 4, ρ 5, ρ 6, ρ 7, ρ 8, ρ 9, ρ 10, ρ 11, ρ 12, ρ 13, ρ 14] (γ 0) 0 [ρ 0, ρ 1, ρ 2, ρ 3, ρ 4, ρ 5, ρ 6, ρ 7, ρ 8, ρ 9, ρ 10, ρ 11, ρ 12, ρ 13, ρ 14, ρ 15 + 1, ρ 16, ρ 35, ρ 18, ρ 31] (γ 6)
  have hD : en75 (γ 0) (0, [ρ 0, ρ 15], γ 1) = .inl (0, [ρ 0, ρ 15 + 1], γ 6) := by
    unfold en75
    refine zIP (show (0 : Nat) = 0 by decide) (zLV (γ 1) rfl (zLV (ρ 0) rfl (zLV (ρ 15) rfl (zLE m2 (zLE m6 (zLE m15 (zLE m16 ?_)))))))
    refine zIN w_0 (zIN w_1 (zIN w_2 (zLE m19 (zIP w_3 (zLE m20 (zLE m21 (zIN w_4 ?_)))))))
    refine zLE m22 (zIN w_5 (zLE c2.symm (zIN w_6 (zLE m23 (zIN w_7 (zLE c3.symm (zIN w_8 ?_)))))))
    refine zLE m24 (zIP w_9 (zLE m25 (zLE c4.symm (zIP w_10 (zLE m26 (zLE c5.symm (zLE (show fn57 [ρ 7, ρ 0] (γ 5) = (0, 0, γ 6) from l0.symm) ?_)))))))
    refine zLV (γ 6) rfl ?_
    rfl
  exact zGoo_ato hJ hD
theorem vn75a0_90 {S : Nat → zSpc} (hS57 : zIm S 57 sn57) (hS73 : zIm S 73 sn73) {a : List Int} {g : rHp} : ∀ (ρ : Nat → Int) (γ : Nat → rHp), jn75 a g 0 (zAg (zNA a75_ 0) ρ) (γ 1) → zO 15 S a g q75a0_90 ρ γ → zGl (fun i vs g1 => jn75 a g i vs g1) (sn75 a g) q75a0_90 ρ γ := by
  intro ρ γ hJ h
  obtain ⟨ha, hg, hr, hf, hm, hc, hl⟩ := h
  have ha : a = [ρ 0, ρ 1, ρ 2, ρ 3, ρ 4, ρ 5, ρ 6, ρ 7, ρ 8, ρ 9, ρ 10, ρ 11, ρ 12, ρ 13, ρ 14] := ha
  subst ha
  subst hg
  have hJ : jn75 [ρ 0, ρ 1, ρ 2, ρ 3, ρ 4, ρ 5, ρ 6, ρ 7, ρ 8, ρ 9, ρ 10, ρ 11, ρ 12, ρ 13, ρ 14] (γ 0) 0 [ρ 0, ρ 1, ρ 2, ρ 3, ρ 4, ρ 5, ρ 6, ρ 7, ρ 8, ρ 9, ρ 10, ρ 11, ρ 12, ρ 13, ρ 14, ρ 15, ρ 16, ρ 17, ρ 18, ρ 19] (γ 1) := hJ
  have r3 : (3 : Int) ≤ ρ 3 ∧ ρ 3 ≤ 4 := zRnA hr 3
  have r17 : (0 : Int) ≤ ρ 17 ∧ ρ 17 ≤ 0 := zRnA hr 17
  have r20 : (1 : Int) ≤ ρ 20 ∧ ρ 20 ≤ 1 := zRnA hr 20
  have r22 : (4 : Int) ≤ ρ 22 ∧ ρ 22 ≤ 4 := zRnA hr 22
  have r23 : (3 : Int) ≤ ρ 23 ∧ ρ 23 ≤ 3 := zRnA hr 23
  have r24 : (3 : Int) ≤ ρ 24 ∧ ρ 24 ≤ 3 := zRnA hr 24
  have r25 : (0 : Int) ≤ ρ 25 ∧ ρ 25 ≤ 2 := zRnA hr 25
  have r27 : (0 : Int) ≤ ρ 27 ∧ ρ 27 ≤ 2 := zRnA hr 27
  have f3 : (0 : Int) ≤ ρ 18 + -ρ 15 + (-1) := zAllA hf 3
  obtain ⟨w_0, w_1, w_2, w_3, w_4, w_5, w_6, w_7, w_8, w_9, w_10, w_11⟩ : (¬ (ρ 15 ≥ ρ 18)) ∧ (¬ (ρ 17 ≠ 0)) ∧ (¬ (ρ 3 ≤ 2)) ∧ (ρ 20 ≠ 0) ∧ (¬ (0 ≥ ρ 22)) ∧ (¬ (ρ 23 ≠ 3)) ∧ (¬ (1 ≥ ρ 22)) ∧ (¬ (ρ 24 ≠ 3)) ∧ (¬ (2 ≥ ρ 22)) ∧ (ρ 25 ≠ 3) ∧ (¬ (3 ≥ ρ 22)) ∧ (ρ 27 ≠ 3) := ⟨by omega, by omega, by omega, by omega, by omega, by omega, by omega, by omega, by omega, by omega, by omega, by omega⟩
  have m2 : γ 0 71 0 (ρ 0) = ρ 3 := zAllA hm 2
  have m6 : γ 0 69 0 (ρ 0) = ρ 7 := zAllA hm 6
  have m15 : γ 1 15 0 77 = ρ 17 := zAllA hm 15
  have m16 : γ 1 15 0 90 = ρ 18 := zAllA hm 16
  have m19 : γ 1 109 0 (ρ 15) = ρ 20 := zAllA hm 19
  have m20 : γ 1 108 0 (ρ 15) = ρ 21 := zAllA hm 20
  have m21 : γ 0 66 0 (ρ 7) = ρ 22 := zAllA hm 21
  have m22 : γ 0 70 0 (4 * ρ 0) = ρ 23 := zAllA hm 22
  have m23 : γ 0 70 0 (4 * ρ 0 + 1) = ρ 24 := zAllA hm 23
  have m24 : γ 0 70 0 (4 * ρ 0 + 2) = ρ 25 := zAllA hm 24
  have m25 : γ 1 105 0 (4 * ρ 15 + 2) = ρ 26 := zAllA hm 25
  have m26 : γ 0 70 0 (4 * ρ 0 + 3) = ρ 27 := zAllA hm 26
  have m27 : γ 1 105 0 (4 * ρ 15 + 3) = ρ 28 := zAllA hm 27
  have c2 : γ 2 = rUp (γ 1) 102 0 0 (ρ 21) := And.right (zChA hc 4)
  have c3 : γ 3 = rUp (γ 2) 102 0 1 (ρ 21) := And.right (zChA hc 3)
  have c4 : γ 4 = rUp (γ 3) 102 0 2 (ρ 26) := And.right (zChA hc 2)
  have c5 : γ 5 = rUp (γ 4) 102 0 3 (ρ 28) := And.right (zChA hc 1)
  have l0 : sn57 [ρ 7, ρ 0, ρ 2, ρ 19, ρ 29, ρ 30, ρ 31, ρ 10, ρ 17] (γ 5) 0 0 (γ 6) := hS57 _ _ _ _ _ (zAllA hl 0)
  show jn75 [ρ 0, ρ 1, ρ 2, ρ 3, ρ 4, ρ 5, ρ 6, ρ 7, ρ 8, ρ 9, ρ 10, ρ 11, ρ 12, ρ 13, ρ 14] (γ 0) 0 [ρ 0, ρ 1, ρ 2, ρ 3, ρ 4, ρ 5, ρ 6, ρ 7, ρ 8, ρ 9, ρ 10, ρ 11, ρ 12, ρ 13, ρ 14, ρ 15 + 1, ρ 16, ρ 36, ρ 18, ρ 32] (γ 6)
  have hD : en75 (γ 0) (0, [ρ 0, ρ 15], γ 1) = .inl (0, [ρ 0, ρ 15 + 1], γ 6) := by
    unfold en75
    refine zIP (show (0 : Nat) = 0 by decide) (zLV (γ 1) rfl (zLV (ρ 0) rfl (zLV (ρ 15) rfl (zLE m2 (zLE m6 (zLE m15 (zLE m16 ?_)))))))
    refine zIN w_0 (zIN w_1 (zIN w_2 (zLE m19 (zIP w_3 (zLE m20 (zLE m21 (zIN w_4 ?_)))))))
    refine zLE m22 (zIN w_5 (zLE c2.symm (zIN w_6 (zLE m23 (zIN w_7 (zLE c3.symm (zIN w_8 ?_)))))))
    refine zLE m24 (zIP w_9 (zLE m25 (zLE c4.symm (zIN w_10 (zLE m26 (zIP w_11 (zLE m27 ?_)))))))
    refine zLE c5.symm (zLE (show fn57 [ρ 7, ρ 0] (γ 5) = (0, 0, γ 6) from l0.symm) (zLV (γ 6) rfl ?_))
    rfl
  exact zGoo_ato hJ hD
theorem vn75a0_91 {S : Nat → zSpc} (hS57 : zIm S 57 sn57) (hS73 : zIm S 73 sn73) {a : List Int} {g : rHp} : ∀ (ρ : Nat → Int) (γ : Nat → rHp), jn75 a g 0 (zAg (zNA a75_ 0) ρ) (γ 1) → zO 15 S a g q75a0_91 ρ γ → zGl (fun i vs g1 => jn75 a g i vs g1) (sn75 a g) q75a0_91 ρ γ := by
  intro ρ γ hJ h
  obtain ⟨ha, hg, hr, hf, hm, hc, hl⟩ := h
  have ha : a = [ρ 0, ρ 1, ρ 2, ρ 3, ρ 4, ρ 5, ρ 6, ρ 7, ρ 8, ρ 9, ρ 10, ρ 11, ρ 12, ρ 13, ρ 14] := ha
  subst ha
  subst hg
  have hJ : jn75 [ρ 0, ρ 1, ρ 2, ρ 3, ρ 4, ρ 5, ρ 6, ρ 7, ρ 8, ρ 9, ρ 10, ρ 11, ρ 12, ρ 13, ρ 14] (γ 0) 0 [ρ 0, ρ 1, ρ 2, ρ 3, ρ 4, ρ 5, ρ 6, ρ 7, ρ 8, ρ 9, ρ 10, ρ 11, ρ 12, ρ 13, ρ 14, ρ 15, ρ 16, ρ 17, ρ 18, ρ 19] (γ 1) := hJ
  have r3 : (3 : Int) ≤ ρ 3 ∧ ρ 3 ≤ 4 := zRnA hr 3
  have r17 : (0 : Int) ≤ ρ 17 ∧ ρ 17 ≤ 0 := zRnA hr 17
  have r20 : (1 : Int) ≤ ρ 20 ∧ ρ 20 ≤ 1 := zRnA hr 20
  have r22 : (4 : Int) ≤ ρ 22 ∧ ρ 22 ≤ 4 := zRnA hr 22
  have r23 : (3 : Int) ≤ ρ 23 ∧ ρ 23 ≤ 3 := zRnA hr 23
  have r24 : (3 : Int) ≤ ρ 24 ∧ ρ 24 ≤ 3 := zRnA hr 24
  have r25 : (0 : Int) ≤ ρ 25 ∧ ρ 25 ≤ 2 := zRnA hr 25
  have r27 : (3 : Int) ≤ ρ 27 ∧ ρ 27 ≤ 3 := zRnA hr 27
  have f3 : (0 : Int) ≤ ρ 18 + -ρ 15 + (-1) := zAllA hf 3
  obtain ⟨w_0, w_1, w_2, w_3, w_4, w_5, w_6, w_7, w_8, w_9, w_10, w_11⟩ : (¬ (ρ 15 ≥ ρ 18)) ∧ (¬ (ρ 17 ≠ 0)) ∧ (¬ (ρ 3 ≤ 2)) ∧ (ρ 20 ≠ 0) ∧ (¬ (0 ≥ ρ 22)) ∧ (¬ (ρ 23 ≠ 3)) ∧ (¬ (1 ≥ ρ 22)) ∧ (¬ (ρ 24 ≠ 3)) ∧ (¬ (2 ≥ ρ 22)) ∧ (ρ 25 ≠ 3) ∧ (¬ (3 ≥ ρ 22)) ∧ (¬ (ρ 27 ≠ 3)) := ⟨by omega, by omega, by omega, by omega, by omega, by omega, by omega, by omega, by omega, by omega, by omega, by omega⟩
  have m2 : γ 0 71 0 (ρ 0) = ρ 3 := zAllA hm 2
  have m6 : γ 0 69 0 (ρ 0) = ρ 7 := zAllA hm 6
  have m15 : γ 1 15 0 77 = ρ 17 := zAllA hm 15
  have m16 : γ 1 15 0 90 = ρ 18 := zAllA hm 16
  have m19 : γ 1 109 0 (ρ 15) = ρ 20 := zAllA hm 19
  have m20 : γ 1 108 0 (ρ 15) = ρ 21 := zAllA hm 20
  have m21 : γ 0 66 0 (ρ 7) = ρ 22 := zAllA hm 21
  have m22 : γ 0 70 0 (4 * ρ 0) = ρ 23 := zAllA hm 22
  have m23 : γ 0 70 0 (4 * ρ 0 + 1) = ρ 24 := zAllA hm 23
  have m24 : γ 0 70 0 (4 * ρ 0 + 2) = ρ 25 := zAllA hm 24
  have m25 : γ 1 105 0 (4 * ρ 15 + 2) = ρ 26 := zAllA hm 25
  have m26 : γ 0 70 0 (4 * ρ 0 + 3) = ρ 27 := zAllA hm 26
  have c2 : γ 2 = rUp (γ 1) 102 0 0 (ρ 21) := And.right (zChA hc 4)
  have c3 : γ 3 = rUp (γ 2) 102 0 1 (ρ 21) := And.right (zChA hc 3)
  have c4 : γ 4 = rUp (γ 3) 102 0 2 (ρ 26) := And.right (zChA hc 2)
  have c5 : γ 5 = rUp (γ 4) 102 0 3 (ρ 21) := And.right (zChA hc 1)
  have l0 : sn57 [ρ 7, ρ 0, ρ 2, ρ 19, ρ 28, ρ 29, ρ 30, ρ 10, ρ 17] (γ 5) 0 0 (γ 6) := hS57 _ _ _ _ _ (zAllA hl 0)
  show jn75 [ρ 0, ρ 1, ρ 2, ρ 3, ρ 4, ρ 5, ρ 6, ρ 7, ρ 8, ρ 9, ρ 10, ρ 11, ρ 12, ρ 13, ρ 14] (γ 0) 0 [ρ 0, ρ 1, ρ 2, ρ 3, ρ 4, ρ 5, ρ 6, ρ 7, ρ 8, ρ 9, ρ 10, ρ 11, ρ 12, ρ 13, ρ 14, ρ 15 + 1, ρ 16, ρ 35, ρ 18, ρ 31] (γ 6)
  have hD : en75 (γ 0) (0, [ρ 0, ρ 15], γ 1) = .inl (0, [ρ 0, ρ 15 + 1], γ 6) := by
    unfold en75
    refine zIP (show (0 : Nat) = 0 by decide) (zLV (γ 1) rfl (zLV (ρ 0) rfl (zLV (ρ 15) rfl (zLE m2 (zLE m6 (zLE m15 (zLE m16 ?_)))))))
    refine zIN w_0 (zIN w_1 (zIN w_2 (zLE m19 (zIP w_3 (zLE m20 (zLE m21 (zIN w_4 ?_)))))))
    refine zLE m22 (zIN w_5 (zLE c2.symm (zIN w_6 (zLE m23 (zIN w_7 (zLE c3.symm (zIN w_8 ?_)))))))
    refine zLE m24 (zIP w_9 (zLE m25 (zLE c4.symm (zIN w_10 (zLE m26 (zIN w_11 (zLE c5.symm ?_)))))))
    refine zLE (show fn57 [ρ 7, ρ 0] (γ 5) = (0, 0, γ 6) from l0.symm) (zLV (γ 6) rfl ?_)
    rfl
  exact zGoo_ato hJ hD
theorem vn75a0_92 {S : Nat → zSpc} (hS57 : zIm S 57 sn57) (hS73 : zIm S 73 sn73) {a : List Int} {g : rHp} : ∀ (ρ : Nat → Int) (γ : Nat → rHp), jn75 a g 0 (zAg (zNA a75_ 0) ρ) (γ 1) → zO 15 S a g q75a0_92 ρ γ → zGl (fun i vs g1 => jn75 a g i vs g1) (sn75 a g) q75a0_92 ρ γ := by
  intro ρ γ hJ h
  obtain ⟨ha, hg, hr, hf, hm, hc, hl⟩ := h
  have ha : a = [ρ 0, ρ 1, ρ 2, ρ 3, ρ 4, ρ 5, ρ 6, ρ 7, ρ 8, ρ 9, ρ 10, ρ 11, ρ 12, ρ 13, ρ 14] := ha
  subst ha
  subst hg
  have hJ : jn75 [ρ 0, ρ 1, ρ 2, ρ 3, ρ 4, ρ 5, ρ 6, ρ 7, ρ 8, ρ 9, ρ 10, ρ 11, ρ 12, ρ 13, ρ 14] (γ 0) 0 [ρ 0, ρ 1, ρ 2, ρ 3, ρ 4, ρ 5, ρ 6, ρ 7, ρ 8, ρ 9, ρ 10, ρ 11, ρ 12, ρ 13, ρ 14, ρ 15, ρ 16, ρ 17, ρ 18, ρ 19] (γ 1) := hJ
  have r3 : (3 : Int) ≤ ρ 3 ∧ ρ 3 ≤ 4 := zRnA hr 3
  have r17 : (0 : Int) ≤ ρ 17 ∧ ρ 17 ≤ 0 := zRnA hr 17
  have r20 : (1 : Int) ≤ ρ 20 ∧ ρ 20 ≤ 1 := zRnA hr 20
  have r22 : (3 : Int) ≤ ρ 22 ∧ ρ 22 ≤ 3 := zRnA hr 22
  have r23 : (3 : Int) ≤ ρ 23 ∧ ρ 23 ≤ 3 := zRnA hr 23
  have r24 : (3 : Int) ≤ ρ 24 ∧ ρ 24 ≤ 3 := zRnA hr 24
  have r25 : (3 : Int) ≤ ρ 25 ∧ ρ 25 ≤ 3 := zRnA hr 25
  have f3 : (0 : Int) ≤ ρ 18 + -ρ 15 + (-1) := zAllA hf 3
  obtain ⟨w_0, w_1, w_2, w_3, w_4, w_5, w_6, w_7, w_8, w_9, w_10⟩ : (¬ (ρ 15 ≥ ρ 18)) ∧ (¬ (ρ 17 ≠ 0)) ∧ (¬ (ρ 3 ≤ 2)) ∧ (ρ 20 ≠ 0) ∧ (¬ (0 ≥ ρ 22)) ∧ (¬ (ρ 23 ≠ 3)) ∧ (¬ (1 ≥ ρ 22)) ∧ (¬ (ρ 24 ≠ 3)) ∧ (¬ (2 ≥ ρ 22)) ∧ (¬ (ρ 25 ≠ 3)) ∧ (3 ≥ ρ 22) := ⟨by omega, by omega, by omega, by omega, by omega, by omega, by omega, by omega, by omega, by omega, by omega⟩
  have m2 : γ 0 71 0 (ρ 0) = ρ 3 := zAllA hm 2
  have m6 : γ 0 69 0 (ρ 0) = ρ 7 := zAllA hm 6
  have m15 : γ 1 15 0 77 = ρ 17 := zAllA hm 15
  have m16 : γ 1 15 0 90 = ρ 18 := zAllA hm 16
  have m19 : γ 1 109 0 (ρ 15) = ρ 20 := zAllA hm 19
  have m20 : γ 1 108 0 (ρ 15) = ρ 21 := zAllA hm 20
  have m21 : γ 0 66 0 (ρ 7) = ρ 22 := zAllA hm 21
  have m22 : γ 0 70 0 (4 * ρ 0) = ρ 23 := zAllA hm 22
  have m23 : γ 0 70 0 (4 * ρ 0 + 1) = ρ 24 := zAllA hm 23
  have m24 : γ 0 70 0 (4 * ρ 0 + 2) = ρ 25 := zAllA hm 24
  have m25 : γ 1 105 0 (4 * ρ 15 + 3) = ρ 26 := zAllA hm 25
  have c2 : γ 2 = rUp (γ 1) 102 0 0 (ρ 21) := And.right (zChA hc 4)
  have c3 : γ 3 = rUp (γ 2) 102 0 1 (ρ 21) := And.right (zChA hc 3)
  have c4 : γ 4 = rUp (γ 3) 102 0 2 (ρ 21) := And.right (zChA hc 2)
  have c5 : γ 5 = rUp (γ 4) 102 0 3 (ρ 26) := And.right (zChA hc 1)
  have l0 : sn57 [ρ 7, ρ 0, ρ 2, ρ 19, ρ 27, ρ 28, ρ 29, ρ 10, ρ 17] (γ 5) 0 0 (γ 6) := hS57 _ _ _ _ _ (zAllA hl 0)
  show jn75 [ρ 0, ρ 1, ρ 2, ρ 3, ρ 4, ρ 5, ρ 6, ρ 7, ρ 8, ρ 9, ρ 10, ρ 11, ρ 12, ρ 13, ρ 14] (γ 0) 0 [ρ 0, ρ 1, ρ 2, ρ 3, ρ 4, ρ 5, ρ 6, ρ 7, ρ 8, ρ 9, ρ 10, ρ 11, ρ 12, ρ 13, ρ 14, ρ 15 + 1, ρ 16, ρ 34, ρ 18, ρ 30] (γ 6)
  have hD : en75 (γ 0) (0, [ρ 0, ρ 15], γ 1) = .inl (0, [ρ 0, ρ 15 + 1], γ 6) := by
    unfold en75
    refine zIP (show (0 : Nat) = 0 by decide) (zLV (γ 1) rfl (zLV (ρ 0) rfl (zLV (ρ 15) rfl (zLE m2 (zLE m6 (zLE m15 (zLE m16 ?_)))))))
    refine zIN w_0 (zIN w_1 (zIN w_2 (zLE m19 (zIP w_3 (zLE m20 (zLE m21 (zIN w_4 ?_)))))))
    refine zLE m22 (zIN w_5 (zLE c2.symm (zIN w_6 (zLE m23 (zIN w_7 (zLE c3.symm (zIN w_8 ?_)))))))
    refine zLE m24 (zIN w_9 (zLE c4.symm (zIP w_10 (zLE m25 (zLE c5.symm (zLE (show fn57 [ρ 7, ρ 0] (γ 5) = (0, 0, γ 6) from l0.symm) (zLV (γ 6) rfl ?_)))))))
    rfl
  exact zGoo_ato hJ hD
theorem vn75a0_93 {S : Nat → zSpc} (hS57 : zIm S 57 sn57) (hS73 : zIm S 73 sn73) {a : List Int} {g : rHp} : ∀ (ρ : Nat → Int) (γ : Nat → rHp), jn75 a g 0 (zAg (zNA a75_ 0) ρ) (γ 1) → zO 15 S a g q75a0_93 ρ γ → zGl (fun i vs g1 => jn75 a g i vs g1) (sn75 a g) q75a0_93 ρ γ := by
  intro ρ γ hJ h
  obtain ⟨ha, hg, hr, hf, hm, hc, hl⟩ := h
  have ha : a = [ρ 0, ρ 1, ρ 2, ρ 3, ρ 4, ρ 5, ρ 6, ρ 7, ρ 8, ρ 9, ρ 10, ρ 11, ρ 12, ρ 13, ρ 14] := ha
  subst ha
  subst hg
  have hJ : jn75 [ρ 0, ρ 1, ρ 2, ρ 3, ρ 4, ρ 5, ρ 6, ρ 7, ρ 8, ρ 9, ρ 10, ρ 11, ρ 12, ρ 13, ρ 14] (γ 0) 0 [ρ 0, ρ 1, ρ 2, ρ 3, ρ 4, ρ 5, ρ 6, ρ 7, ρ 8, ρ 9, ρ 10, ρ 11, ρ 12, ρ 13, ρ 14, ρ 15, ρ 16, ρ 17, ρ 18, ρ 19] (γ 1) := hJ
  have r3 : (3 : Int) ≤ ρ 3 ∧ ρ 3 ≤ 4 := zRnA hr 3
  have r17 : (0 : Int) ≤ ρ 17 ∧ ρ 17 ≤ 0 := zRnA hr 17
  have r20 : (1 : Int) ≤ ρ 20 ∧ ρ 20 ≤ 1 := zRnA hr 20
  have r22 : (4 : Int) ≤ ρ 22 ∧ ρ 22 ≤ 4 := zRnA hr 22
  have r23 : (3 : Int) ≤ ρ 23 ∧ ρ 23 ≤ 3 := zRnA hr 23
  have r24 : (3 : Int) ≤ ρ 24 ∧ ρ 24 ≤ 3 := zRnA hr 24
  have r25 : (3 : Int) ≤ ρ 25 ∧ ρ 25 ≤ 3 := zRnA hr 25
  have r26 : (0 : Int) ≤ ρ 26 ∧ ρ 26 ≤ 2 := zRnA hr 26
  have f3 : (0 : Int) ≤ ρ 18 + -ρ 15 + (-1) := zAllA hf 3
  obtain ⟨w_0, w_1, w_2, w_3, w_4, w_5, w_6, w_7, w_8, w_9, w_10, w_11⟩ : (¬ (ρ 15 ≥ ρ 18)) ∧ (¬ (ρ 17 ≠ 0)) ∧ (¬ (ρ 3 ≤ 2)) ∧ (ρ 20 ≠ 0) ∧ (¬ (0 ≥ ρ 22)) ∧ (¬ (ρ 23 ≠ 3)) ∧ (¬ (1 ≥ ρ 22)) ∧ (¬ (ρ 24 ≠ 3)) ∧ (¬ (2 ≥ ρ 22)) ∧ (¬ (ρ 25 ≠ 3)) ∧ (¬ (3 ≥ ρ 22)) ∧ (ρ 26 ≠ 3) := ⟨by omega, by omega, by omega, by omega, by omega, by omega, by omega, by omega, by omega, by omega, by omega, by omega⟩
  have m2 : γ 0 71 0 (ρ 0) = ρ 3 := zAllA hm 2
  have m6 : γ 0 69 0 (ρ 0) = ρ 7 := zAllA hm 6
  have m15 : γ 1 15 0 77 = ρ 17 := zAllA hm 15
  have m16 : γ 1 15 0 90 = ρ 18 := zAllA hm 16
  have m19 : γ 1 109 0 (ρ 15) = ρ 20 := zAllA hm 19
  have m20 : γ 1 108 0 (ρ 15) = ρ 21 := zAllA hm 20
  have m21 : γ 0 66 0 (ρ 7) = ρ 22 := zAllA hm 21
  have m22 : γ 0 70 0 (4 * ρ 0) = ρ 23 := zAllA hm 22
  have m23 : γ 0 70 0 (4 * ρ 0 + 1) = ρ 24 := zAllA hm 23
  have m24 : γ 0 70 0 (4 * ρ 0 + 2) = ρ 25 := zAllA hm 24
  have m25 : γ 0 70 0 (4 * ρ 0 + 3) = ρ 26 := zAllA hm 25
  have m26 : γ 1 105 0 (4 * ρ 15 + 3) = ρ 27 := zAllA hm 26
  have c2 : γ 2 = rUp (γ 1) 102 0 0 (ρ 21) := And.right (zChA hc 4)
  have c3 : γ 3 = rUp (γ 2) 102 0 1 (ρ 21) := And.right (zChA hc 3)
  have c4 : γ 4 = rUp (γ 3) 102 0 2 (ρ 21) := And.right (zChA hc 2)
  have c5 : γ 5 = rUp (γ 4) 102 0 3 (ρ 27) := And.right (zChA hc 1)
  have l0 : sn57 [ρ 7, ρ 0, ρ 2, ρ 19, ρ 28, ρ 29, ρ 30, ρ 10, ρ 17] (γ 5) 0 0 (γ 6) := hS57 _ _ _ _ _ (zAllA hl 0)
  show jn75 [ρ 0, ρ 1, ρ 2, ρ 3, ρ 4, ρ 5, ρ 6, ρ 7, ρ 8, ρ 9, ρ 10, ρ 11, ρ 12, ρ 13, ρ 14] (γ 0) 0 [ρ 0, ρ 1, ρ 2, ρ 3, ρ 4, ρ 5, ρ 6, ρ 7, ρ 8, ρ 9, ρ 10, ρ 11, ρ 12, ρ 13, ρ 14, ρ 15 + 1, ρ 16, ρ 35, ρ 18, ρ 31] (γ 6)
  have hD : en75 (γ 0) (0, [ρ 0, ρ 15], γ 1) = .inl (0, [ρ 0, ρ 15 + 1], γ 6) := by
    unfold en75
    refine zIP (show (0 : Nat) = 0 by decide) (zLV (γ 1) rfl (zLV (ρ 0) rfl (zLV (ρ 15) rfl (zLE m2 (zLE m6 (zLE m15 (zLE m16 ?_)))))))
    refine zIN w_0 (zIN w_1 (zIN w_2 (zLE m19 (zIP w_3 (zLE m20 (zLE m21 (zIN w_4 ?_)))))))
    refine zLE m22 (zIN w_5 (zLE c2.symm (zIN w_6 (zLE m23 (zIN w_7 (zLE c3.symm (zIN w_8 ?_)))))))
    refine zLE m24 (zIN w_9 (zLE c4.symm (zIN w_10 (zLE m25 (zIP w_11 (zLE m26 (zLE c5.symm ?_)))))))
    refine zLE (show fn57 [ρ 7, ρ 0] (γ 5) = (0, 0, γ 6) from l0.symm) (zLV (γ 6) rfl ?_)
    rfl
  exact zGoo_ato hJ hD
theorem vn75a0_94 {S : Nat → zSpc} (hS57 : zIm S 57 sn57) (hS73 : zIm S 73 sn73) {a : List Int} {g : rHp} : ∀ (ρ : Nat → Int) (γ : Nat → rHp), jn75 a g 0 (zAg (zNA a75_ 0) ρ) (γ 1) → zO 15 S a g q75a0_94 ρ γ → zGl (fun i vs g1 => jn75 a g i vs g1) (sn75 a g) q75a0_94 ρ γ := by
  intro ρ γ hJ h
  obtain ⟨ha, hg, hr, hf, hm, hc, hl⟩ := h
  have ha : a = [ρ 0, ρ 1, ρ 2, ρ 3, ρ 4, ρ 5, ρ 6, ρ 7, ρ 8, ρ 9, ρ 10, ρ 11, ρ 12, ρ 13, ρ 14] := ha
  subst ha
  subst hg
  have hJ : jn75 [ρ 0, ρ 1, ρ 2, ρ 3, ρ 4, ρ 5, ρ 6, ρ 7, ρ 8, ρ 9, ρ 10, ρ 11, ρ 12, ρ 13, ρ 14] (γ 0) 0 [ρ 0, ρ 1, ρ 2, ρ 3, ρ 4, ρ 5, ρ 6, ρ 7, ρ 8, ρ 9, ρ 10, ρ 11, ρ 12, ρ 13, ρ 14, ρ 15, ρ 16, ρ 17, ρ 18, ρ 19] (γ 1) := hJ
  have r3 : (3 : Int) ≤ ρ 3 ∧ ρ 3 ≤ 4 := zRnA hr 3
  have r17 : (0 : Int) ≤ ρ 17 ∧ ρ 17 ≤ 0 := zRnA hr 17
  have r20 : (1 : Int) ≤ ρ 20 ∧ ρ 20 ≤ 1 := zRnA hr 20
  have r22 : (4 : Int) ≤ ρ 22 ∧ ρ 22 ≤ 4 := zRnA hr 22
  have r23 : (3 : Int) ≤ ρ 23 ∧ ρ 23 ≤ 3 := zRnA hr 23
  have r24 : (3 : Int) ≤ ρ 24 ∧ ρ 24 ≤ 3 := zRnA hr 24
  have r25 : (3 : Int) ≤ ρ 25 ∧ ρ 25 ≤ 3 := zRnA hr 25
  have r26 : (3 : Int) ≤ ρ 26 ∧ ρ 26 ≤ 3 := zRnA hr 26
  have f3 : (0 : Int) ≤ ρ 18 + -ρ 15 + (-1) := zAllA hf 3
  obtain ⟨w_0, w_1, w_2, w_3, w_4, w_5, w_6, w_7, w_8, w_9, w_10, w_11⟩ : (¬ (ρ 15 ≥ ρ 18)) ∧ (¬ (ρ 17 ≠ 0)) ∧ (¬ (ρ 3 ≤ 2)) ∧ (ρ 20 ≠ 0) ∧ (¬ (0 ≥ ρ 22)) ∧ (¬ (ρ 23 ≠ 3)) ∧ (¬ (1 ≥ ρ 22)) ∧ (¬ (ρ 24 ≠ 3)) ∧ (¬ (2 ≥ ρ 22)) ∧ (¬ (ρ 25 ≠ 3)) ∧ (¬ (3 ≥ ρ 22)) ∧ (¬ (ρ 26 ≠ 3)) := ⟨by omega, by omega, by omega, by omega, by omega, by omega, by omega, by omega, by omega, by omega, by omega, by omega⟩
  have m2 : γ 0 71 0 (ρ 0) = ρ 3 := zAllA hm 2
  have m6 : γ 0 69 0 (ρ 0) = ρ 7 := zAllA hm 6
  have m15 : γ 1 15 0 77 = ρ 17 := zAllA hm 15
  have m16 : γ 1 15 0 90 = ρ 18 := zAllA hm 16
  have m19 : γ 1 109 0 (ρ 15) = ρ 20 := zAllA hm 19
  have m20 : γ 1 108 0 (ρ 15) = ρ 21 := zAllA hm 20
  have m21 : γ 0 66 0 (ρ 7) = ρ 22 := zAllA hm 21
  have m22 : γ 0 70 0 (4 * ρ 0) = ρ 23 := zAllA hm 22
  have m23 : γ 0 70 0 (4 * ρ 0 + 1) = ρ 24 := zAllA hm 23
  have m24 : γ 0 70 0 (4 * ρ 0 + 2) = ρ 25 := zAllA hm 24
  have m25 : γ 0 70 0 (4 * ρ 0 + 3) = ρ 26 := zAllA hm 25
  have c2 : γ 2 = rUp (γ 1) 102 0 0 (ρ 21) := And.right (zChA hc 4)
  have c3 : γ 3 = rUp (γ 2) 102 0 1 (ρ 21) := And.right (zChA hc 3)
  have c4 : γ 4 = rUp (γ 3) 102 0 2 (ρ 21) := And.right (zChA hc 2)
  have c5 : γ 5 = rUp (γ 4) 102 0 3 (ρ 21) := And.right (zChA hc 1)
  have l0 : sn57 [ρ 7, ρ 0, ρ 2, ρ 19, ρ 27, ρ 28, ρ 29, ρ 10, ρ 17] (γ 5) 0 0 (γ 6) := hS57 _ _ _ _ _ (zAllA hl 0)
  show jn75 [ρ 0, ρ 1, ρ 2, ρ 3, ρ 4, ρ 5, ρ 6, ρ 7, ρ 8, ρ 9, ρ 10, ρ 11, ρ 12, ρ 13, ρ 14] (γ 0) 0 [ρ 0, ρ 1, ρ 2, ρ 3, ρ 4, ρ 5, ρ 6, ρ 7, ρ 8, ρ 9, ρ 10, ρ 11, ρ 12, ρ 13, ρ 14, ρ 15 + 1, ρ 16, ρ 34, ρ 18, ρ 30] (γ 6)
  have hD : en75 (γ 0) (0, [ρ 0, ρ 15], γ 1) = .inl (0, [ρ 0, ρ 15 + 1], γ 6) := by
    unfold en75
    refine zIP (show (0 : Nat) = 0 by decide) (zLV (γ 1) rfl (zLV (ρ 0) rfl (zLV (ρ 15) rfl (zLE m2 (zLE m6 (zLE m15 (zLE m16 ?_)))))))
    refine zIN w_0 (zIN w_1 (zIN w_2 (zLE m19 (zIP w_3 (zLE m20 (zLE m21 (zIN w_4 ?_)))))))
    refine zLE m22 (zIN w_5 (zLE c2.symm (zIN w_6 (zLE m23 (zIN w_7 (zLE c3.symm (zIN w_8 ?_)))))))
    refine zLE m24 (zIN w_9 (zLE c4.symm (zIN w_10 (zLE m25 (zIN w_11 (zLE c5.symm (zLE (show fn57 [ρ 7, ρ 0] (γ 5) = (0, 0, γ 6) from l0.symm) ?_)))))))
    refine zLV (γ 6) rfl ?_
    rfl
  exact zGoo_ato hJ hD
theorem vn75a0_95 {S : Nat → zSpc} (hS57 : zIm S 57 sn57) (hS73 : zIm S 73 sn73) {a : List Int} {g : rHp} : ∀ (ρ : Nat → Int) (γ : Nat → rHp), jn75 a g 0 (zAg (zNA a75_ 0) ρ) (γ 1) → zO 15 S a g q75a0_95 ρ γ → zGl (fun i vs g1 => jn75 a g i vs g1) (sn75 a g) q75a0_95 ρ γ := by
  intro ρ γ hJ h
  obtain ⟨ha, hg, hr, hf, hm, hc, hl⟩ := h
  have ha : a = [ρ 0, ρ 1, ρ 2, ρ 3, ρ 4, ρ 5, ρ 6, ρ 7, ρ 8, ρ 9, ρ 10, ρ 11, ρ 12, ρ 13, ρ 14] := ha
  subst ha
  subst hg
  have hJ : jn75 [ρ 0, ρ 1, ρ 2, ρ 3, ρ 4, ρ 5, ρ 6, ρ 7, ρ 8, ρ 9, ρ 10, ρ 11, ρ 12, ρ 13, ρ 14] (γ 0) 0 [ρ 0, ρ 1, ρ 2, ρ 3, ρ 4, ρ 5, ρ 6, ρ 7, ρ 8, ρ 9, ρ 10, ρ 11, ρ 12, ρ 13, ρ 14, ρ 15, ρ 16, ρ 17, ρ 18, ρ 19] (γ 1) := hJ
  have r3 : (3 : Int) ≤ ρ 3 ∧ ρ 3 ≤ 4 := zRnA hr 3
  have r17 : (0 : Int) ≤ ρ 17 ∧ ρ 17 ≤ 0 := zRnA hr 17
  have r20 : (0 : Int) ≤ ρ 20 ∧ ρ 20 ≤ 0 := zRnA hr 20
  have f0 : (0 : Int) ≤ ρ 18 + -ρ 15 + (-1) := zAllA hf 0
  obtain ⟨w_0, w_1, w_2, w_3⟩ : (¬ (ρ 15 ≥ ρ 18)) ∧ (¬ (ρ 17 ≠ 0)) ∧ (¬ (ρ 3 ≤ 2)) ∧ (¬ (ρ 20 ≠ 0)) := ⟨by omega, by omega, by omega, by omega⟩
  have m2 : γ 0 71 0 (ρ 0) = ρ 3 := zAllA hm 2
  have m6 : γ 0 69 0 (ρ 0) = ρ 7 := zAllA hm 6
  have m15 : γ 1 15 0 77 = ρ 17 := zAllA hm 15
  have m16 : γ 1 15 0 90 = ρ 18 := zAllA hm 16
  have m19 : γ 1 109 0 (ρ 15) = ρ 20 := zAllA hm 19
  show jn75 [ρ 0, ρ 1, ρ 2, ρ 3, ρ 4, ρ 5, ρ 6, ρ 7, ρ 8, ρ 9, ρ 10, ρ 11, ρ 12, ρ 13, ρ 14] (γ 0) 0 [ρ 0, ρ 1, ρ 2, ρ 3, ρ 4, ρ 5, ρ 6, ρ 7, ρ 8, ρ 9, ρ 10, ρ 11, ρ 12, ρ 13, ρ 14, ρ 15 + 1, ρ 16, ρ 17, ρ 18, ρ 19] (γ 1)
  have hD : en75 (γ 0) (0, [ρ 0, ρ 15], γ 1) = .inl (0, [ρ 0, ρ 15 + 1], γ 1) := by
    unfold en75
    refine zIP (show (0 : Nat) = 0 by decide) (zLV (γ 1) rfl (zLV (ρ 0) rfl (zLV (ρ 15) rfl (zLE m2 (zLE m6 (zLE m15 (zLE m16 ?_)))))))
    refine zIN w_0 (zIN w_1 (zIN w_2 (zLE m19 (zIN w_3 ?_))))
    rfl
  exact zGoo_ato hJ hD
theorem yn75 {S : Nat → zSpc} (hS57 : zIm S 57 sn57) (hS73 : zIm S 73 sn73) : ∀ x g o v gz, zSem uW uT w75_.2.2.2.1 w75_.2.2.1.1.length S q75 (fun i => q75a.getD i []) (zNA a75_) x g o v gz → sn75 x g o v gz := by
  intro a g o v gz h
  exact zSem_all (l0 := q75) (las := q75a) (S := S) (J := (fun i vs g1 => jn75 a g i vs g1)) (P := sn75 a g) (fun _ => (show zAll _ [q75_0] from (zAll_c (vn75_0 hS57 hS73) zAll_n))) (fun _ => (show zAllI _ 0 [q75a0] from ⟨(show zAll _ [q75a0_0, q75a0_1, q75a0_2, q75a0_3, q75a0_4, q75a0_5, q75a0_6, q75a0_7, q75a0_8, q75a0_9, q75a0_10, q75a0_11, q75a0_12, q75a0_13, q75a0_14, q75a0_15, q75a0_16, q75a0_17, q75a0_18, q75a0_19, q75a0_20, q75a0_21, q75a0_22, q75a0_23, q75a0_24, q75a0_25, q75a0_26, q75a0_27, q75a0_28, q75a0_29, q75a0_30, q75a0_31, q75a0_32, q75a0_33, q75a0_34, q75a0_35, q75a0_36, q75a0_37, q75a0_38, q75a0_39, q75a0_40, q75a0_41, q75a0_42, q75a0_43, q75a0_44, q75a0_45, q75a0_46, q75a0_47, q75a0_48, q75a0_49, q75a0_50, q75a0_51, q75a0_52, q75a0_53, q75a0_54, q75a0_55, q75a0_56, q75a0_57, q75a0_58, q75a0_59, q75a0_60, q75a0_61, q75a0_62, q75a0_63, q75a0_64, q75a0_65, q75a0_66, q75a0_67, q75a0_68, q75a0_69, q75a0_70, q75a0_71, q75a0_72, q75a0_73, q75a0_74, q75a0_75, q75a0_76, q75a0_77, q75a0_78, q75a0_79, q75a0_80, q75a0_81, q75a0_82, q75a0_83, q75a0_84, q75a0_85, q75a0_86, q75a0_87, q75a0_88, q75a0_89, q75a0_90, q75a0_91, q75a0_92, q75a0_93, q75a0_94, q75a0_95] from (zAll_c (vn75a0_0 hS57 hS73) (zAll_c (vn75a0_1 hS57 hS73) (zAll_c (vn75a0_2 hS57 hS73) (zAll_c (vn75a0_3 hS57 hS73) (zAll_c (vn75a0_4 hS57 hS73) (zAll_c (vn75a0_5 hS57 hS73) (zAll_c (vn75a0_6 hS57 hS73) (zAll_c (vn75a0_7 hS57 hS73) (zAll_c (vn75a0_8 hS57 hS73) (zAll_c (vn75a0_9 hS57 hS73) (zAll_c (vn75a0_10 hS57 hS73) (zAll_c (vn75a0_11 hS57 hS73) (zAll_c (vn75a0_12 hS57 hS73) (zAll_c (vn75a0_13 hS57 hS73) (zAll_c (vn75a0_14 hS57 hS73) (zAll_c (vn75a0_15 hS57 hS73) (zAll_c (vn75a0_16 hS57 hS73) (zAll_c (vn75a0_17 hS57 hS73) (zAll_c (vn75a0_18 hS57 hS73) (zAll_c (vn75a0_19 hS57 hS73) (zAll_c (vn75a0_20 hS57 hS73) (zAll_c (vn75a0_21 hS57 hS73) (zAll_c (vn75a0_22 hS57 hS73) (zAll_c (vn75a0_23 hS57 hS73) (zAll_c (vn75a0_24 hS57 hS73) (zAll_c (vn75a0_25 hS57 hS73) (zAll_c (vn75a0_26 hS57 hS73) (zAll_c (vn75a0_27 hS57 hS73) (zAll_c (vn75a0_28 hS57 hS73) (zAll_c (vn75a0_29 hS57 hS73) (zAll_c (vn75a0_30 hS57 hS73) (zAll_c (vn75a0_31 hS57 hS73) (zAll_c (vn75a0_32 hS57 hS73) (zAll_c (vn75a0_33 hS57 hS73) (zAll_c (vn75a0_34 hS57 hS73) (zAll_c (vn75a0_35 hS57 hS73) (zAll_c (vn75a0_36 hS57 hS73) (zAll_c (vn75a0_37 hS57 hS73) (zAll_c (vn75a0_38 hS57 hS73) (zAll_c (vn75a0_39 hS57 hS73) (zAll_c (vn75a0_40 hS57 hS73) (zAll_c (vn75a0_41 hS57 hS73) (zAll_c (vn75a0_42 hS57 hS73) (zAll_c (vn75a0_43 hS57 hS73) (zAll_c (vn75a0_44 hS57 hS73) (zAll_c (vn75a0_45 hS57 hS73) (zAll_c (vn75a0_46 hS57 hS73) (zAll_c (vn75a0_47 hS57 hS73) (zAll_c (vn75a0_48 hS57 hS73) (zAll_c (vn75a0_49 hS57 hS73) (zAll_c (vn75a0_50 hS57 hS73) (zAll_c (vn75a0_51 hS57 hS73) (zAll_c (vn75a0_52 hS57 hS73) (zAll_c (vn75a0_53 hS57 hS73) (zAll_c (vn75a0_54 hS57 hS73) (zAll_c (vn75a0_55 hS57 hS73) (zAll_c (vn75a0_56 hS57 hS73) (zAll_c (vn75a0_57 hS57 hS73) (zAll_c (vn75a0_58 hS57 hS73) (zAll_c (vn75a0_59 hS57 hS73) (zAll_c (vn75a0_60 hS57 hS73) (zAll_c (vn75a0_61 hS57 hS73) (zAll_c (vn75a0_62 hS57 hS73) (zAll_c (vn75a0_63 hS57 hS73) (zAll_c (vn75a0_64 hS57 hS73) (zAll_c (vn75a0_65 hS57 hS73) (zAll_c (vn75a0_66 hS57 hS73) (zAll_c (vn75a0_67 hS57 hS73) (zAll_c (vn75a0_68 hS57 hS73) (zAll_c (vn75a0_69 hS57 hS73) (zAll_c (vn75a0_70 hS57 hS73) (zAll_c (vn75a0_71 hS57 hS73) (zAll_c (vn75a0_72 hS57 hS73) (zAll_c (vn75a0_73 hS57 hS73) (zAll_c (vn75a0_74 hS57 hS73) (zAll_c (vn75a0_75 hS57 hS73) (zAll_c (vn75a0_76 hS57 hS73) (zAll_c (vn75a0_77 hS57 hS73) (zAll_c (vn75a0_78 hS57 hS73) (zAll_c (vn75a0_79 hS57 hS73) (zAll_c (vn75a0_80 hS57 hS73) (zAll_c (vn75a0_81 hS57 hS73) (zAll_c (vn75a0_82 hS57 hS73) (zAll_c (vn75a0_83 hS57 hS73) (zAll_c (vn75a0_84 hS57 hS73) (zAll_c (vn75a0_85 hS57 hS73) (zAll_c (vn75a0_86 hS57 hS73) (zAll_c (vn75a0_87 hS57 hS73) (zAll_c (vn75a0_88 hS57 hS73) (zAll_c (vn75a0_89 hS57 hS73) (zAll_c (vn75a0_90 hS57 hS73) (zAll_c (vn75a0_91 hS57 hS73) (zAll_c (vn75a0_92 hS57 hS73) (zAll_c (vn75a0_93 hS57 hS73) (zAll_c (vn75a0_94 hS57 hS73) (zAll_c (vn75a0_95 hS57 hS73) zAll_n))))))))))))))))))))))))))))))))))))))))))))))))))))))))))))))))))))))))))))))))))))))))))))))))), trivial⟩)) h
