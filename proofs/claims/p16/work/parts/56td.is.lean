/-! ===== the runs are the functions ===== -/
theorem vn76_0 {S : Nat → zSpc} (hS57 : zIm S 57 sn57) (hS71 : zIm S 71 sn71) (hS72 : zIm S 72 sn72) (hS75 : zIm S 75 sn75) {a : List Int} {g : rHp} : ∀ (ρ : Nat → Int) (γ : Nat → rHp), zO 15 S a g q76_0 ρ γ → zGl (fun i vs g1 => jn76 a g i vs g1) (sn76 a g) q76_0 ρ γ := by
  intro ρ γ h
  obtain ⟨ha, hg, hr, hf, hm, hc, hl⟩ := h
  have ha : a = [ρ 0, ρ 1, ρ 2, ρ 3, ρ 4, ρ 5, ρ 6, ρ 7, ρ 8, ρ 9, ρ 10, ρ 11, ρ 12, ρ 13, ρ 14] := ha
  subst ha
  subst hg
  have c1 : γ 1 = rUp (γ 0) 15 0 76 0 := And.right (zChA hc 0)
  show jn76 [ρ 0, ρ 1, ρ 2, ρ 3, ρ 4, ρ 5, ρ 6, ρ 7, ρ 8, ρ 9, ρ 10, ρ 11, ρ 12, ρ 13, ρ 14] (γ 0) 0 [ρ 0, ρ 1, ρ 2, ρ 3, ρ 4, ρ 5, ρ 6, ρ 7, ρ 8, ρ 9, ρ 10, ρ 11, ρ 12, ρ 13, ρ 14, 0, ρ 4, ρ 6, 0] (γ 1)
  have hD : dn76 [ρ 0] (γ 0) = .inl (0, [ρ 0, 0], γ 1) := by
    unfold dn76
    refine zLV (ρ 0) rfl (zLE c1.symm ?_)
    rfl
  exact zGoo_to hD
theorem vn76a0_0 {S : Nat → zSpc} (hS57 : zIm S 57 sn57) (hS71 : zIm S 71 sn71) (hS72 : zIm S 72 sn72) (hS75 : zIm S 75 sn75) {a : List Int} {g : rHp} : ∀ (ρ : Nat → Int) (γ : Nat → rHp), jn76 a g 0 (zAg (zNA a76_ 0) ρ) (γ 1) → zO 15 S a g q76a0_0 ρ γ → zGl (fun i vs g1 => jn76 a g i vs g1) (sn76 a g) q76a0_0 ρ γ := by
  intro ρ γ hJ h
  obtain ⟨ha, hg, hr, hf, hm, hc, hl⟩ := h
  have ha : a = [ρ 0, ρ 1, ρ 2, ρ 3, ρ 4, ρ 5, ρ 6, ρ 7, ρ 8, ρ 9, ρ 10, ρ 11, ρ 12, ρ 13, ρ 14] := ha
  subst ha
  subst hg
  have hJ : jn76 [ρ 0, ρ 1, ρ 2, ρ 3, ρ 4, ρ 5, ρ 6, ρ 7, ρ 8, ρ 9, ρ 10, ρ 11, ρ 12, ρ 13, ρ 14] (γ 0) 0 [ρ 0, ρ 1, ρ 2, ρ 3, ρ 4, ρ 5, ρ 6, ρ 7, ρ 8, ρ 9, ρ 10, ρ 11, ρ 12, ρ 13, ρ 14, ρ 15, ρ 16, ρ 17, ρ 18] (γ 1) := hJ
  have f0 : (0 : Int) ≤ ρ 15 + -ρ 3 := zAllA hf 0
  have w_0 : ρ 15 ≥ ρ 3 := by omega
  have m2 : γ 0 15 0 17 = ρ 3 := zAllA hm 2
  have m15 : γ 1 15 0 77 = ρ 17 := zAllA hm 15
  show jn76 [ρ 0, ρ 1, ρ 2, ρ 3, ρ 4, ρ 5, ρ 6, ρ 7, ρ 8, ρ 9, ρ 10, ρ 11, ρ 12, ρ 13, ρ 14] (γ 0) 1 [ρ 0, ρ 1, ρ 2, ρ 3, ρ 4, ρ 5, ρ 6, ρ 7, ρ 8, ρ 9, ρ 10, ρ 11, ρ 12, ρ 13, ρ 14, 0, ρ 16, ρ 5, ρ 17, ρ 18, ρ 10, ρ 13] (γ 1)
  have hD : en76 (γ 0) (0, [ρ 0, ρ 15], γ 1) = .inl (1, [ρ 0, 0], γ 1) := by
    unfold en76
    refine zIP (show (0 : Nat) = 0 by decide) (zLV (γ 1) rfl (zLV (ρ 0) rfl (zLV (ρ 15) rfl (zLE m2 (zLE m15 (zIP w_0 ?_))))))
    rfl
  exact zGoo_ato hJ hD
theorem vn76a0_1 {S : Nat → zSpc} (hS57 : zIm S 57 sn57) (hS71 : zIm S 71 sn71) (hS72 : zIm S 72 sn72) (hS75 : zIm S 75 sn75) {a : List Int} {g : rHp} : ∀ (ρ : Nat → Int) (γ : Nat → rHp), jn76 a g 0 (zAg (zNA a76_ 0) ρ) (γ 1) → zO 15 S a g q76a0_1 ρ γ → zGl (fun i vs g1 => jn76 a g i vs g1) (sn76 a g) q76a0_1 ρ γ := by
  intro ρ γ hJ h
  obtain ⟨ha, hg, hr, hf, hm, hc, hl⟩ := h
  have ha : a = [ρ 0, ρ 1, ρ 2, ρ 3, ρ 4, ρ 5, ρ 6, ρ 7, ρ 8, ρ 9, ρ 10, ρ 11, ρ 12, ρ 13, ρ 14] := ha
  subst ha
  subst hg
  have hJ : jn76 [ρ 0, ρ 1, ρ 2, ρ 3, ρ 4, ρ 5, ρ 6, ρ 7, ρ 8, ρ 9, ρ 10, ρ 11, ρ 12, ρ 13, ρ 14] (γ 0) 0 [ρ 0, ρ 1, ρ 2, ρ 3, ρ 4, ρ 5, ρ 6, ρ 7, ρ 8, ρ 9, ρ 10, ρ 11, ρ 12, ρ 13, ρ 14, ρ 15, ρ 16, ρ 17, ρ 18] (γ 1) := hJ
  have r17 : (1 : Int) ≤ ρ 17 ∧ ρ 17 ≤ 3 := zRnA hr 17
  have f0 : (0 : Int) ≤ -ρ 15 + ρ 3 + (-1) := zAllA hf 0
  obtain ⟨w_0, w_1⟩ : (¬ (ρ 15 ≥ ρ 3)) ∧ (ρ 17 ≠ 0) := ⟨by omega, by omega⟩
  have m2 : γ 0 15 0 17 = ρ 3 := zAllA hm 2
  have m15 : γ 1 15 0 77 = ρ 17 := zAllA hm 15
  show jn76 [ρ 0, ρ 1, ρ 2, ρ 3, ρ 4, ρ 5, ρ 6, ρ 7, ρ 8, ρ 9, ρ 10, ρ 11, ρ 12, ρ 13, ρ 14] (γ 0) 1 [ρ 0, ρ 1, ρ 2, ρ 3, ρ 4, ρ 5, ρ 6, ρ 7, ρ 8, ρ 9, ρ 10, ρ 11, ρ 12, ρ 13, ρ 14, 0, ρ 16, ρ 5, ρ 17, ρ 18, ρ 10, ρ 13] (γ 1)
  have hD : en76 (γ 0) (0, [ρ 0, ρ 15], γ 1) = .inl (1, [ρ 0, 0], γ 1) := by
    unfold en76
    refine zIP (show (0 : Nat) = 0 by decide) (zLV (γ 1) rfl (zLV (ρ 0) rfl (zLV (ρ 15) rfl (zLE m2 (zLE m15 (zIN w_0 (zIP w_1 ?_)))))))
    rfl
  exact zGoo_ato hJ hD
theorem vn76a0_2 {S : Nat → zSpc} (hS57 : zIm S 57 sn57) (hS71 : zIm S 71 sn71) (hS72 : zIm S 72 sn72) (hS75 : zIm S 75 sn75) {a : List Int} {g : rHp} : ∀ (ρ : Nat → Int) (γ : Nat → rHp), jn76 a g 0 (zAg (zNA a76_ 0) ρ) (γ 1) → zO 15 S a g q76a0_2 ρ γ → zGl (fun i vs g1 => jn76 a g i vs g1) (sn76 a g) q76a0_2 ρ γ := by
  intro ρ γ hJ h
  obtain ⟨ha, hg, hr, hf, hm, hc, hl⟩ := h
  have ha : a = [ρ 0, ρ 1, ρ 2, ρ 3, ρ 4, ρ 5, ρ 6, ρ 7, ρ 8, ρ 9, ρ 10, ρ 11, ρ 12, ρ 13, ρ 14] := ha
  subst ha
  subst hg
  have hJ : jn76 [ρ 0, ρ 1, ρ 2, ρ 3, ρ 4, ρ 5, ρ 6, ρ 7, ρ 8, ρ 9, ρ 10, ρ 11, ρ 12, ρ 13, ρ 14] (γ 0) 0 [ρ 0, ρ 1, ρ 2, ρ 3, ρ 4, ρ 5, ρ 6, ρ 7, ρ 8, ρ 9, ρ 10, ρ 11, ρ 12, ρ 13, ρ 14, ρ 15, ρ 16, ρ 17, ρ 18] (γ 1) := hJ
  have r17 : (0 : Int) ≤ ρ 17 ∧ ρ 17 ≤ 0 := zRnA hr 17
  have f3 : (0 : Int) ≤ -ρ 20 + ρ 0 := zAllA hf 3
  have f4 : (0 : Int) ≤ ρ 20 + -ρ 0 := zAllA hf 4
  have f5 : (0 : Int) ≤ -ρ 15 + ρ 3 + (-1) := zAllA hf 5
  obtain ⟨w_0, w_1, w_2⟩ : (¬ (ρ 15 ≥ ρ 3)) ∧ (¬ (ρ 17 ≠ 0)) ∧ (ρ 20 = ρ 0) := ⟨by omega, by omega, by omega⟩
  have m2 : γ 0 15 0 17 = ρ 3 := zAllA hm 2
  have m15 : γ 1 15 0 77 = ρ 17 := zAllA hm 15
  have m17 : γ 0 67 0 (ρ 15) = ρ 19 := zAllA hm 17
  have m18 : γ 0 92 0 (ρ 19) = ρ 20 := zAllA hm 18
  have m19 : γ 0 68 0 (4 * ρ 15) = ρ 21 := zAllA hm 19
  have m20 : γ 0 68 0 (4 * ρ 15 + 1) = ρ 22 := zAllA hm 20
  have m21 : γ 0 68 0 (4 * ρ 15 + 2) = ρ 23 := zAllA hm 21
  have m22 : γ 0 68 0 (4 * ρ 15 + 3) = ρ 24 := zAllA hm 22
  have c2 : γ 2 = rUp (γ 1) 102 0 0 (ρ 21) := And.right (zChA hc 4)
  have c3 : γ 3 = rUp (γ 2) 102 0 1 (ρ 22) := And.right (zChA hc 3)
  have c4 : γ 4 = rUp (γ 3) 102 0 2 (ρ 23) := And.right (zChA hc 2)
  have c5 : γ 5 = rUp (γ 4) 102 0 3 (ρ 24) := And.right (zChA hc 1)
  have l0 : sn57 [ρ 19, (-1), ρ 2, ρ 16, ρ 25, ρ 26, ρ 27, ρ 18, ρ 17] (γ 5) 0 0 (γ 6) := hS57 _ _ _ _ _ (zAllA hl 0)
  show jn76 [ρ 0, ρ 1, ρ 2, ρ 3, ρ 4, ρ 5, ρ 6, ρ 7, ρ 8, ρ 9, ρ 10, ρ 11, ρ 12, ρ 13, ρ 14] (γ 0) 0 [ρ 0, ρ 1, ρ 2, ρ 3, ρ 4, ρ 5, ρ 6, ρ 7, ρ 8, ρ 9, ρ 10, ρ 11, ρ 12, ρ 13, ρ 14, ρ 15 + 1, ρ 28, ρ 32, ρ 18] (γ 6)
  have hD : en76 (γ 0) (0, [ρ 0, ρ 15], γ 1) = .inl (0, [ρ 0, ρ 15 + 1], γ 6) := by
    unfold en76
    refine zIP (show (0 : Nat) = 0 by decide) (zLV (γ 1) rfl (zLV (ρ 0) rfl (zLV (ρ 15) rfl (zLE m2 (zLE m15 (zIN w_0 (zIN w_1 ?_)))))))
    refine zLE m17 (zLE m18 (zIP w_2 (zLE m19 (zLE c2.symm (zLE m20 (zLE c3.symm (zLE m21 ?_)))))))
    refine zLE c4.symm (zLE m22 (zLE c5.symm (zLE (show fn57 [ρ 19, (-1)] (γ 5) = (0, 0, γ 6) from l0.symm) (zLV (γ 6) rfl ?_))))
    rfl
  exact zGoo_ato hJ hD
theorem vn76a0_3 {S : Nat → zSpc} (hS57 : zIm S 57 sn57) (hS71 : zIm S 71 sn71) (hS72 : zIm S 72 sn72) (hS75 : zIm S 75 sn75) {a : List Int} {g : rHp} : ∀ (ρ : Nat → Int) (γ : Nat → rHp), jn76 a g 0 (zAg (zNA a76_ 0) ρ) (γ 1) → zO 15 S a g q76a0_3 ρ γ → zGl (fun i vs g1 => jn76 a g i vs g1) (sn76 a g) q76a0_3 ρ γ := by
  intro ρ γ hJ h
  obtain ⟨ha, hg, hr, hf, hm, hc, hl⟩ := h
  have ha : a = [ρ 0, ρ 1, ρ 2, ρ 3, ρ 4, ρ 5, ρ 6, ρ 7, ρ 8, ρ 9, ρ 10, ρ 11, ρ 12, ρ 13, ρ 14] := ha
  subst ha
  subst hg
  have hJ : jn76 [ρ 0, ρ 1, ρ 2, ρ 3, ρ 4, ρ 5, ρ 6, ρ 7, ρ 8, ρ 9, ρ 10, ρ 11, ρ 12, ρ 13, ρ 14] (γ 0) 0 [ρ 0, ρ 1, ρ 2, ρ 3, ρ 4, ρ 5, ρ 6, ρ 7, ρ 8, ρ 9, ρ 10, ρ 11, ρ 12, ρ 13, ρ 14, ρ 15, ρ 16, ρ 17, ρ 18] (γ 1) := hJ
  have r0 : (0 : Int) ≤ ρ 0 ∧ ρ 0 ≤ 21 := zRnA hr 0
  have r17 : (0 : Int) ≤ ρ 17 ∧ ρ 17 ≤ 0 := zRnA hr 17
  have r20 : (0 : Int) ≤ ρ 20 ∧ ρ 20 ≤ 20 := zRnA hr 20
  have f0 : (0 : Int) ≤ -ρ 15 + ρ 3 + (-1) := zAllA hf 0
  obtain ⟨w_0, w_1⟩ : (¬ (ρ 15 ≥ ρ 3)) ∧ (¬ (ρ 17 ≠ 0)) := ⟨by omega, by omega⟩
  have m2 : γ 0 15 0 17 = ρ 3 := zAllA hm 2
  have m15 : γ 1 15 0 77 = ρ 17 := zAllA hm 15
  have m17 : γ 0 67 0 (ρ 15) = ρ 19 := zAllA hm 17
  have m18 : γ 0 92 0 (ρ 19) = ρ 20 := zAllA hm 18
  have l0 : ρ 20 ≠ ρ 0 := zAllA hl 0
  have wl_0 : ¬ (ρ 20 = ρ 0) := by omega
  show jn76 [ρ 0, ρ 1, ρ 2, ρ 3, ρ 4, ρ 5, ρ 6, ρ 7, ρ 8, ρ 9, ρ 10, ρ 11, ρ 12, ρ 13, ρ 14] (γ 0) 0 [ρ 0, ρ 1, ρ 2, ρ 3, ρ 4, ρ 5, ρ 6, ρ 7, ρ 8, ρ 9, ρ 10, ρ 11, ρ 12, ρ 13, ρ 14, ρ 15 + 1, ρ 16, ρ 17, ρ 18] (γ 1)
  have hD : en76 (γ 0) (0, [ρ 0, ρ 15], γ 1) = .inl (0, [ρ 0, ρ 15 + 1], γ 1) := by
    unfold en76
    refine zIP (show (0 : Nat) = 0 by decide) (zLV (γ 1) rfl (zLV (ρ 0) rfl (zLV (ρ 15) rfl (zLE m2 (zLE m15 (zIN w_0 (zIN w_1 ?_)))))))
    refine zLE m17 (zLE m18 (zIN wl_0 ?_))
    rfl
  exact zGoo_ato hJ hD
theorem vn76a1_0 {S : Nat → zSpc} (hS57 : zIm S 57 sn57) (hS71 : zIm S 71 sn71) (hS72 : zIm S 72 sn72) (hS75 : zIm S 75 sn75) {a : List Int} {g : rHp} : ∀ (ρ : Nat → Int) (γ : Nat → rHp), jn76 a g 1 (zAg (zNA a76_ 1) ρ) (γ 1) → zO 15 S a g q76a1_0 ρ γ → zGl (fun i vs g1 => jn76 a g i vs g1) (sn76 a g) q76a1_0 ρ γ := by
  intro ρ γ hJ h
  obtain ⟨ha, hg, hr, hf, hm, hc, hl⟩ := h
  have ha : a = [ρ 0, ρ 1, ρ 2, ρ 3, ρ 4, ρ 5, ρ 6, ρ 7, ρ 8, ρ 9, ρ 10, ρ 11, ρ 12, ρ 13, ρ 14] := ha
  subst ha
  subst hg
  have hJ : jn76 [ρ 0, ρ 1, ρ 2, ρ 3, ρ 4, ρ 5, ρ 6, ρ 7, ρ 8, ρ 9, ρ 10, ρ 11, ρ 12, ρ 13, ρ 14] (γ 0) 1 [ρ 0, ρ 1, ρ 2, ρ 3, ρ 4, ρ 5, ρ 6, ρ 7, ρ 8, ρ 9, ρ 10, ρ 11, ρ 12, ρ 13, ρ 14, ρ 15, ρ 16, ρ 17, ρ 18, ρ 19, ρ 20, ρ 21] (γ 1) := hJ
  have f0 : (0 : Int) ≤ ρ 15 + -ρ 1 := zAllA hf 0
  have w_0 : ρ 15 ≥ ρ 1 := by omega
  have m0 : γ 0 15 0 32 = ρ 1 := zAllA hm 0
  have m16 : γ 1 15 0 77 = ρ 18 := zAllA hm 16
  have c2 : γ 2 = rUp (γ 1) 15 0 82 0 := And.right (zChA hc 1)
  have c3 : γ 3 = rUp (γ 2) 15 0 83 0 := And.right (zChA hc 0)
  show jn76 [ρ 0, ρ 1, ρ 2, ρ 3, ρ 4, ρ 5, ρ 6, ρ 7, ρ 8, ρ 9, ρ 10, ρ 11, ρ 12, ρ 13, ρ 14] (γ 0) 2 [ρ 0, ρ 1, ρ 2, ρ 3, ρ 4, ρ 5, ρ 6, ρ 7, ρ 8, ρ 9, ρ 10, ρ 11, ρ 12, ρ 13, ρ 14, ρ 16, ρ 17, ρ 18, ρ 8, ρ 19, ρ 20, 0, 0, ρ 21] (γ 3)
  have hD : en76 (γ 0) (1, [ρ 0, ρ 15], γ 1) = .inl (2, [ρ 0], γ 3) := by
    unfold en76
    refine zIN (show ¬ (1 : Nat) = 0 by decide) (zIP (show (1 : Nat) = 1 by decide) (zLV (γ 1) rfl (zLV (ρ 0) rfl (zLV (ρ 15) rfl (zLE m0 (zLE m16 (zIP w_0 ?_)))))))
    refine zLE c2.symm (zLE c3.symm ?_)
    rfl
  exact zGoo_ato hJ hD
theorem vn76a1_1 {S : Nat → zSpc} (hS57 : zIm S 57 sn57) (hS71 : zIm S 71 sn71) (hS72 : zIm S 72 sn72) (hS75 : zIm S 75 sn75) {a : List Int} {g : rHp} : ∀ (ρ : Nat → Int) (γ : Nat → rHp), jn76 a g 1 (zAg (zNA a76_ 1) ρ) (γ 1) → zO 15 S a g q76a1_1 ρ γ → zGl (fun i vs g1 => jn76 a g i vs g1) (sn76 a g) q76a1_1 ρ γ := by
  intro ρ γ hJ h
  obtain ⟨ha, hg, hr, hf, hm, hc, hl⟩ := h
  have ha : a = [ρ 0, ρ 1, ρ 2, ρ 3, ρ 4, ρ 5, ρ 6, ρ 7, ρ 8, ρ 9, ρ 10, ρ 11, ρ 12, ρ 13, ρ 14] := ha
  subst ha
  subst hg
  have hJ : jn76 [ρ 0, ρ 1, ρ 2, ρ 3, ρ 4, ρ 5, ρ 6, ρ 7, ρ 8, ρ 9, ρ 10, ρ 11, ρ 12, ρ 13, ρ 14] (γ 0) 1 [ρ 0, ρ 1, ρ 2, ρ 3, ρ 4, ρ 5, ρ 6, ρ 7, ρ 8, ρ 9, ρ 10, ρ 11, ρ 12, ρ 13, ρ 14, ρ 15, ρ 16, ρ 17, ρ 18, ρ 19, ρ 20, ρ 21] (γ 1) := hJ
  have r18 : (1 : Int) ≤ ρ 18 ∧ ρ 18 ≤ 3 := zRnA hr 18
  have f0 : (0 : Int) ≤ -ρ 15 + ρ 1 + (-1) := zAllA hf 0
  obtain ⟨w_0, w_1⟩ : (¬ (ρ 15 ≥ ρ 1)) ∧ (ρ 18 ≠ 0) := ⟨by omega, by omega⟩
  have m0 : γ 0 15 0 32 = ρ 1 := zAllA hm 0
  have m16 : γ 1 15 0 77 = ρ 18 := zAllA hm 16
  have c2 : γ 2 = rUp (γ 1) 15 0 82 0 := And.right (zChA hc 1)
  have c3 : γ 3 = rUp (γ 2) 15 0 83 0 := And.right (zChA hc 0)
  show jn76 [ρ 0, ρ 1, ρ 2, ρ 3, ρ 4, ρ 5, ρ 6, ρ 7, ρ 8, ρ 9, ρ 10, ρ 11, ρ 12, ρ 13, ρ 14] (γ 0) 2 [ρ 0, ρ 1, ρ 2, ρ 3, ρ 4, ρ 5, ρ 6, ρ 7, ρ 8, ρ 9, ρ 10, ρ 11, ρ 12, ρ 13, ρ 14, ρ 16, ρ 17, ρ 18, ρ 8, ρ 19, ρ 20, 0, 0, ρ 21] (γ 3)
  have hD : en76 (γ 0) (1, [ρ 0, ρ 15], γ 1) = .inl (2, [ρ 0], γ 3) := by
    unfold en76
    refine zIN (show ¬ (1 : Nat) = 0 by decide) (zIP (show (1 : Nat) = 1 by decide) (zLV (γ 1) rfl (zLV (ρ 0) rfl (zLV (ρ 15) rfl (zLE m0 (zLE m16 (zIN w_0 ?_)))))))
    refine zIP w_1 (zLE c2.symm (zLE c3.symm ?_))
    rfl
  exact zGoo_ato hJ hD
theorem vn76a1_2 {S : Nat → zSpc} (hS57 : zIm S 57 sn57) (hS71 : zIm S 71 sn71) (hS72 : zIm S 72 sn72) (hS75 : zIm S 75 sn75) {a : List Int} {g : rHp} : ∀ (ρ : Nat → Int) (γ : Nat → rHp), jn76 a g 1 (zAg (zNA a76_ 1) ρ) (γ 1) → zO 15 S a g q76a1_2 ρ γ → zGl (fun i vs g1 => jn76 a g i vs g1) (sn76 a g) q76a1_2 ρ γ := by
  intro ρ γ hJ h
  obtain ⟨ha, hg, hr, hf, hm, hc, hl⟩ := h
  have ha : a = [ρ 0, ρ 1, ρ 2, ρ 3, ρ 4, ρ 5, ρ 6, ρ 7, ρ 8, ρ 9, ρ 10, ρ 11, ρ 12, ρ 13, ρ 14] := ha
  subst ha
  subst hg
  have hJ : jn76 [ρ 0, ρ 1, ρ 2, ρ 3, ρ 4, ρ 5, ρ 6, ρ 7, ρ 8, ρ 9, ρ 10, ρ 11, ρ 12, ρ 13, ρ 14] (γ 0) 1 [ρ 0, ρ 1, ρ 2, ρ 3, ρ 4, ρ 5, ρ 6, ρ 7, ρ 8, ρ 9, ρ 10, ρ 11, ρ 12, ρ 13, ρ 14, ρ 15, ρ 16, ρ 17, ρ 18, ρ 19, ρ 20, ρ 21] (γ 1) := hJ
  have r18 : (0 : Int) ≤ ρ 18 ∧ ρ 18 ≤ 0 := zRnA hr 18
  have r22 : (0 : Int) ≤ ρ 22 ∧ ρ 22 ≤ 0 := zRnA hr 22
  have f0 : (0 : Int) ≤ -ρ 15 + ρ 1 + (-1) := zAllA hf 0
  obtain ⟨w_0, w_1, w_2⟩ : (¬ (ρ 15 ≥ ρ 1)) ∧ (¬ (ρ 18 ≠ 0)) ∧ (ρ 22 ≤ 0) := ⟨by omega, by omega, by omega⟩
  have m0 : γ 0 15 0 32 = ρ 1 := zAllA hm 0
  have m16 : γ 1 15 0 77 = ρ 18 := zAllA hm 16
  have m20 : γ 0 71 0 (ρ 15) = ρ 22 := zAllA hm 20
  show jn76 [ρ 0, ρ 1, ρ 2, ρ 3, ρ 4, ρ 5, ρ 6, ρ 7, ρ 8, ρ 9, ρ 10, ρ 11, ρ 12, ρ 13, ρ 14] (γ 0) 1 [ρ 0, ρ 1, ρ 2, ρ 3, ρ 4, ρ 5, ρ 6, ρ 7, ρ 8, ρ 9, ρ 10, ρ 11, ρ 12, ρ 13, ρ 14, ρ 15 + 1, ρ 16, ρ 17, ρ 18, ρ 19, ρ 20, ρ 21] (γ 1)
  have hD : en76 (γ 0) (1, [ρ 0, ρ 15], γ 1) = .inl (1, [ρ 0, ρ 15 + 1], γ 1) := by
    unfold en76
    refine zIN (show ¬ (1 : Nat) = 0 by decide) (zIP (show (1 : Nat) = 1 by decide) (zLV (γ 1) rfl (zLV (ρ 0) rfl (zLV (ρ 15) rfl (zLE m0 (zLE m16 (zIN w_0 ?_)))))))
    refine zIN w_1 (zLE m20 (zIP w_2 ?_))
    rfl
  exact zGoo_ato hJ hD
theorem vn76a1_3 {S : Nat → zSpc} (hS57 : zIm S 57 sn57) (hS71 : zIm S 71 sn71) (hS72 : zIm S 72 sn72) (hS75 : zIm S 75 sn75) {a : List Int} {g : rHp} : ∀ (ρ : Nat → Int) (γ : Nat → rHp), jn76 a g 1 (zAg (zNA a76_ 1) ρ) (γ 1) → zO 15 S a g q76a1_3 ρ γ → zGl (fun i vs g1 => jn76 a g i vs g1) (sn76 a g) q76a1_3 ρ γ := by
  intro ρ γ hJ h
  obtain ⟨ha, hg, hr, hf, hm, hc, hl⟩ := h
  have ha : a = [ρ 0, ρ 1, ρ 2, ρ 3, ρ 4, ρ 5, ρ 6, ρ 7, ρ 8, ρ 9, ρ 10, ρ 11, ρ 12, ρ 13, ρ 14] := ha
  subst ha
  subst hg
  have hJ : jn76 [ρ 0, ρ 1, ρ 2, ρ 3, ρ 4, ρ 5, ρ 6, ρ 7, ρ 8, ρ 9, ρ 10, ρ 11, ρ 12, ρ 13, ρ 14] (γ 0) 1 [ρ 0, ρ 1, ρ 2, ρ 3, ρ 4, ρ 5, ρ 6, ρ 7, ρ 8, ρ 9, ρ 10, ρ 11, ρ 12, ρ 13, ρ 14, ρ 15, ρ 16, ρ 17, ρ 18, ρ 19, ρ 20, ρ 21] (γ 1) := hJ
  have r0 : (0 : Int) ≤ ρ 0 ∧ ρ 0 ≤ 21 := zRnA hr 0
  have r18 : (0 : Int) ≤ ρ 18 ∧ ρ 18 ≤ 0 := zRnA hr 18
  have r22 : (1 : Int) ≤ ρ 22 ∧ ρ 22 ≤ 4 := zRnA hr 22
  have r24 : (0 : Int) ≤ ρ 24 ∧ ρ 24 ≤ 20 := zRnA hr 24
  have f0 : (0 : Int) ≤ -ρ 15 + ρ 1 + (-1) := zAllA hf 0
  obtain ⟨w_0, w_1, w_2⟩ : (¬ (ρ 15 ≥ ρ 1)) ∧ (¬ (ρ 18 ≠ 0)) ∧ (¬ (ρ 22 ≤ 0)) := ⟨by omega, by omega, by omega⟩
  have m0 : γ 0 15 0 32 = ρ 1 := zAllA hm 0
  have m16 : γ 1 15 0 77 = ρ 18 := zAllA hm 16
  have m20 : γ 0 71 0 (ρ 15) = ρ 22 := zAllA hm 20
  have m21 : γ 0 69 0 (ρ 15) = ρ 23 := zAllA hm 21
  have m22 : γ 0 92 0 (ρ 23) = ρ 24 := zAllA hm 22
  have l0 : ρ 24 ≠ ρ 0 := zAllA hl 0
  have wl_0 : ρ 24 ≠ ρ 0 := by omega
  show jn76 [ρ 0, ρ 1, ρ 2, ρ 3, ρ 4, ρ 5, ρ 6, ρ 7, ρ 8, ρ 9, ρ 10, ρ 11, ρ 12, ρ 13, ρ 14] (γ 0) 1 [ρ 0, ρ 1, ρ 2, ρ 3, ρ 4, ρ 5, ρ 6, ρ 7, ρ 8, ρ 9, ρ 10, ρ 11, ρ 12, ρ 13, ρ 14, ρ 15 + 1, ρ 16, ρ 17, ρ 18, ρ 19, ρ 20, ρ 21] (γ 1)
  have hD : en76 (γ 0) (1, [ρ 0, ρ 15], γ 1) = .inl (1, [ρ 0, ρ 15 + 1], γ 1) := by
    unfold en76
    refine zIN (show ¬ (1 : Nat) = 0 by decide) (zIP (show (1 : Nat) = 1 by decide) (zLV (γ 1) rfl (zLV (ρ 0) rfl (zLV (ρ 15) rfl (zLE m0 (zLE m16 (zIN w_0 ?_)))))))
    refine zIN w_1 (zLE m20 (zIN w_2 (zLE m21 (zLE m22 (zIP wl_0 ?_)))))
    rfl
  exact zGoo_ato hJ hD
theorem vn76a1_4 {S : Nat → zSpc} (hS57 : zIm S 57 sn57) (hS71 : zIm S 71 sn71) (hS72 : zIm S 72 sn72) (hS75 : zIm S 75 sn75) {a : List Int} {g : rHp} : ∀ (ρ : Nat → Int) (γ : Nat → rHp), jn76 a g 1 (zAg (zNA a76_ 1) ρ) (γ 1) → zO 15 S a g q76a1_4 ρ γ → zGl (fun i vs g1 => jn76 a g i vs g1) (sn76 a g) q76a1_4 ρ γ := by
  intro ρ γ hJ h
  obtain ⟨ha, hg, hr, hf, hm, hc, hl⟩ := h
  have ha : a = [ρ 0, ρ 1, ρ 2, ρ 3, ρ 4, ρ 5, ρ 6, ρ 7, ρ 8, ρ 9, ρ 10, ρ 11, ρ 12, ρ 13, ρ 14] := ha
  subst ha
  subst hg
  have hJ : jn76 [ρ 0, ρ 1, ρ 2, ρ 3, ρ 4, ρ 5, ρ 6, ρ 7, ρ 8, ρ 9, ρ 10, ρ 11, ρ 12, ρ 13, ρ 14] (γ 0) 1 [ρ 0, ρ 1, ρ 2, ρ 3, ρ 4, ρ 5, ρ 6, ρ 7, ρ 8, ρ 9, ρ 10, ρ 11, ρ 12, ρ 13, ρ 14, ρ 15, ρ 16, ρ 17, ρ 18, ρ 19, ρ 20, ρ 21] (γ 1) := hJ
  have r18 : (0 : Int) ≤ ρ 18 ∧ ρ 18 ≤ 0 := zRnA hr 18
  have r22 : (1 : Int) ≤ ρ 22 ∧ ρ 22 ≤ 4 := zRnA hr 22
  have f0 : (0 : Int) ≤ -ρ 15 + ρ 1 + (-1) := zAllA hf 0
  have f4 : (0 : Int) ≤ -ρ 24 + ρ 0 := zAllA hf 4
  have f5 : (0 : Int) ≤ ρ 24 + -ρ 0 := zAllA hf 5
  obtain ⟨w_0, w_1, w_2, w_3⟩ : (¬ (ρ 15 ≥ ρ 1)) ∧ (¬ (ρ 18 ≠ 0)) ∧ (¬ (ρ 22 ≤ 0)) ∧ (¬ (ρ 24 ≠ ρ 0)) := ⟨by omega, by omega, by omega, by omega⟩
  have m0 : γ 0 15 0 32 = ρ 1 := zAllA hm 0
  have m16 : γ 1 15 0 77 = ρ 18 := zAllA hm 16
  have m20 : γ 0 71 0 (ρ 15) = ρ 22 := zAllA hm 20
  have m21 : γ 0 69 0 (ρ 15) = ρ 23 := zAllA hm 21
  have m22 : γ 0 92 0 (ρ 23) = ρ 24 := zAllA hm 22
  have l0 : sn75 [ρ 15, ρ 1, ρ 2, ρ 22, ρ 17, ρ 18, ρ 21, ρ 23, ρ 7, ρ 16, ρ 19, ρ 20, ρ 11, ρ 12, ρ 14] (γ 1) 0 0 (γ 2) := hS75 _ _ _ _ _ (zAllA hl 0)
  show jn76 [ρ 0, ρ 1, ρ 2, ρ 3, ρ 4, ρ 5, ρ 6, ρ 7, ρ 8, ρ 9, ρ 10, ρ 11, ρ 12, ρ 13, ρ 14] (γ 0) 1 [ρ 0, ρ 1, ρ 2, ρ 3, ρ 4, ρ 5, ρ 6, ρ 7, ρ 8, ρ 9, ρ 10, ρ 11, ρ 12, ρ 13, ρ 14, ρ 15 + 1, ρ 28, ρ 25, ρ 26, ρ 19, ρ 16, ρ 27] (γ 2)
  have hD : en76 (γ 0) (1, [ρ 0, ρ 15], γ 1) = .inl (1, [ρ 0, ρ 15 + 1], γ 2) := by
    unfold en76
    refine zIN (show ¬ (1 : Nat) = 0 by decide) (zIP (show (1 : Nat) = 1 by decide) (zLV (γ 1) rfl (zLV (ρ 0) rfl (zLV (ρ 15) rfl (zLE m0 (zLE m16 (zIN w_0 ?_)))))))
    refine zIN w_1 (zLE m20 (zIN w_2 (zLE m21 (zLE m22 (zIN w_3 (zLE (show fn75 [ρ 15] (γ 1) = (0, 0, γ 2) from l0.symm) (zLV (γ 2) rfl ?_)))))))
    rfl
  exact zGoo_ato hJ hD
theorem vn76a2_0 {S : Nat → zSpc} (hS57 : zIm S 57 sn57) (hS71 : zIm S 71 sn71) (hS72 : zIm S 72 sn72) (hS75 : zIm S 75 sn75) {a : List Int} {g : rHp} : ∀ (ρ : Nat → Int) (γ : Nat → rHp), jn76 a g 2 (zAg (zNA a76_ 2) ρ) (γ 1) → zO 15 S a g q76a2_0 ρ γ → zGl (fun i vs g1 => jn76 a g i vs g1) (sn76 a g) q76a2_0 ρ γ := by
  intro ρ γ hJ h
  obtain ⟨ha, hg, hr, hf, hm, hc, hl⟩ := h
  have ha : a = [ρ 0, ρ 1, ρ 2, ρ 3, ρ 4, ρ 5, ρ 6, ρ 7, ρ 8, ρ 9, ρ 10, ρ 11, ρ 12, ρ 13, ρ 14] := ha
  subst ha
  subst hg
  have hJ : jn76 [ρ 0, ρ 1, ρ 2, ρ 3, ρ 4, ρ 5, ρ 6, ρ 7, ρ 8, ρ 9, ρ 10, ρ 11, ρ 12, ρ 13, ρ 14] (γ 0) 2 [ρ 0, ρ 1, ρ 2, ρ 3, ρ 4, ρ 5, ρ 6, ρ 7, ρ 8, ρ 9, ρ 10, ρ 11, ρ 12, ρ 13, ρ 14, ρ 15, ρ 16, ρ 17, ρ 18, ρ 19, ρ 20, ρ 21, ρ 22, ρ 23] (γ 1) := hJ
  have r17 : (1 : Int) ≤ ρ 17 ∧ ρ 17 ≤ 3 := zRnA hr 17
  have w_0 : ρ 17 ≠ 0 := by omega
  have m14 : γ 1 15 0 71 = ρ 15 := zAllA hm 14
  have m16 : γ 1 15 0 77 = ρ 17 := zAllA hm 16
  have m17 : γ 1 15 0 73 = ρ 18 := zAllA hm 17
  have m18 : γ 1 15 0 76 = ρ 19 := zAllA hm 18
  show sn76 [ρ 0, ρ 1, ρ 2, ρ 3, ρ 4, ρ 5, ρ 6, ρ 7, ρ 8, ρ 9, ρ 10, ρ 11, ρ 12, ρ 13, ρ 14] (γ 0) 0 0 (γ 1)
  have hD : en76 (γ 0) (2, [ρ 0], γ 1) = .inr (0, 0, γ 1) := by
    unfold en76
    refine zIN (show ¬ (2 : Nat) = 0 by decide) (zIN (show ¬ (2 : Nat) = 1 by decide) (zIP (show (2 : Nat) = 2 by decide) (zLV (γ 1) rfl (zLV (ρ 0) rfl (zLE m14 (zLE m16 (zLE m17 ?_)))))))
    refine zLE m18 (zIP w_0 ?_)
    rfl
  exact zGoo_aend hJ hD
theorem vn76a2_1 {S : Nat → zSpc} (hS57 : zIm S 57 sn57) (hS71 : zIm S 71 sn71) (hS72 : zIm S 72 sn72) (hS75 : zIm S 75 sn75) {a : List Int} {g : rHp} : ∀ (ρ : Nat → Int) (γ : Nat → rHp), jn76 a g 2 (zAg (zNA a76_ 2) ρ) (γ 1) → zO 15 S a g q76a2_1 ρ γ → zGl (fun i vs g1 => jn76 a g i vs g1) (sn76 a g) q76a2_1 ρ γ := by
  intro ρ γ hJ h
  obtain ⟨ha, hg, hr, hf, hm, hc, hl⟩ := h
  have ha : a = [ρ 0, ρ 1, ρ 2, ρ 3, ρ 4, ρ 5, ρ 6, ρ 7, ρ 8, ρ 9, ρ 10, ρ 11, ρ 12, ρ 13, ρ 14] := ha
  subst ha
  subst hg
  have hJ : jn76 [ρ 0, ρ 1, ρ 2, ρ 3, ρ 4, ρ 5, ρ 6, ρ 7, ρ 8, ρ 9, ρ 10, ρ 11, ρ 12, ρ 13, ρ 14] (γ 0) 2 [ρ 0, ρ 1, ρ 2, ρ 3, ρ 4, ρ 5, ρ 6, ρ 7, ρ 8, ρ 9, ρ 10, ρ 11, ρ 12, ρ 13, ρ 14, ρ 15, ρ 16, ρ 17, ρ 18, ρ 19, ρ 20, ρ 21, ρ 22, ρ 23] (γ 1) := hJ
  have r17 : (0 : Int) ≤ ρ 17 ∧ ρ 17 ≤ 0 := zRnA hr 17
  have r24 : ((-2147483648) : Int) ≤ ρ 24 ∧ ρ 24 ≤ 1 := zRnA hr 24
  obtain ⟨w_0, w_1⟩ : (¬ (ρ 17 ≠ 0)) ∧ (ρ 24 ≤ 1) := ⟨by omega, by omega⟩
  have m14 : γ 1 15 0 71 = ρ 15 := zAllA hm 14
  have m16 : γ 1 15 0 77 = ρ 17 := zAllA hm 16
  have m17 : γ 1 15 0 73 = ρ 18 := zAllA hm 17
  have m18 : γ 1 15 0 76 = ρ 19 := zAllA hm 18
  have c2 : γ 2 = rUp (γ 1) 15 0 76 (ρ 24) := And.right (zChA hc 3)
  have c3 : γ 3 = rUp (γ 2) 15 0 73 (ρ 25) := And.right (zChA hc 2)
  have c4 : γ 4 = rUp (γ 3) 15 0 81 (ρ 15) := And.right (zChA hc 1)
  have c5 : γ 5 = rUp (γ 4) 15 0 84 0 := And.right (zChA hc 0)
  have l0 : zOpP (.iadd) (γ 0) (γ 1) [ρ 19, 1] (ρ 24) := zAllA hl 0
  have l1 : zOpP (.iadd) (γ 0) (γ 1) [ρ 18, 1] (ρ 25) := zAllA hl 1
  show jn76 [ρ 0, ρ 1, ρ 2, ρ 3, ρ 4, ρ 5, ρ 6, ρ 7, ρ 8, ρ 9, ρ 10, ρ 11, ρ 12, ρ 13, ρ 14] (γ 0) 3 [ρ 0, ρ 1, ρ 2, ρ 3, ρ 4, ρ 5, ρ 6, ρ 7, ρ 8, ρ 9, ρ 10, ρ 11, ρ 12, ρ 13, ρ 14, 0, ρ 15, ρ 15, ρ 16, ρ 17, ρ 25, ρ 24, ρ 15, ρ 21, ρ 22, ρ 23] (γ 5)
  have hD : en76 (γ 0) (2, [ρ 0], γ 1) = .inl (3, [ρ 0, 0, ρ 15], γ 5) := by
    unfold en76
    refine zIN (show ¬ (2 : Nat) = 0 by decide) (zIN (show ¬ (2 : Nat) = 1 by decide) (zIP (show (2 : Nat) = 2 by decide) (zLV (γ 1) rfl (zLV (ρ 0) rfl (zLE m14 (zLE m16 (zLE m17 ?_)))))))
    refine zLE m18 (zIN w_0 (zLE (zF2_ok l0) (zLE c2.symm (zLE (zF2_ok l1) (zLE c3.symm (zLE c4.symm (zIP w_1 ?_)))))))
    refine zLE c5.symm ?_
    rfl
  exact zGoo_ato hJ hD
theorem vn76a2_2 {S : Nat → zSpc} (hS57 : zIm S 57 sn57) (hS71 : zIm S 71 sn71) (hS72 : zIm S 72 sn72) (hS75 : zIm S 75 sn75) {a : List Int} {g : rHp} : ∀ (ρ : Nat → Int) (γ : Nat → rHp), jn76 a g 2 (zAg (zNA a76_ 2) ρ) (γ 1) → zO 15 S a g q76a2_2 ρ γ → zGl (fun i vs g1 => jn76 a g i vs g1) (sn76 a g) q76a2_2 ρ γ := by
  intro ρ γ hJ h
  obtain ⟨ha, hg, hr, hf, hm, hc, hl⟩ := h
  have ha : a = [ρ 0, ρ 1, ρ 2, ρ 3, ρ 4, ρ 5, ρ 6, ρ 7, ρ 8, ρ 9, ρ 10, ρ 11, ρ 12, ρ 13, ρ 14] := ha
  subst ha
  subst hg
  have hJ : jn76 [ρ 0, ρ 1, ρ 2, ρ 3, ρ 4, ρ 5, ρ 6, ρ 7, ρ 8, ρ 9, ρ 10, ρ 11, ρ 12, ρ 13, ρ 14] (γ 0) 2 [ρ 0, ρ 1, ρ 2, ρ 3, ρ 4, ρ 5, ρ 6, ρ 7, ρ 8, ρ 9, ρ 10, ρ 11, ρ 12, ρ 13, ρ 14, ρ 15, ρ 16, ρ 17, ρ 18, ρ 19, ρ 20, ρ 21, ρ 22, ρ 23] (γ 1) := hJ
  have r17 : (0 : Int) ≤ ρ 17 ∧ ρ 17 ≤ 0 := zRnA hr 17
  have r24 : (2 : Int) ≤ ρ 24 ∧ ρ 24 ≤ 2147483647 := zRnA hr 24
  obtain ⟨w_0, w_1⟩ : (¬ (ρ 17 ≠ 0)) ∧ (¬ (ρ 24 ≤ 1)) := ⟨by omega, by omega⟩
  have m14 : γ 1 15 0 71 = ρ 15 := zAllA hm 14
  have m16 : γ 1 15 0 77 = ρ 17 := zAllA hm 16
  have m17 : γ 1 15 0 73 = ρ 18 := zAllA hm 17
  have m18 : γ 1 15 0 76 = ρ 19 := zAllA hm 18
  have c2 : γ 2 = rUp (γ 1) 15 0 76 (ρ 24) := And.right (zChA hc 3)
  have c3 : γ 3 = rUp (γ 2) 15 0 73 (ρ 25) := And.right (zChA hc 2)
  have c4 : γ 4 = rUp (γ 3) 15 0 81 (ρ 15) := And.right (zChA hc 1)
  have c5 : γ 5 = rUp (γ 4) 15 0 84 1 := And.right (zChA hc 0)
  have l0 : zOpP (.iadd) (γ 0) (γ 1) [ρ 19, 1] (ρ 24) := zAllA hl 0
  have l1 : zOpP (.iadd) (γ 0) (γ 1) [ρ 18, 1] (ρ 25) := zAllA hl 1
  show jn76 [ρ 0, ρ 1, ρ 2, ρ 3, ρ 4, ρ 5, ρ 6, ρ 7, ρ 8, ρ 9, ρ 10, ρ 11, ρ 12, ρ 13, ρ 14] (γ 0) 3 [ρ 0, ρ 1, ρ 2, ρ 3, ρ 4, ρ 5, ρ 6, ρ 7, ρ 8, ρ 9, ρ 10, ρ 11, ρ 12, ρ 13, ρ 14, 0, ρ 15, ρ 15, ρ 16, ρ 17, ρ 25, ρ 24, ρ 15, ρ 21, ρ 22, ρ 23] (γ 5)
  have hD : en76 (γ 0) (2, [ρ 0], γ 1) = .inl (3, [ρ 0, 0, ρ 15], γ 5) := by
    unfold en76
    refine zIN (show ¬ (2 : Nat) = 0 by decide) (zIN (show ¬ (2 : Nat) = 1 by decide) (zIP (show (2 : Nat) = 2 by decide) (zLV (γ 1) rfl (zLV (ρ 0) rfl (zLE m14 (zLE m16 (zLE m17 ?_)))))))
    refine zLE m18 (zIN w_0 (zLE (zF2_ok l0) (zLE c2.symm (zLE (zF2_ok l1) (zLE c3.symm (zLE c4.symm (zIN w_1 ?_)))))))
    refine zLE c5.symm ?_
    rfl
  exact zGoo_ato hJ hD
theorem vn76a3_0 {S : Nat → zSpc} (hS57 : zIm S 57 sn57) (hS71 : zIm S 71 sn71) (hS72 : zIm S 72 sn72) (hS75 : zIm S 75 sn75) {a : List Int} {g : rHp} : ∀ (ρ : Nat → Int) (γ : Nat → rHp), jn76 a g 3 (zAg (zNA a76_ 3) ρ) (γ 1) → zO 15 S a g q76a3_0 ρ γ → zGl (fun i vs g1 => jn76 a g i vs g1) (sn76 a g) q76a3_0 ρ γ := by
  intro ρ γ hJ h
  obtain ⟨ha, hg, hr, hf, hm, hc, hl⟩ := h
  have ha : a = [ρ 0, ρ 1, ρ 2, ρ 3, ρ 4, ρ 5, ρ 6, ρ 7, ρ 8, ρ 9, ρ 10, ρ 11, ρ 12, ρ 13, ρ 14] := ha
  subst ha
  subst hg
  have hJ : jn76 [ρ 0, ρ 1, ρ 2, ρ 3, ρ 4, ρ 5, ρ 6, ρ 7, ρ 8, ρ 9, ρ 10, ρ 11, ρ 12, ρ 13, ρ 14] (γ 0) 3 [ρ 0, ρ 1, ρ 2, ρ 3, ρ 4, ρ 5, ρ 6, ρ 7, ρ 8, ρ 9, ρ 10, ρ 11, ρ 12, ρ 13, ρ 14, ρ 15, ρ 16, ρ 17, ρ 18, ρ 19, ρ 20, ρ 21, ρ 22, ρ 23, ρ 24, ρ 25] (γ 1) := hJ
  have f0 : (0 : Int) ≤ -ρ 17 + ρ 16 := zAllA hf 0
  have f1 : (0 : Int) ≤ ρ 15 + -ρ 1 := zAllA hf 1
  obtain ⟨w_0, w_1⟩ : (ρ 15 ≥ ρ 1) ∧ (ρ 17 ≤ ρ 16) := ⟨by omega, by omega⟩
  have m0 : γ 0 15 0 32 = ρ 1 := zAllA hm 0
  have m14 : γ 1 15 0 71 = ρ 17 := zAllA hm 14
  have m16 : γ 1 15 0 77 = ρ 19 := zAllA hm 16
  have m18 : γ 1 15 0 76 = ρ 21 := zAllA hm 18
  have c2 : γ 2 = rUp (γ 1) 15 0 82 (ρ 16) := And.right (zChA hc 1)
  have c3 : γ 3 = rUp (γ 2) 15 0 83 (ρ 17) := And.right (zChA hc 0)
  show sn76 [ρ 0, ρ 1, ρ 2, ρ 3, ρ 4, ρ 5, ρ 6, ρ 7, ρ 8, ρ 9, ρ 10, ρ 11, ρ 12, ρ 13, ρ 14] (γ 0) 0 0 (γ 3)
  have hD : en76 (γ 0) (3, [ρ 0, ρ 15, ρ 16], γ 1) = .inr (0, 0, γ 3) := by
    unfold en76
    refine zIN (show ¬ (3 : Nat) = 0 by decide) (zIN (show ¬ (3 : Nat) = 1 by decide) (zIN (show ¬ (3 : Nat) = 2 by decide) (zIP (show (3 : Nat) = 3 by decide) (zLV (γ 1) rfl (zLV (ρ 0) rfl (zLV (ρ 15) rfl (zLV (ρ 16) rfl ?_)))))))
    refine zLE m0 (zLE m14 (zLE m16 (zLE m18 (zIP w_0 (zIP w_1 (zLE c2.symm (zLE c3.symm ?_)))))))
    rfl
  exact zGoo_aend hJ hD
theorem vn76a3_1 {S : Nat → zSpc} (hS57 : zIm S 57 sn57) (hS71 : zIm S 71 sn71) (hS72 : zIm S 72 sn72) (hS75 : zIm S 75 sn75) {a : List Int} {g : rHp} : ∀ (ρ : Nat → Int) (γ : Nat → rHp), jn76 a g 3 (zAg (zNA a76_ 3) ρ) (γ 1) → zO 15 S a g q76a3_1 ρ γ → zGl (fun i vs g1 => jn76 a g i vs g1) (sn76 a g) q76a3_1 ρ γ := by
  intro ρ γ hJ h
  obtain ⟨ha, hg, hr, hf, hm, hc, hl⟩ := h
  have ha : a = [ρ 0, ρ 1, ρ 2, ρ 3, ρ 4, ρ 5, ρ 6, ρ 7, ρ 8, ρ 9, ρ 10, ρ 11, ρ 12, ρ 13, ρ 14] := ha
  subst ha
  subst hg
  have hJ : jn76 [ρ 0, ρ 1, ρ 2, ρ 3, ρ 4, ρ 5, ρ 6, ρ 7, ρ 8, ρ 9, ρ 10, ρ 11, ρ 12, ρ 13, ρ 14] (γ 0) 3 [ρ 0, ρ 1, ρ 2, ρ 3, ρ 4, ρ 5, ρ 6, ρ 7, ρ 8, ρ 9, ρ 10, ρ 11, ρ 12, ρ 13, ρ 14, ρ 15, ρ 16, ρ 17, ρ 18, ρ 19, ρ 20, ρ 21, ρ 22, ρ 23, ρ 24, ρ 25] (γ 1) := hJ
  have f0 : (0 : Int) ≤ ρ 17 + -ρ 16 + (-1) := zAllA hf 0
  have f1 : (0 : Int) ≤ ρ 15 + -ρ 1 := zAllA hf 1
  obtain ⟨w_0, w_1⟩ : (ρ 15 ≥ ρ 1) ∧ (¬ (ρ 17 ≤ ρ 16)) := ⟨by omega, by omega⟩
  have m0 : γ 0 15 0 32 = ρ 1 := zAllA hm 0
  have m14 : γ 1 15 0 71 = ρ 17 := zAllA hm 14
  have m16 : γ 1 15 0 77 = ρ 19 := zAllA hm 16
  have m18 : γ 1 15 0 76 = ρ 21 := zAllA hm 18
  have c2 : γ 2 = rUp (γ 1) 15 0 82 (ρ 16) := And.right (zChA hc 1)
  have c3 : γ 3 = rUp (γ 2) 15 0 83 (ρ 17) := And.right (zChA hc 0)
  show jn76 [ρ 0, ρ 1, ρ 2, ρ 3, ρ 4, ρ 5, ρ 6, ρ 7, ρ 8, ρ 9, ρ 10, ρ 11, ρ 12, ρ 13, ρ 14] (γ 0) 2 [ρ 0, ρ 1, ρ 2, ρ 3, ρ 4, ρ 5, ρ 6, ρ 7, ρ 8, ρ 9, ρ 10, ρ 11, ρ 12, ρ 13, ρ 14, ρ 17, ρ 18, ρ 19, ρ 20, ρ 21, ρ 22, ρ 16, ρ 17, ρ 25] (γ 3)
  have hD : en76 (γ 0) (3, [ρ 0, ρ 15, ρ 16], γ 1) = .inl (2, [ρ 0], γ 3) := by
    unfold en76
    refine zIN (show ¬ (3 : Nat) = 0 by decide) (zIN (show ¬ (3 : Nat) = 1 by decide) (zIN (show ¬ (3 : Nat) = 2 by decide) (zIP (show (3 : Nat) = 3 by decide) (zLV (γ 1) rfl (zLV (ρ 0) rfl (zLV (ρ 15) rfl (zLV (ρ 16) rfl ?_)))))))
    refine zLE m0 (zLE m14 (zLE m16 (zLE m18 (zIP w_0 (zIN w_1 (zLE c2.symm (zLE c3.symm ?_)))))))
    rfl
  exact zGoo_ato hJ hD
theorem vn76a3_2 {S : Nat → zSpc} (hS57 : zIm S 57 sn57) (hS71 : zIm S 71 sn71) (hS72 : zIm S 72 sn72) (hS75 : zIm S 75 sn75) {a : List Int} {g : rHp} : ∀ (ρ : Nat → Int) (γ : Nat → rHp), jn76 a g 3 (zAg (zNA a76_ 3) ρ) (γ 1) → zO 15 S a g q76a3_2 ρ γ → zGl (fun i vs g1 => jn76 a g i vs g1) (sn76 a g) q76a3_2 ρ γ := by
  intro ρ γ hJ h
  obtain ⟨ha, hg, hr, hf, hm, hc, hl⟩ := h
  have ha : a = [ρ 0, ρ 1, ρ 2, ρ 3, ρ 4, ρ 5, ρ 6, ρ 7, ρ 8, ρ 9, ρ 10, ρ 11, ρ 12, ρ 13, ρ 14] := ha
  subst ha
  subst hg
  have hJ : jn76 [ρ 0, ρ 1, ρ 2, ρ 3, ρ 4, ρ 5, ρ 6, ρ 7, ρ 8, ρ 9, ρ 10, ρ 11, ρ 12, ρ 13, ρ 14] (γ 0) 3 [ρ 0, ρ 1, ρ 2, ρ 3, ρ 4, ρ 5, ρ 6, ρ 7, ρ 8, ρ 9, ρ 10, ρ 11, ρ 12, ρ 13, ρ 14, ρ 15, ρ 16, ρ 17, ρ 18, ρ 19, ρ 20, ρ 21, ρ 22, ρ 23, ρ 24, ρ 25] (γ 1) := hJ
  have r19 : (1 : Int) ≤ ρ 19 ∧ ρ 19 ≤ 3 := zRnA hr 19
  have f0 : (0 : Int) ≤ -ρ 17 + ρ 16 := zAllA hf 0
  have f1 : (0 : Int) ≤ -ρ 15 + ρ 1 + (-1) := zAllA hf 1
  obtain ⟨w_0, w_1, w_2⟩ : (¬ (ρ 15 ≥ ρ 1)) ∧ (ρ 19 ≠ 0) ∧ (ρ 17 ≤ ρ 16) := ⟨by omega, by omega, by omega⟩
  have m0 : γ 0 15 0 32 = ρ 1 := zAllA hm 0
  have m14 : γ 1 15 0 71 = ρ 17 := zAllA hm 14
  have m16 : γ 1 15 0 77 = ρ 19 := zAllA hm 16
  have m18 : γ 1 15 0 76 = ρ 21 := zAllA hm 18
  have c2 : γ 2 = rUp (γ 1) 15 0 82 (ρ 16) := And.right (zChA hc 1)
  have c3 : γ 3 = rUp (γ 2) 15 0 83 (ρ 17) := And.right (zChA hc 0)
  show sn76 [ρ 0, ρ 1, ρ 2, ρ 3, ρ 4, ρ 5, ρ 6, ρ 7, ρ 8, ρ 9, ρ 10, ρ 11, ρ 12, ρ 13, ρ 14] (γ 0) 0 0 (γ 3)
  have hD : en76 (γ 0) (3, [ρ 0, ρ 15, ρ 16], γ 1) = .inr (0, 0, γ 3) := by
    unfold en76
    refine zIN (show ¬ (3 : Nat) = 0 by decide) (zIN (show ¬ (3 : Nat) = 1 by decide) (zIN (show ¬ (3 : Nat) = 2 by decide) (zIP (show (3 : Nat) = 3 by decide) (zLV (γ 1) rfl (zLV (ρ 0) rfl (zLV (ρ 15) rfl (zLV (ρ 16) rfl ?_)))))))
    refine zLE m0 (zLE m14 (zLE m16 (zLE m18 (zIN w_0 (zIP w_1 (zIP w_2 (zLE c2.symm ?_)))))))
    refine zLE c3.symm ?_
    rfl
  exact zGoo_aend hJ hD
theorem vn76a3_3 {S : Nat → zSpc} (hS57 : zIm S 57 sn57) (hS71 : zIm S 71 sn71) (hS72 : zIm S 72 sn72) (hS75 : zIm S 75 sn75) {a : List Int} {g : rHp} : ∀ (ρ : Nat → Int) (γ : Nat → rHp), jn76 a g 3 (zAg (zNA a76_ 3) ρ) (γ 1) → zO 15 S a g q76a3_3 ρ γ → zGl (fun i vs g1 => jn76 a g i vs g1) (sn76 a g) q76a3_3 ρ γ := by
  intro ρ γ hJ h
  obtain ⟨ha, hg, hr, hf, hm, hc, hl⟩ := h
  have ha : a = [ρ 0, ρ 1, ρ 2, ρ 3, ρ 4, ρ 5, ρ 6, ρ 7, ρ 8, ρ 9, ρ 10, ρ 11, ρ 12, ρ 13, ρ 14] := ha
  subst ha
  subst hg
  have hJ : jn76 [ρ 0, ρ 1, ρ 2, ρ 3, ρ 4, ρ 5, ρ 6, ρ 7, ρ 8, ρ 9, ρ 10, ρ 11, ρ 12, ρ 13, ρ 14] (γ 0) 3 [ρ 0, ρ 1, ρ 2, ρ 3, ρ 4, ρ 5, ρ 6, ρ 7, ρ 8, ρ 9, ρ 10, ρ 11, ρ 12, ρ 13, ρ 14, ρ 15, ρ 16, ρ 17, ρ 18, ρ 19, ρ 20, ρ 21, ρ 22, ρ 23, ρ 24, ρ 25] (γ 1) := hJ
  have r19 : (1 : Int) ≤ ρ 19 ∧ ρ 19 ≤ 3 := zRnA hr 19
  have f0 : (0 : Int) ≤ ρ 17 + -ρ 16 + (-1) := zAllA hf 0
  have f1 : (0 : Int) ≤ -ρ 15 + ρ 1 + (-1) := zAllA hf 1
  obtain ⟨w_0, w_1, w_2⟩ : (¬ (ρ 15 ≥ ρ 1)) ∧ (ρ 19 ≠ 0) ∧ (¬ (ρ 17 ≤ ρ 16)) := ⟨by omega, by omega, by omega⟩
  have m0 : γ 0 15 0 32 = ρ 1 := zAllA hm 0
  have m14 : γ 1 15 0 71 = ρ 17 := zAllA hm 14
  have m16 : γ 1 15 0 77 = ρ 19 := zAllA hm 16
  have m18 : γ 1 15 0 76 = ρ 21 := zAllA hm 18
  have c2 : γ 2 = rUp (γ 1) 15 0 82 (ρ 16) := And.right (zChA hc 1)
  have c3 : γ 3 = rUp (γ 2) 15 0 83 (ρ 17) := And.right (zChA hc 0)
  show jn76 [ρ 0, ρ 1, ρ 2, ρ 3, ρ 4, ρ 5, ρ 6, ρ 7, ρ 8, ρ 9, ρ 10, ρ 11, ρ 12, ρ 13, ρ 14] (γ 0) 2 [ρ 0, ρ 1, ρ 2, ρ 3, ρ 4, ρ 5, ρ 6, ρ 7, ρ 8, ρ 9, ρ 10, ρ 11, ρ 12, ρ 13, ρ 14, ρ 17, ρ 18, ρ 19, ρ 20, ρ 21, ρ 22, ρ 16, ρ 17, ρ 25] (γ 3)
  have hD : en76 (γ 0) (3, [ρ 0, ρ 15, ρ 16], γ 1) = .inl (2, [ρ 0], γ 3) := by
    unfold en76
    refine zIN (show ¬ (3 : Nat) = 0 by decide) (zIN (show ¬ (3 : Nat) = 1 by decide) (zIN (show ¬ (3 : Nat) = 2 by decide) (zIP (show (3 : Nat) = 3 by decide) (zLV (γ 1) rfl (zLV (ρ 0) rfl (zLV (ρ 15) rfl (zLV (ρ 16) rfl ?_)))))))
    refine zLE m0 (zLE m14 (zLE m16 (zLE m18 (zIN w_0 (zIP w_1 (zIN w_2 (zLE c2.symm ?_)))))))
    refine zLE c3.symm ?_
    rfl
  exact zGoo_ato hJ hD
theorem vn76a3_4 {S : Nat → zSpc} (hS57 : zIm S 57 sn57) (hS71 : zIm S 71 sn71) (hS72 : zIm S 72 sn72) (hS75 : zIm S 75 sn75) {a : List Int} {g : rHp} : ∀ (ρ : Nat → Int) (γ : Nat → rHp), jn76 a g 3 (zAg (zNA a76_ 3) ρ) (γ 1) → zO 15 S a g q76a3_4 ρ γ → zGl (fun i vs g1 => jn76 a g i vs g1) (sn76 a g) q76a3_4 ρ γ := by
  intro ρ γ hJ h
  obtain ⟨ha, hg, hr, hf, hm, hc, hl⟩ := h
  have ha : a = [ρ 0, ρ 1, ρ 2, ρ 3, ρ 4, ρ 5, ρ 6, ρ 7, ρ 8, ρ 9, ρ 10, ρ 11, ρ 12, ρ 13, ρ 14] := ha
  subst ha
  subst hg
  have hJ : jn76 [ρ 0, ρ 1, ρ 2, ρ 3, ρ 4, ρ 5, ρ 6, ρ 7, ρ 8, ρ 9, ρ 10, ρ 11, ρ 12, ρ 13, ρ 14] (γ 0) 3 [ρ 0, ρ 1, ρ 2, ρ 3, ρ 4, ρ 5, ρ 6, ρ 7, ρ 8, ρ 9, ρ 10, ρ 11, ρ 12, ρ 13, ρ 14, ρ 15, ρ 16, ρ 17, ρ 18, ρ 19, ρ 20, ρ 21, ρ 22, ρ 23, ρ 24, ρ 25] (γ 1) := hJ
  have r19 : (0 : Int) ≤ ρ 19 ∧ ρ 19 ≤ 0 := zRnA hr 19
  have r26 : (1 : Int) ≤ ρ 26 ∧ ρ 26 ≤ 4 := zRnA hr 26
  have f0 : (0 : Int) ≤ -ρ 15 + ρ 1 + (-1) := zAllA hf 0
  obtain ⟨w_0, w_1, w_2⟩ : (¬ (ρ 15 ≥ ρ 1)) ∧ (¬ (ρ 19 ≠ 0)) ∧ (ρ 26 ≠ 0) := ⟨by omega, by omega, by omega⟩
  have m0 : γ 0 15 0 32 = ρ 1 := zAllA hm 0
  have m14 : γ 1 15 0 71 = ρ 17 := zAllA hm 14
  have m16 : γ 1 15 0 77 = ρ 19 := zAllA hm 16
  have m18 : γ 1 15 0 76 = ρ 21 := zAllA hm 18
  have m23 : γ 0 71 0 (ρ 15) = ρ 26 := zAllA hm 23
  show jn76 [ρ 0, ρ 1, ρ 2, ρ 3, ρ 4, ρ 5, ρ 6, ρ 7, ρ 8, ρ 9, ρ 10, ρ 11, ρ 12, ρ 13, ρ 14] (γ 0) 3 [ρ 0, ρ 1, ρ 2, ρ 3, ρ 4, ρ 5, ρ 6, ρ 7, ρ 8, ρ 9, ρ 10, ρ 11, ρ 12, ρ 13, ρ 14, ρ 15 + 1, ρ 16, ρ 17, ρ 18, ρ 19, ρ 20, ρ 21, ρ 22, ρ 23, ρ 24, ρ 25] (γ 1)
  have hD : en76 (γ 0) (3, [ρ 0, ρ 15, ρ 16], γ 1) = .inl (3, [ρ 0, ρ 15 + 1, ρ 16], γ 1) := by
    unfold en76
    refine zIN (show ¬ (3 : Nat) = 0 by decide) (zIN (show ¬ (3 : Nat) = 1 by decide) (zIN (show ¬ (3 : Nat) = 2 by decide) (zIP (show (3 : Nat) = 3 by decide) (zLV (γ 1) rfl (zLV (ρ 0) rfl (zLV (ρ 15) rfl (zLV (ρ 16) rfl ?_)))))))
    refine zLE m0 (zLE m14 (zLE m16 (zLE m18 (zIN w_0 (zIN w_1 (zLE m23 (zIP w_2 ?_)))))))
    rfl
  exact zGoo_ato hJ hD
theorem vn76a3_5 {S : Nat → zSpc} (hS57 : zIm S 57 sn57) (hS71 : zIm S 71 sn71) (hS72 : zIm S 72 sn72) (hS75 : zIm S 75 sn75) {a : List Int} {g : rHp} : ∀ (ρ : Nat → Int) (γ : Nat → rHp), jn76 a g 3 (zAg (zNA a76_ 3) ρ) (γ 1) → zO 15 S a g q76a3_5 ρ γ → zGl (fun i vs g1 => jn76 a g i vs g1) (sn76 a g) q76a3_5 ρ γ := by
  intro ρ γ hJ h
  obtain ⟨ha, hg, hr, hf, hm, hc, hl⟩ := h
  have ha : a = [ρ 0, ρ 1, ρ 2, ρ 3, ρ 4, ρ 5, ρ 6, ρ 7, ρ 8, ρ 9, ρ 10, ρ 11, ρ 12, ρ 13, ρ 14] := ha
  subst ha
  subst hg
  have hJ : jn76 [ρ 0, ρ 1, ρ 2, ρ 3, ρ 4, ρ 5, ρ 6, ρ 7, ρ 8, ρ 9, ρ 10, ρ 11, ρ 12, ρ 13, ρ 14] (γ 0) 3 [ρ 0, ρ 1, ρ 2, ρ 3, ρ 4, ρ 5, ρ 6, ρ 7, ρ 8, ρ 9, ρ 10, ρ 11, ρ 12, ρ 13, ρ 14, ρ 15, ρ 16, ρ 17, ρ 18, ρ 19, ρ 20, ρ 21, ρ 22, ρ 23, ρ 24, ρ 25] (γ 1) := hJ
  have r0 : (0 : Int) ≤ ρ 0 ∧ ρ 0 ≤ 21 := zRnA hr 0
  have r19 : (0 : Int) ≤ ρ 19 ∧ ρ 19 ≤ 0 := zRnA hr 19
  have r26 : (0 : Int) ≤ ρ 26 ∧ ρ 26 ≤ 0 := zRnA hr 26
  have r28 : (0 : Int) ≤ ρ 28 ∧ ρ 28 ≤ 20 := zRnA hr 28
  have f0 : (0 : Int) ≤ -ρ 15 + ρ 1 + (-1) := zAllA hf 0
  obtain ⟨w_0, w_1, w_2⟩ : (¬ (ρ 15 ≥ ρ 1)) ∧ (¬ (ρ 19 ≠ 0)) ∧ (¬ (ρ 26 ≠ 0)) := ⟨by omega, by omega, by omega⟩
  have m0 : γ 0 15 0 32 = ρ 1 := zAllA hm 0
  have m14 : γ 1 15 0 71 = ρ 17 := zAllA hm 14
  have m16 : γ 1 15 0 77 = ρ 19 := zAllA hm 16
  have m18 : γ 1 15 0 76 = ρ 21 := zAllA hm 18
  have m23 : γ 0 71 0 (ρ 15) = ρ 26 := zAllA hm 23
  have m24 : γ 0 69 0 (ρ 15) = ρ 27 := zAllA hm 24
  have m25 : γ 0 92 0 (ρ 27) = ρ 28 := zAllA hm 25
  have l0 : ρ 28 ≠ ρ 0 := zAllA hl 0
  have wl_0 : ρ 28 ≠ ρ 0 := by omega
  show jn76 [ρ 0, ρ 1, ρ 2, ρ 3, ρ 4, ρ 5, ρ 6, ρ 7, ρ 8, ρ 9, ρ 10, ρ 11, ρ 12, ρ 13, ρ 14] (γ 0) 3 [ρ 0, ρ 1, ρ 2, ρ 3, ρ 4, ρ 5, ρ 6, ρ 7, ρ 8, ρ 9, ρ 10, ρ 11, ρ 12, ρ 13, ρ 14, ρ 15 + 1, ρ 16, ρ 17, ρ 18, ρ 19, ρ 20, ρ 21, ρ 22, ρ 23, ρ 24, ρ 25] (γ 1)
  have hD : en76 (γ 0) (3, [ρ 0, ρ 15, ρ 16], γ 1) = .inl (3, [ρ 0, ρ 15 + 1, ρ 16], γ 1) := by
    unfold en76
    refine zIN (show ¬ (3 : Nat) = 0 by decide) (zIN (show ¬ (3 : Nat) = 1 by decide) (zIN (show ¬ (3 : Nat) = 2 by decide) (zIP (show (3 : Nat) = 3 by decide) (zLV (γ 1) rfl (zLV (ρ 0) rfl (zLV (ρ 15) rfl (zLV (ρ 16) rfl ?_)))))))
    refine zLE m0 (zLE m14 (zLE m16 (zLE m18 (zIN w_0 (zIN w_1 (zLE m23 (zIN w_2 ?_)))))))
    refine zLE m24 (zLE m25 (zIP wl_0 ?_))
    rfl
  exact zGoo_ato hJ hD
theorem vn76a3_6 {S : Nat → zSpc} (hS57 : zIm S 57 sn57) (hS71 : zIm S 71 sn71) (hS72 : zIm S 72 sn72) (hS75 : zIm S 75 sn75) {a : List Int} {g : rHp} : ∀ (ρ : Nat → Int) (γ : Nat → rHp), jn76 a g 3 (zAg (zNA a76_ 3) ρ) (γ 1) → zO 15 S a g q76a3_6 ρ γ → zGl (fun i vs g1 => jn76 a g i vs g1) (sn76 a g) q76a3_6 ρ γ := by
  intro ρ γ hJ h
  obtain ⟨ha, hg, hr, hf, hm, hc, hl⟩ := h
  have ha : a = [ρ 0, ρ 1, ρ 2, ρ 3, ρ 4, ρ 5, ρ 6, ρ 7, ρ 8, ρ 9, ρ 10, ρ 11, ρ 12, ρ 13, ρ 14] := ha
  subst ha
  subst hg
  have hJ : jn76 [ρ 0, ρ 1, ρ 2, ρ 3, ρ 4, ρ 5, ρ 6, ρ 7, ρ 8, ρ 9, ρ 10, ρ 11, ρ 12, ρ 13, ρ 14] (γ 0) 3 [ρ 0, ρ 1, ρ 2, ρ 3, ρ 4, ρ 5, ρ 6, ρ 7, ρ 8, ρ 9, ρ 10, ρ 11, ρ 12, ρ 13, ρ 14, ρ 15, ρ 16, ρ 17, ρ 18, ρ 19, ρ 20, ρ 21, ρ 22, ρ 23, ρ 24, ρ 25] (γ 1) := hJ
  have r19 : (0 : Int) ≤ ρ 19 ∧ ρ 19 ≤ 0 := zRnA hr 19
  have r21 : (1 : Int) ≤ ρ 21 ∧ ρ 21 ≤ 1 := zRnA hr 21
  have r26 : (0 : Int) ≤ ρ 26 ∧ ρ 26 ≤ 0 := zRnA hr 26
  have f0 : (0 : Int) ≤ -ρ 15 + ρ 1 + (-1) := zAllA hf 0
  have f4 : (0 : Int) ≤ -ρ 28 + ρ 0 := zAllA hf 4
  have f5 : (0 : Int) ≤ ρ 28 + -ρ 0 := zAllA hf 5
  obtain ⟨w_0, w_1, w_2, w_3, w_4⟩ : (¬ (ρ 15 ≥ ρ 1)) ∧ (¬ (ρ 19 ≠ 0)) ∧ (¬ (ρ 26 ≠ 0)) ∧ (¬ (ρ 28 ≠ ρ 0)) ∧ (ρ 21 = 1) := ⟨by omega, by omega, by omega, by omega, by omega⟩
  have m0 : γ 0 15 0 32 = ρ 1 := zAllA hm 0
  have m14 : γ 1 15 0 71 = ρ 17 := zAllA hm 14
  have m16 : γ 1 15 0 77 = ρ 19 := zAllA hm 16
  have m18 : γ 1 15 0 76 = ρ 21 := zAllA hm 18
  have m23 : γ 0 71 0 (ρ 15) = ρ 26 := zAllA hm 23
  have m24 : γ 0 69 0 (ρ 15) = ρ 27 := zAllA hm 24
  have m25 : γ 0 92 0 (ρ 27) = ρ 28 := zAllA hm 25
  have l0 : sn72 [ρ 15, ρ 29, ρ 1, ρ 18, ρ 19, ρ 14, ρ 2, ρ 7, ρ 17, ρ 21, ρ 22, ρ 23, ρ 24] (γ 1) 0 0 (γ 2) := hS72 _ _ _ _ _ (zAllA hl 0)
  show jn76 [ρ 0, ρ 1, ρ 2, ρ 3, ρ 4, ρ 5, ρ 6, ρ 7, ρ 8, ρ 9, ρ 10, ρ 11, ρ 12, ρ 13, ρ 14] (γ 0) 3 [ρ 0, ρ 1, ρ 2, ρ 3, ρ 4, ρ 5, ρ 6, ρ 7, ρ 8, ρ 9, ρ 10, ρ 11, ρ 12, ρ 13, ρ 14, ρ 15 + 1, ρ 16, ρ 32, ρ 30, ρ 31, ρ 20, ρ 21, ρ 22, ρ 23, ρ 24, ρ 25] (γ 2)
  have hD : en76 (γ 0) (3, [ρ 0, ρ 15, ρ 16], γ 1) = .inl (3, [ρ 0, ρ 15 + 1, ρ 16], γ 2) := by
    unfold en76
    refine zIN (show ¬ (3 : Nat) = 0 by decide) (zIN (show ¬ (3 : Nat) = 1 by decide) (zIN (show ¬ (3 : Nat) = 2 by decide) (zIP (show (3 : Nat) = 3 by decide) (zLV (γ 1) rfl (zLV (ρ 0) rfl (zLV (ρ 15) rfl (zLV (ρ 16) rfl ?_)))))))
    refine zLE m0 (zLE m14 (zLE m16 (zLE m18 (zIN w_0 (zIN w_1 (zLE m23 (zIN w_2 ?_)))))))
    refine zLE m24 (zLE m25 (zIN w_3 (zIP w_4 (zLE (show fn72 [ρ 15] (γ 1) = (0, 0, γ 2) from l0.symm) (zLV (γ 2) rfl ?_)))))
    rfl
  exact zGoo_ato hJ hD
theorem vn76a3_7 {S : Nat → zSpc} (hS57 : zIm S 57 sn57) (hS71 : zIm S 71 sn71) (hS72 : zIm S 72 sn72) (hS75 : zIm S 75 sn75) {a : List Int} {g : rHp} : ∀ (ρ : Nat → Int) (γ : Nat → rHp), jn76 a g 3 (zAg (zNA a76_ 3) ρ) (γ 1) → zO 15 S a g q76a3_7 ρ γ → zGl (fun i vs g1 => jn76 a g i vs g1) (sn76 a g) q76a3_7 ρ γ := by
  intro ρ γ hJ h
  obtain ⟨ha, hg, hr, hf, hm, hc, hl⟩ := h
  have ha : a = [ρ 0, ρ 1, ρ 2, ρ 3, ρ 4, ρ 5, ρ 6, ρ 7, ρ 8, ρ 9, ρ 10, ρ 11, ρ 12, ρ 13, ρ 14] := ha
  subst ha
  subst hg
  have hJ : jn76 [ρ 0, ρ 1, ρ 2, ρ 3, ρ 4, ρ 5, ρ 6, ρ 7, ρ 8, ρ 9, ρ 10, ρ 11, ρ 12, ρ 13, ρ 14] (γ 0) 3 [ρ 0, ρ 1, ρ 2, ρ 3, ρ 4, ρ 5, ρ 6, ρ 7, ρ 8, ρ 9, ρ 10, ρ 11, ρ 12, ρ 13, ρ 14, ρ 15, ρ 16, ρ 17, ρ 18, ρ 19, ρ 20, ρ 21, ρ 22, ρ 23, ρ 24, ρ 25] (γ 1) := hJ
  have r19 : (0 : Int) ≤ ρ 19 ∧ ρ 19 ≤ 0 := zRnA hr 19
  have r21 : ((-2147483648) : Int) ≤ ρ 21 ∧ ρ 21 ≤ 2147483647 := zRnA hr 21
  have r26 : (0 : Int) ≤ ρ 26 ∧ ρ 26 ≤ 0 := zRnA hr 26
  have r30 : (0 : Int) ≤ ρ 30 ∧ ρ 30 ≤ 0 := zRnA hr 30
  have f1 : (0 : Int) ≤ -ρ 28 + ρ 0 := zAllA hf 1
  have f2 : (0 : Int) ≤ ρ 28 + -ρ 0 := zAllA hf 2
  have f3 : (0 : Int) ≤ -ρ 15 + ρ 1 + (-1) := zAllA hf 3
  obtain ⟨w_0, w_1, w_2, w_3, w_4⟩ : (¬ (ρ 15 ≥ ρ 1)) ∧ (¬ (ρ 19 ≠ 0)) ∧ (¬ (ρ 26 ≠ 0)) ∧ (¬ (ρ 28 ≠ ρ 0)) ∧ (ρ 30 ≤ 0) := ⟨by omega, by omega, by omega, by omega, by omega⟩
  have m0 : γ 0 15 0 32 = ρ 1 := zAllA hm 0
  have m14 : γ 1 15 0 71 = ρ 17 := zAllA hm 14
  have m16 : γ 1 15 0 77 = ρ 19 := zAllA hm 16
  have m18 : γ 1 15 0 76 = ρ 21 := zAllA hm 18
  have m23 : γ 0 71 0 (ρ 15) = ρ 26 := zAllA hm 23
  have m24 : γ 0 69 0 (ρ 15) = ρ 27 := zAllA hm 24
  have m25 : γ 0 92 0 (ρ 27) = ρ 28 := zAllA hm 25
  have l0 : ρ 21 ≠ 1 := zAllA hl 0
  have l1 : sn71 [ρ 15, ρ 29] (γ 1) 0 (ρ 30) (γ 2) := hS71 _ _ _ _ _ (zAllA hl 1)
  have wl_0 : ¬ (ρ 21 = 1) := by omega
  show jn76 [ρ 0, ρ 1, ρ 2, ρ 3, ρ 4, ρ 5, ρ 6, ρ 7, ρ 8, ρ 9, ρ 10, ρ 11, ρ 12, ρ 13, ρ 14] (γ 0) 3 [ρ 0, ρ 1, ρ 2, ρ 3, ρ 4, ρ 5, ρ 6, ρ 7, ρ 8, ρ 9, ρ 10, ρ 11, ρ 12, ρ 13, ρ 14, ρ 15 + 1, ρ 16, ρ 17, ρ 18, ρ 19, ρ 20, ρ 21, ρ 22, ρ 23, ρ 24, ρ 25] (γ 2)
  have hD : en76 (γ 0) (3, [ρ 0, ρ 15, ρ 16], γ 1) = .inl (3, [ρ 0, ρ 15 + 1, ρ 16], γ 2) := by
    unfold en76
    refine zIN (show ¬ (3 : Nat) = 0 by decide) (zIN (show ¬ (3 : Nat) = 1 by decide) (zIN (show ¬ (3 : Nat) = 2 by decide) (zIP (show (3 : Nat) = 3 by decide) (zLV (γ 1) rfl (zLV (ρ 0) rfl (zLV (ρ 15) rfl (zLV (ρ 16) rfl ?_)))))))
    refine zLE m0 (zLE m14 (zLE m16 (zLE m18 (zIN w_0 (zIN w_1 (zLE m23 (zIN w_2 ?_)))))))
    refine zLE m24 (zLE m25 (zIN w_3 (zIN wl_0 (zLE (show fn71 [ρ 15] (γ 1) = (0, ρ 30, γ 2) from l1.symm) (zLV (γ 2) rfl (zLV (ρ 30) rfl (zIP w_4 ?_)))))))
    rfl
  exact zGoo_ato hJ hD
theorem vn76a3_8 {S : Nat → zSpc} (hS57 : zIm S 57 sn57) (hS71 : zIm S 71 sn71) (hS72 : zIm S 72 sn72) (hS75 : zIm S 75 sn75) {a : List Int} {g : rHp} : ∀ (ρ : Nat → Int) (γ : Nat → rHp), jn76 a g 3 (zAg (zNA a76_ 3) ρ) (γ 1) → zO 15 S a g q76a3_8 ρ γ → zGl (fun i vs g1 => jn76 a g i vs g1) (sn76 a g) q76a3_8 ρ γ := by
  intro ρ γ hJ h
  obtain ⟨ha, hg, hr, hf, hm, hc, hl⟩ := h
  have ha : a = [ρ 0, ρ 1, ρ 2, ρ 3, ρ 4, ρ 5, ρ 6, ρ 7, ρ 8, ρ 9, ρ 10, ρ 11, ρ 12, ρ 13, ρ 14] := ha
  subst ha
  subst hg
  have hJ : jn76 [ρ 0, ρ 1, ρ 2, ρ 3, ρ 4, ρ 5, ρ 6, ρ 7, ρ 8, ρ 9, ρ 10, ρ 11, ρ 12, ρ 13, ρ 14] (γ 0) 3 [ρ 0, ρ 1, ρ 2, ρ 3, ρ 4, ρ 5, ρ 6, ρ 7, ρ 8, ρ 9, ρ 10, ρ 11, ρ 12, ρ 13, ρ 14, ρ 15, ρ 16, ρ 17, ρ 18, ρ 19, ρ 20, ρ 21, ρ 22, ρ 23, ρ 24, ρ 25] (γ 1) := hJ
  have r19 : (0 : Int) ≤ ρ 19 ∧ ρ 19 ≤ 0 := zRnA hr 19
  have r21 : ((-2147483648) : Int) ≤ ρ 21 ∧ ρ 21 ≤ 2147483647 := zRnA hr 21
  have r26 : (0 : Int) ≤ ρ 26 ∧ ρ 26 ≤ 0 := zRnA hr 26
  have r30 : (1 : Int) ≤ ρ 30 ∧ ρ 30 ≤ 8 := zRnA hr 30
  have f0 : (0 : Int) ≤ -ρ 15 + ρ 1 + (-1) := zAllA hf 0
  have f5 : (0 : Int) ≤ -ρ 28 + ρ 0 := zAllA hf 5
  have f6 : (0 : Int) ≤ ρ 28 + -ρ 0 := zAllA hf 6
  obtain ⟨w_0, w_1, w_2, w_3, w_4⟩ : (¬ (ρ 15 ≥ ρ 1)) ∧ (¬ (ρ 19 ≠ 0)) ∧ (¬ (ρ 26 ≠ 0)) ∧ (¬ (ρ 28 ≠ ρ 0)) ∧ (¬ (ρ 30 ≤ 0)) := ⟨by omega, by omega, by omega, by omega, by omega⟩
  have m0 : γ 0 15 0 32 = ρ 1 := zAllA hm 0
  have m14 : γ 1 15 0 71 = ρ 17 := zAllA hm 14
  have m16 : γ 1 15 0 77 = ρ 19 := zAllA hm 16
  have m18 : γ 1 15 0 76 = ρ 21 := zAllA hm 18
  have m23 : γ 0 71 0 (ρ 15) = ρ 26 := zAllA hm 23
  have m24 : γ 0 69 0 (ρ 15) = ρ 27 := zAllA hm 24
  have m25 : γ 0 92 0 (ρ 27) = ρ 28 := zAllA hm 25
  have l0 : ρ 21 ≠ 1 := zAllA hl 0
  have l1 : sn71 [ρ 15, ρ 29] (γ 1) 0 (ρ 30) (γ 2) := hS71 _ _ _ _ _ (zAllA hl 1)
  have l2 : sn72 [ρ 15, ρ 29, ρ 1, ρ 18, ρ 19, ρ 14, ρ 2, ρ 7, ρ 17, ρ 21, ρ 22, ρ 23, ρ 24] (γ 2) 0 0 (γ 3) := hS72 _ _ _ _ _ (zAllA hl 2)
  have wl_0 : ¬ (ρ 21 = 1) := by omega
  show jn76 [ρ 0, ρ 1, ρ 2, ρ 3, ρ 4, ρ 5, ρ 6, ρ 7, ρ 8, ρ 9, ρ 10, ρ 11, ρ 12, ρ 13, ρ 14] (γ 0) 3 [ρ 0, ρ 1, ρ 2, ρ 3, ρ 4, ρ 5, ρ 6, ρ 7, ρ 8, ρ 9, ρ 10, ρ 11, ρ 12, ρ 13, ρ 14, ρ 15 + 1, ρ 16, ρ 33, ρ 31, ρ 32, ρ 20, ρ 21, ρ 22, ρ 23, ρ 24, ρ 25] (γ 3)
  have hD : en76 (γ 0) (3, [ρ 0, ρ 15, ρ 16], γ 1) = .inl (3, [ρ 0, ρ 15 + 1, ρ 16], γ 3) := by
    unfold en76
    refine zIN (show ¬ (3 : Nat) = 0 by decide) (zIN (show ¬ (3 : Nat) = 1 by decide) (zIN (show ¬ (3 : Nat) = 2 by decide) (zIP (show (3 : Nat) = 3 by decide) (zLV (γ 1) rfl (zLV (ρ 0) rfl (zLV (ρ 15) rfl (zLV (ρ 16) rfl ?_)))))))
    refine zLE m0 (zLE m14 (zLE m16 (zLE m18 (zIN w_0 (zIN w_1 (zLE m23 (zIN w_2 ?_)))))))
    refine zLE m24 (zLE m25 (zIN w_3 (zIN wl_0 (zLE (show fn71 [ρ 15] (γ 1) = (0, ρ 30, γ 2) from l1.symm) (zLV (γ 2) rfl (zLV (ρ 30) rfl (zIN w_4 ?_)))))))
    refine zLE (show fn72 [ρ 15] (γ 2) = (0, 0, γ 3) from l2.symm) (zLV (γ 3) rfl ?_)
    rfl
  exact zGoo_ato hJ hD
theorem yn76 {S : Nat → zSpc} (hS57 : zIm S 57 sn57) (hS71 : zIm S 71 sn71) (hS72 : zIm S 72 sn72) (hS75 : zIm S 75 sn75) : ∀ x g o v gz, zSem uW uT w76_.2.2.2.1 w76_.2.2.1.1.length S q76 (fun i => q76a.getD i []) (zNA a76_) x g o v gz → sn76 x g o v gz := by
  intro a g o v gz h
  exact zSem_all (l0 := q76) (las := q76a) (S := S) (J := (fun i vs g1 => jn76 a g i vs g1)) (P := sn76 a g) (fun _ => (show zAll _ [q76_0] from (zAll_c (vn76_0 hS57 hS71 hS72 hS75) zAll_n))) (fun _ => (show zAllI _ 0 [q76a0, q76a1, q76a2, q76a3] from ⟨(show zAll _ [q76a0_0, q76a0_1, q76a0_2, q76a0_3] from (zAll_c (vn76a0_0 hS57 hS71 hS72 hS75) (zAll_c (vn76a0_1 hS57 hS71 hS72 hS75) (zAll_c (vn76a0_2 hS57 hS71 hS72 hS75) (zAll_c (vn76a0_3 hS57 hS71 hS72 hS75) zAll_n))))), ⟨(show zAll _ [q76a1_0, q76a1_1, q76a1_2, q76a1_3, q76a1_4] from (zAll_c (vn76a1_0 hS57 hS71 hS72 hS75) (zAll_c (vn76a1_1 hS57 hS71 hS72 hS75) (zAll_c (vn76a1_2 hS57 hS71 hS72 hS75) (zAll_c (vn76a1_3 hS57 hS71 hS72 hS75) (zAll_c (vn76a1_4 hS57 hS71 hS72 hS75) zAll_n)))))), ⟨(show zAll _ [q76a2_0, q76a2_1, q76a2_2] from (zAll_c (vn76a2_0 hS57 hS71 hS72 hS75) (zAll_c (vn76a2_1 hS57 hS71 hS72 hS75) (zAll_c (vn76a2_2 hS57 hS71 hS72 hS75) zAll_n)))), ⟨(show zAll _ [q76a3_0, q76a3_1, q76a3_2, q76a3_3, q76a3_4, q76a3_5, q76a3_6, q76a3_7, q76a3_8] from (zAll_c (vn76a3_0 hS57 hS71 hS72 hS75) (zAll_c (vn76a3_1 hS57 hS71 hS72 hS75) (zAll_c (vn76a3_2 hS57 hS71 hS72 hS75) (zAll_c (vn76a3_3 hS57 hS71 hS72 hS75) (zAll_c (vn76a3_4 hS57 hS71 hS72 hS75) (zAll_c (vn76a3_5 hS57 hS71 hS72 hS75) (zAll_c (vn76a3_6 hS57 hS71 hS72 hS75) (zAll_c (vn76a3_7 hS57 hS71 hS72 hS75) (zAll_c (vn76a3_8 hS57 hS71 hS72 hS75) zAll_n)))))))))), trivial⟩⟩⟩⟩)) h
