/-! ===== the runs are the functions ===== -/
theorem vn222_0 {S : Nat → zSpc} (hS101 : zIm S 101 sn101) (hS132 : zIm S 132 sn132) {a : List Int} {g : rHp} : ∀ (ρ : Nat → Int) (γ : Nat → rHp), zO 6 S a g q222_0 ρ γ → zGl (fun i vs g1 => jn222 a g i vs g1) (sn222 a g) q222_0 ρ γ := by
  intro ρ γ h
  obtain ⟨ha, hg, hr, hf, hm, hc, hl⟩ := h
  have ha : a = [ρ 0, ρ 1, ρ 2, ρ 3, ρ 4, ρ 5] := ha
  subst ha
  subst hg
  show jn222 [ρ 0, ρ 1, ρ 2, ρ 3, ρ 4, ρ 5] (γ 0) 0 [ρ 0, ρ 1, ρ 2, ρ 3, ρ 4, ρ 5, 0, 0] (γ 0)
  have hD : dn222 [ρ 0] (γ 0) = .inl (0, [ρ 0, 0, 0], γ 0) := by
    unfold dn222
    refine zLV (ρ 0) rfl ?_
    rfl
  exact zGoo_to hD
theorem vn222a0_0 {S : Nat → zSpc} (hS101 : zIm S 101 sn101) (hS132 : zIm S 132 sn132) {a : List Int} {g : rHp} : ∀ (ρ : Nat → Int) (γ : Nat → rHp), jn222 a g 0 (zAg (zNA a222_ 0) ρ) (γ 1) → zO 6 S a g q222a0_0 ρ γ → zGl (fun i vs g1 => jn222 a g i vs g1) (sn222 a g) q222a0_0 ρ γ := by
  intro ρ γ hJ h
  obtain ⟨ha, hg, hr, hf, hm, hc, hl⟩ := h
  have ha : a = [ρ 0, ρ 1, ρ 2, ρ 3, ρ 4, ρ 5] := ha
  subst ha
  subst hg
  have hJ : jn222 [ρ 0, ρ 1, ρ 2, ρ 3, ρ 4, ρ 5] (γ 0) 0 [ρ 0, ρ 1, ρ 2, ρ 3, ρ 4, ρ 5, ρ 6, ρ 7] (γ 1) := hJ
  have f0 : (0 : Int) ≤ ρ 6 + -ρ 2 := zAllA hf 0
  have w_0 : ρ 6 ≥ ρ 2 := by omega
  have m1 : γ 0 9 (ρ 0) 2 = ρ 2 := zAllA hm 1
  have m2 : γ 0 10 (9 * ρ 0) 12 = ρ 3 := zAllA hm 2
  show sn222 [ρ 0, ρ 1, ρ 2, ρ 3, ρ 4, ρ 5] (γ 0) 0 (ρ 7) (γ 1)
  have hD : en222 (γ 0) (0, [ρ 0, ρ 6, ρ 7], γ 1) = .inr (0, ρ 7, γ 1) := by
    unfold en222
    refine zIP (show (0 : Nat) = 0 by decide) (zLV (γ 1) rfl (zLV (ρ 0) rfl (zLV (ρ 6) rfl (zLV (ρ 7) rfl (zLE m1 (zLE m2 (zIP w_0 ?_)))))))
    rfl
  exact zGoo_aend hJ hD
theorem vn222a0_1 {S : Nat → zSpc} (hS101 : zIm S 101 sn101) (hS132 : zIm S 132 sn132) {a : List Int} {g : rHp} : ∀ (ρ : Nat → Int) (γ : Nat → rHp), jn222 a g 0 (zAg (zNA a222_ 0) ρ) (γ 1) → zO 6 S a g q222a0_1 ρ γ → zGl (fun i vs g1 => jn222 a g i vs g1) (sn222 a g) q222a0_1 ρ γ := by
  intro ρ γ hJ h
  obtain ⟨ha, hg, hr, hf, hm, hc, hl⟩ := h
  have ha : a = [ρ 0, ρ 1, ρ 2, ρ 3, ρ 4, ρ 5] := ha
  subst ha
  subst hg
  have hJ : jn222 [ρ 0, ρ 1, ρ 2, ρ 3, ρ 4, ρ 5] (γ 0) 0 [ρ 0, ρ 1, ρ 2, ρ 3, ρ 4, ρ 5, ρ 6, ρ 7] (γ 1) := hJ
  have r3 : (0 : Int) ≤ ρ 3 ∧ ρ 3 ≤ 0 := zRnA hr 3
  have r8 : (1 : Int) ≤ ρ 8 ∧ ρ 8 ≤ 1 := zRnA hr 8
  have f0 : (0 : Int) ≤ -ρ 11 + ρ 7 := zAllA hf 0
  have f1 : (0 : Int) ≤ -ρ 6 + ρ 2 + (-1) := zAllA hf 1
  obtain ⟨w_0, w_1, w_2, w_3⟩ : (¬ (ρ 6 ≥ ρ 2)) ∧ (ρ 8 = 1) ∧ (ρ 3 = 0) ∧ (0 ≤ -ρ 11 + ρ 7) := ⟨by omega, by omega, by omega, by omega⟩
  have m1 : γ 0 9 (ρ 0) 2 = ρ 2 := zAllA hm 1
  have m2 : γ 0 10 (9 * ρ 0) 12 = ρ 3 := zAllA hm 2
  have m5 : γ 0 10 (ρ 6 + 9 * ρ 0 + 1) 4 = ρ 8 := zAllA hm 5
  have m6 : γ 0 10 (ρ 6 + 9 * ρ 0 + 1) 8 = ρ 9 := zAllA hm 6
  have m8 : γ 0 18 0 (ρ 9) = ρ 11 := zAllA hm 8
  have l0 : sn132 [ρ 0, ρ 6] (γ 1) 0 (ρ 6 + 9 * ρ 0 + 1) (γ 2) := hS132 _ _ _ _ _ (zAllA hl 0)
  have l1 : sn101 [ρ 7, ρ 11] (γ 2) 0 (ρ 7) (γ 3) := hS101 _ _ _ _ _ (zAllA hl 1)
  show jn222 [ρ 0, ρ 1, ρ 2, ρ 3, ρ 4, ρ 5] (γ 0) 0 [ρ 0, ρ 1, ρ 2, ρ 3, ρ 4, ρ 5, ρ 6 + 1, ρ 7] (γ 3)
  have hD : en222 (γ 0) (0, [ρ 0, ρ 6, ρ 7], γ 1) = .inl (0, [ρ 0, ρ 6 + 1, ρ 7], γ 3) := by
    unfold en222
    refine zIP (show (0 : Nat) = 0 by decide) (zLV (γ 1) rfl (zLV (ρ 0) rfl (zLV (ρ 6) rfl (zLV (ρ 7) rfl (zLE m1 (zLE m2 (zIN w_0 ?_)))))))
    refine zLE (show fn132 [ρ 0, ρ 6] (γ 1) = (0, ρ 6 + 9 * ρ 0 + 1, γ 2) from l0.symm) (zLV (γ 2) rfl (zLE m5 (zIP w_1 (zIP w_2 (zLE m6 (zLE m8 (zLE (show fn101 [ρ 7, ρ 11] (γ 2) = (0, ρ 7, γ 3) from l1.symm) ?_)))))))
    refine zLV (γ 3) rfl (zIP w_3 ?_)
    rfl
  exact zGoo_ato hJ hD
theorem vn222a0_2 {S : Nat → zSpc} (hS101 : zIm S 101 sn101) (hS132 : zIm S 132 sn132) {a : List Int} {g : rHp} : ∀ (ρ : Nat → Int) (γ : Nat → rHp), jn222 a g 0 (zAg (zNA a222_ 0) ρ) (γ 1) → zO 6 S a g q222a0_2 ρ γ → zGl (fun i vs g1 => jn222 a g i vs g1) (sn222 a g) q222a0_2 ρ γ := by
  intro ρ γ hJ h
  obtain ⟨ha, hg, hr, hf, hm, hc, hl⟩ := h
  have ha : a = [ρ 0, ρ 1, ρ 2, ρ 3, ρ 4, ρ 5] := ha
  subst ha
  subst hg
  have hJ : jn222 [ρ 0, ρ 1, ρ 2, ρ 3, ρ 4, ρ 5] (γ 0) 0 [ρ 0, ρ 1, ρ 2, ρ 3, ρ 4, ρ 5, ρ 6, ρ 7] (γ 1) := hJ
  have r3 : (0 : Int) ≤ ρ 3 ∧ ρ 3 ≤ 0 := zRnA hr 3
  have r8 : (1 : Int) ≤ ρ 8 ∧ ρ 8 ≤ 1 := zRnA hr 8
  have f0 : (0 : Int) ≤ ρ 11 + -ρ 7 + (-1) := zAllA hf 0
  have f1 : (0 : Int) ≤ -ρ 6 + ρ 2 + (-1) := zAllA hf 1
  obtain ⟨w_0, w_1, w_2, w_3⟩ : (¬ (ρ 6 ≥ ρ 2)) ∧ (ρ 8 = 1) ∧ (ρ 3 = 0) ∧ (¬ (0 ≤ -ρ 11 + ρ 7)) := ⟨by omega, by omega, by omega, by omega⟩
  have m1 : γ 0 9 (ρ 0) 2 = ρ 2 := zAllA hm 1
  have m2 : γ 0 10 (9 * ρ 0) 12 = ρ 3 := zAllA hm 2
  have m5 : γ 0 10 (ρ 6 + 9 * ρ 0 + 1) 4 = ρ 8 := zAllA hm 5
  have m6 : γ 0 10 (ρ 6 + 9 * ρ 0 + 1) 8 = ρ 9 := zAllA hm 6
  have m8 : γ 0 18 0 (ρ 9) = ρ 11 := zAllA hm 8
  have l0 : sn132 [ρ 0, ρ 6] (γ 1) 0 (ρ 6 + 9 * ρ 0 + 1) (γ 2) := hS132 _ _ _ _ _ (zAllA hl 0)
  have l1 : sn101 [ρ 7, ρ 11] (γ 2) 0 (ρ 11) (γ 3) := hS101 _ _ _ _ _ (zAllA hl 1)
  show jn222 [ρ 0, ρ 1, ρ 2, ρ 3, ρ 4, ρ 5] (γ 0) 0 [ρ 0, ρ 1, ρ 2, ρ 3, ρ 4, ρ 5, ρ 6 + 1, ρ 11] (γ 3)
  have hD : en222 (γ 0) (0, [ρ 0, ρ 6, ρ 7], γ 1) = .inl (0, [ρ 0, ρ 6 + 1, ρ 11], γ 3) := by
    unfold en222
    refine zIP (show (0 : Nat) = 0 by decide) (zLV (γ 1) rfl (zLV (ρ 0) rfl (zLV (ρ 6) rfl (zLV (ρ 7) rfl (zLE m1 (zLE m2 (zIN w_0 ?_)))))))
    refine zLE (show fn132 [ρ 0, ρ 6] (γ 1) = (0, ρ 6 + 9 * ρ 0 + 1, γ 2) from l0.symm) (zLV (γ 2) rfl (zLE m5 (zIP w_1 (zIP w_2 (zLE m6 (zLE m8 (zLE (show fn101 [ρ 7, ρ 11] (γ 2) = (0, ρ 11, γ 3) from l1.symm) ?_)))))))
    refine zLV (γ 3) rfl (zIN w_3 ?_)
    rfl
  exact zGoo_ato hJ hD
theorem vn222a0_3 {S : Nat → zSpc} (hS101 : zIm S 101 sn101) (hS132 : zIm S 132 sn132) {a : List Int} {g : rHp} : ∀ (ρ : Nat → Int) (γ : Nat → rHp), jn222 a g 0 (zAg (zNA a222_ 0) ρ) (γ 1) → zO 6 S a g q222a0_3 ρ γ → zGl (fun i vs g1 => jn222 a g i vs g1) (sn222 a g) q222a0_3 ρ γ := by
  intro ρ γ hJ h
  obtain ⟨ha, hg, hr, hf, hm, hc, hl⟩ := h
  have ha : a = [ρ 0, ρ 1, ρ 2, ρ 3, ρ 4, ρ 5] := ha
  subst ha
  subst hg
  have hJ : jn222 [ρ 0, ρ 1, ρ 2, ρ 3, ρ 4, ρ 5] (γ 0) 0 [ρ 0, ρ 1, ρ 2, ρ 3, ρ 4, ρ 5, ρ 6, ρ 7] (γ 1) := hJ
  have r3 : (1 : Int) ≤ ρ 3 ∧ ρ 3 ≤ 4 := zRnA hr 3
  have r8 : (1 : Int) ≤ ρ 8 ∧ ρ 8 ≤ 1 := zRnA hr 8
  have f0 : (0 : Int) ≤ -ρ 11 + ρ 7 + (-1) := zAllA hf 0
  have f1 : (0 : Int) ≤ -ρ 6 + ρ 2 + (-1) := zAllA hf 1
  obtain ⟨w_0, w_1, w_2, w_3⟩ : (¬ (ρ 6 ≥ ρ 2)) ∧ (ρ 8 = 1) ∧ (¬ (ρ 3 = 0)) ∧ (0 ≤ -ρ 11 + ρ 7 + (-1)) := ⟨by omega, by omega, by omega, by omega⟩
  have m1 : γ 0 9 (ρ 0) 2 = ρ 2 := zAllA hm 1
  have m2 : γ 0 10 (9 * ρ 0) 12 = ρ 3 := zAllA hm 2
  have m5 : γ 0 10 (ρ 6 + 9 * ρ 0 + 1) 4 = ρ 8 := zAllA hm 5
  have m6 : γ 0 10 (ρ 6 + 9 * ρ 0 + 1) 8 = ρ 9 := zAllA hm 6
  have m8 : γ 0 18 0 (ρ 9) = ρ 11 := zAllA hm 8
  have l0 : sn132 [ρ 0, ρ 6] (γ 1) 0 (ρ 6 + 9 * ρ 0 + 1) (γ 2) := hS132 _ _ _ _ _ (zAllA hl 0)
  have l1 : sn101 [ρ 7, ρ 11 + 1] (γ 2) 0 (ρ 7) (γ 3) := hS101 _ _ _ _ _ (zAllA hl 1)
  show jn222 [ρ 0, ρ 1, ρ 2, ρ 3, ρ 4, ρ 5] (γ 0) 0 [ρ 0, ρ 1, ρ 2, ρ 3, ρ 4, ρ 5, ρ 6 + 1, ρ 7] (γ 3)
  have hD : en222 (γ 0) (0, [ρ 0, ρ 6, ρ 7], γ 1) = .inl (0, [ρ 0, ρ 6 + 1, ρ 7], γ 3) := by
    unfold en222
    refine zIP (show (0 : Nat) = 0 by decide) (zLV (γ 1) rfl (zLV (ρ 0) rfl (zLV (ρ 6) rfl (zLV (ρ 7) rfl (zLE m1 (zLE m2 (zIN w_0 ?_)))))))
    refine zLE (show fn132 [ρ 0, ρ 6] (γ 1) = (0, ρ 6 + 9 * ρ 0 + 1, γ 2) from l0.symm) (zLV (γ 2) rfl (zLE m5 (zIP w_1 (zIN w_2 (zLE m6 (zLE m8 (zLE (show fn101 [ρ 7, ρ 11 + 1] (γ 2) = (0, ρ 7, γ 3) from l1.symm) ?_)))))))
    refine zLV (γ 3) rfl (zIP w_3 ?_)
    rfl
  exact zGoo_ato hJ hD
theorem vn222a0_4 {S : Nat → zSpc} (hS101 : zIm S 101 sn101) (hS132 : zIm S 132 sn132) {a : List Int} {g : rHp} : ∀ (ρ : Nat → Int) (γ : Nat → rHp), jn222 a g 0 (zAg (zNA a222_ 0) ρ) (γ 1) → zO 6 S a g q222a0_4 ρ γ → zGl (fun i vs g1 => jn222 a g i vs g1) (sn222 a g) q222a0_4 ρ γ := by
  intro ρ γ hJ h
  obtain ⟨ha, hg, hr, hf, hm, hc, hl⟩ := h
  have ha : a = [ρ 0, ρ 1, ρ 2, ρ 3, ρ 4, ρ 5] := ha
  subst ha
  subst hg
  have hJ : jn222 [ρ 0, ρ 1, ρ 2, ρ 3, ρ 4, ρ 5] (γ 0) 0 [ρ 0, ρ 1, ρ 2, ρ 3, ρ 4, ρ 5, ρ 6, ρ 7] (γ 1) := hJ
  have r3 : (1 : Int) ≤ ρ 3 ∧ ρ 3 ≤ 4 := zRnA hr 3
  have r8 : (1 : Int) ≤ ρ 8 ∧ ρ 8 ≤ 1 := zRnA hr 8
  have f0 : (0 : Int) ≤ ρ 11 + -ρ 7 := zAllA hf 0
  have f1 : (0 : Int) ≤ -ρ 6 + ρ 2 + (-1) := zAllA hf 1
  obtain ⟨w_0, w_1, w_2, w_3⟩ : (¬ (ρ 6 ≥ ρ 2)) ∧ (ρ 8 = 1) ∧ (¬ (ρ 3 = 0)) ∧ (¬ (0 ≤ -ρ 11 + ρ 7 + (-1))) := ⟨by omega, by omega, by omega, by omega⟩
  have m1 : γ 0 9 (ρ 0) 2 = ρ 2 := zAllA hm 1
  have m2 : γ 0 10 (9 * ρ 0) 12 = ρ 3 := zAllA hm 2
  have m5 : γ 0 10 (ρ 6 + 9 * ρ 0 + 1) 4 = ρ 8 := zAllA hm 5
  have m6 : γ 0 10 (ρ 6 + 9 * ρ 0 + 1) 8 = ρ 9 := zAllA hm 6
  have m8 : γ 0 18 0 (ρ 9) = ρ 11 := zAllA hm 8
  have l0 : sn132 [ρ 0, ρ 6] (γ 1) 0 (ρ 6 + 9 * ρ 0 + 1) (γ 2) := hS132 _ _ _ _ _ (zAllA hl 0)
  have l1 : sn101 [ρ 7, ρ 11 + 1] (γ 2) 0 (ρ 11 + 1) (γ 3) := hS101 _ _ _ _ _ (zAllA hl 1)
  show jn222 [ρ 0, ρ 1, ρ 2, ρ 3, ρ 4, ρ 5] (γ 0) 0 [ρ 0, ρ 1, ρ 2, ρ 3, ρ 4, ρ 5, ρ 6 + 1, ρ 11 + 1] (γ 3)
  have hD : en222 (γ 0) (0, [ρ 0, ρ 6, ρ 7], γ 1) = .inl (0, [ρ 0, ρ 6 + 1, ρ 11 + 1], γ 3) := by
    unfold en222
    refine zIP (show (0 : Nat) = 0 by decide) (zLV (γ 1) rfl (zLV (ρ 0) rfl (zLV (ρ 6) rfl (zLV (ρ 7) rfl (zLE m1 (zLE m2 (zIN w_0 ?_)))))))
    refine zLE (show fn132 [ρ 0, ρ 6] (γ 1) = (0, ρ 6 + 9 * ρ 0 + 1, γ 2) from l0.symm) (zLV (γ 2) rfl (zLE m5 (zIP w_1 (zIN w_2 (zLE m6 (zLE m8 (zLE (show fn101 [ρ 7, ρ 11 + 1] (γ 2) = (0, ρ 11 + 1, γ 3) from l1.symm) ?_)))))))
    refine zLV (γ 3) rfl (zIN w_3 ?_)
    rfl
  exact zGoo_ato hJ hD
theorem vn222a0_5 {S : Nat → zSpc} (hS101 : zIm S 101 sn101) (hS132 : zIm S 132 sn132) {a : List Int} {g : rHp} : ∀ (ρ : Nat → Int) (γ : Nat → rHp), jn222 a g 0 (zAg (zNA a222_ 0) ρ) (γ 1) → zO 6 S a g q222a0_5 ρ γ → zGl (fun i vs g1 => jn222 a g i vs g1) (sn222 a g) q222a0_5 ρ γ := by
  intro ρ γ hJ h
  obtain ⟨ha, hg, hr, hf, hm, hc, hl⟩ := h
  have ha : a = [ρ 0, ρ 1, ρ 2, ρ 3, ρ 4, ρ 5] := ha
  subst ha
  subst hg
  have hJ : jn222 [ρ 0, ρ 1, ρ 2, ρ 3, ρ 4, ρ 5] (γ 0) 0 [ρ 0, ρ 1, ρ 2, ρ 3, ρ 4, ρ 5, ρ 6, ρ 7] (γ 1) := hJ
  have r8 : (0 : Int) ≤ ρ 8 ∧ ρ 8 ≤ 8 := zRnA hr 8
  have f0 : (0 : Int) ≤ -ρ 6 + ρ 2 + (-1) := zAllA hf 0
  have w_0 : ¬ (ρ 6 ≥ ρ 2) := by omega
  have m1 : γ 0 9 (ρ 0) 2 = ρ 2 := zAllA hm 1
  have m2 : γ 0 10 (9 * ρ 0) 12 = ρ 3 := zAllA hm 2
  have m5 : γ 0 10 (ρ 6 + 9 * ρ 0 + 1) 4 = ρ 8 := zAllA hm 5
  have l0 : sn132 [ρ 0, ρ 6] (γ 1) 0 (ρ 6 + 9 * ρ 0 + 1) (γ 2) := hS132 _ _ _ _ _ (zAllA hl 0)
  have l1 : ρ 8 ≠ 1 := zAllA hl 1
  have l2 : ρ 8 ≠ 2 := zAllA hl 2
  obtain ⟨wl_0, wl_1⟩ : (¬ (ρ 8 = 1)) ∧ (ρ 8 ≠ 2) := ⟨by omega, by omega⟩
  show jn222 [ρ 0, ρ 1, ρ 2, ρ 3, ρ 4, ρ 5] (γ 0) 0 [ρ 0, ρ 1, ρ 2, ρ 3, ρ 4, ρ 5, ρ 6 + 1, ρ 7] (γ 2)
  have hD : en222 (γ 0) (0, [ρ 0, ρ 6, ρ 7], γ 1) = .inl (0, [ρ 0, ρ 6 + 1, ρ 7], γ 2) := by
    unfold en222
    refine zIP (show (0 : Nat) = 0 by decide) (zLV (γ 1) rfl (zLV (ρ 0) rfl (zLV (ρ 6) rfl (zLV (ρ 7) rfl (zLE m1 (zLE m2 (zIN w_0 ?_)))))))
    refine zLE (show fn132 [ρ 0, ρ 6] (γ 1) = (0, ρ 6 + 9 * ρ 0 + 1, γ 2) from l0.symm) (zLV (γ 2) rfl (zLE m5 (zIN wl_0 (zIP wl_1 ?_))))
    rfl
  exact zGoo_ato hJ hD
theorem vn222a0_6 {S : Nat → zSpc} (hS101 : zIm S 101 sn101) (hS132 : zIm S 132 sn132) {a : List Int} {g : rHp} : ∀ (ρ : Nat → Int) (γ : Nat → rHp), jn222 a g 0 (zAg (zNA a222_ 0) ρ) (γ 1) → zO 6 S a g q222a0_6 ρ γ → zGl (fun i vs g1 => jn222 a g i vs g1) (sn222 a g) q222a0_6 ρ γ := by
  intro ρ γ hJ h
  obtain ⟨ha, hg, hr, hf, hm, hc, hl⟩ := h
  have ha : a = [ρ 0, ρ 1, ρ 2, ρ 3, ρ 4, ρ 5] := ha
  subst ha
  subst hg
  have hJ : jn222 [ρ 0, ρ 1, ρ 2, ρ 3, ρ 4, ρ 5] (γ 0) 0 [ρ 0, ρ 1, ρ 2, ρ 3, ρ 4, ρ 5, ρ 6, ρ 7] (γ 1) := hJ
  have r8 : (2 : Int) ≤ ρ 8 ∧ ρ 8 ≤ 2 := zRnA hr 8
  have f0 : (0 : Int) ≤ -ρ 11 + ρ 7 + (-1) := zAllA hf 0
  have f1 : (0 : Int) ≤ -ρ 6 + ρ 2 + (-1) := zAllA hf 1
  obtain ⟨w_0, w_1, w_2, w_3⟩ : (¬ (ρ 6 ≥ ρ 2)) ∧ (¬ (ρ 8 = 1)) ∧ (¬ (ρ 8 ≠ 2)) ∧ (0 ≤ -ρ 11 + ρ 7 + (-1)) := ⟨by omega, by omega, by omega, by omega⟩
  have m1 : γ 0 9 (ρ 0) 2 = ρ 2 := zAllA hm 1
  have m2 : γ 0 10 (9 * ρ 0) 12 = ρ 3 := zAllA hm 2
  have m5 : γ 0 10 (ρ 6 + 9 * ρ 0 + 1) 4 = ρ 8 := zAllA hm 5
  have m6 : γ 0 10 (ρ 6 + 9 * ρ 0 + 1) 8 = ρ 9 := zAllA hm 6
  have m8 : γ 0 18 0 (ρ 9) = ρ 11 := zAllA hm 8
  have l0 : sn132 [ρ 0, ρ 6] (γ 1) 0 (ρ 6 + 9 * ρ 0 + 1) (γ 2) := hS132 _ _ _ _ _ (zAllA hl 0)
  have l1 : ρ 8 ≠ 1 := zAllA hl 1
  have l2 : sn101 [ρ 7, ρ 11 + 1] (γ 2) 0 (ρ 7) (γ 3) := hS101 _ _ _ _ _ (zAllA hl 2)
  show jn222 [ρ 0, ρ 1, ρ 2, ρ 3, ρ 4, ρ 5] (γ 0) 0 [ρ 0, ρ 1, ρ 2, ρ 3, ρ 4, ρ 5, ρ 6 + 1, ρ 7] (γ 3)
  have hD : en222 (γ 0) (0, [ρ 0, ρ 6, ρ 7], γ 1) = .inl (0, [ρ 0, ρ 6 + 1, ρ 7], γ 3) := by
    unfold en222
    refine zIP (show (0 : Nat) = 0 by decide) (zLV (γ 1) rfl (zLV (ρ 0) rfl (zLV (ρ 6) rfl (zLV (ρ 7) rfl (zLE m1 (zLE m2 (zIN w_0 ?_)))))))
    refine zLE (show fn132 [ρ 0, ρ 6] (γ 1) = (0, ρ 6 + 9 * ρ 0 + 1, γ 2) from l0.symm) (zLV (γ 2) rfl (zLE m5 (zIN w_1 (zIN w_2 (zLE m6 (zLE m8 (zLE (show fn101 [ρ 7, ρ 11 + 1] (γ 2) = (0, ρ 7, γ 3) from l2.symm) ?_)))))))
    refine zLV (γ 3) rfl (zIP w_3 ?_)
    rfl
  exact zGoo_ato hJ hD
theorem vn222a0_7 {S : Nat → zSpc} (hS101 : zIm S 101 sn101) (hS132 : zIm S 132 sn132) {a : List Int} {g : rHp} : ∀ (ρ : Nat → Int) (γ : Nat → rHp), jn222 a g 0 (zAg (zNA a222_ 0) ρ) (γ 1) → zO 6 S a g q222a0_7 ρ γ → zGl (fun i vs g1 => jn222 a g i vs g1) (sn222 a g) q222a0_7 ρ γ := by
  intro ρ γ hJ h
  obtain ⟨ha, hg, hr, hf, hm, hc, hl⟩ := h
  have ha : a = [ρ 0, ρ 1, ρ 2, ρ 3, ρ 4, ρ 5] := ha
  subst ha
  subst hg
  have hJ : jn222 [ρ 0, ρ 1, ρ 2, ρ 3, ρ 4, ρ 5] (γ 0) 0 [ρ 0, ρ 1, ρ 2, ρ 3, ρ 4, ρ 5, ρ 6, ρ 7] (γ 1) := hJ
  have r8 : (2 : Int) ≤ ρ 8 ∧ ρ 8 ≤ 2 := zRnA hr 8
  have f0 : (0 : Int) ≤ ρ 11 + -ρ 7 := zAllA hf 0
  have f1 : (0 : Int) ≤ -ρ 6 + ρ 2 + (-1) := zAllA hf 1
  obtain ⟨w_0, w_1, w_2, w_3⟩ : (¬ (ρ 6 ≥ ρ 2)) ∧ (¬ (ρ 8 = 1)) ∧ (¬ (ρ 8 ≠ 2)) ∧ (¬ (0 ≤ -ρ 11 + ρ 7 + (-1))) := ⟨by omega, by omega, by omega, by omega⟩
  have m1 : γ 0 9 (ρ 0) 2 = ρ 2 := zAllA hm 1
  have m2 : γ 0 10 (9 * ρ 0) 12 = ρ 3 := zAllA hm 2
  have m5 : γ 0 10 (ρ 6 + 9 * ρ 0 + 1) 4 = ρ 8 := zAllA hm 5
  have m6 : γ 0 10 (ρ 6 + 9 * ρ 0 + 1) 8 = ρ 9 := zAllA hm 6
  have m8 : γ 0 18 0 (ρ 9) = ρ 11 := zAllA hm 8
  have l0 : sn132 [ρ 0, ρ 6] (γ 1) 0 (ρ 6 + 9 * ρ 0 + 1) (γ 2) := hS132 _ _ _ _ _ (zAllA hl 0)
  have l1 : ρ 8 ≠ 1 := zAllA hl 1
  have l2 : sn101 [ρ 7, ρ 11 + 1] (γ 2) 0 (ρ 11 + 1) (γ 3) := hS101 _ _ _ _ _ (zAllA hl 2)
  show jn222 [ρ 0, ρ 1, ρ 2, ρ 3, ρ 4, ρ 5] (γ 0) 0 [ρ 0, ρ 1, ρ 2, ρ 3, ρ 4, ρ 5, ρ 6 + 1, ρ 11 + 1] (γ 3)
  have hD : en222 (γ 0) (0, [ρ 0, ρ 6, ρ 7], γ 1) = .inl (0, [ρ 0, ρ 6 + 1, ρ 11 + 1], γ 3) := by
    unfold en222
    refine zIP (show (0 : Nat) = 0 by decide) (zLV (γ 1) rfl (zLV (ρ 0) rfl (zLV (ρ 6) rfl (zLV (ρ 7) rfl (zLE m1 (zLE m2 (zIN w_0 ?_)))))))
    refine zLE (show fn132 [ρ 0, ρ 6] (γ 1) = (0, ρ 6 + 9 * ρ 0 + 1, γ 2) from l0.symm) (zLV (γ 2) rfl (zLE m5 (zIN w_1 (zIN w_2 (zLE m6 (zLE m8 (zLE (show fn101 [ρ 7, ρ 11 + 1] (γ 2) = (0, ρ 11 + 1, γ 3) from l2.symm) ?_)))))))
    refine zLV (γ 3) rfl (zIN w_3 ?_)
    rfl
  exact zGoo_ato hJ hD
theorem yn222 {S : Nat → zSpc} (hS101 : zIm S 101 sn101) (hS132 : zIm S 132 sn132) : ∀ x g o v gz, zSem uW uT w222_.2.2.2.1 w222_.2.2.1.1.length S q222 (fun i => q222a.getD i []) (zNA a222_) x g o v gz → sn222 x g o v gz := by
  intro a g o v gz h
  exact zSem_all (l0 := q222) (las := q222a) (S := S) (J := (fun i vs g1 => jn222 a g i vs g1)) (P := sn222 a g) (fun _ => (show zAll _ [q222_0] from (zAll_c (vn222_0 hS101 hS132) zAll_n))) (fun _ => (show zAllI _ 0 [q222a0] from ⟨(show zAll _ [q222a0_0, q222a0_1, q222a0_2, q222a0_3, q222a0_4, q222a0_5, q222a0_6, q222a0_7] from (zAll_c (vn222a0_0 hS101 hS132) (zAll_c (vn222a0_1 hS101 hS132) (zAll_c (vn222a0_2 hS101 hS132) (zAll_c (vn222a0_3 hS101 hS132) (zAll_c (vn222a0_4 hS101 hS132) (zAll_c (vn222a0_5 hS101 hS132) (zAll_c (vn222a0_6 hS101 hS132) (zAll_c (vn222a0_7 hS101 hS132) zAll_n))))))))), trivial⟩)) h
theorem vn223_0 {S : Nat → zSpc} (hS94 : zIm S 94 sn94) (hS101 : zIm S 101 sn101) (hS131 : zIm S 131 sn131) (hS222 : zIm S 222 sn222) {a : List Int} {g : rHp} : ∀ (ρ : Nat → Int) (γ : Nat → rHp), zO 3 S a g q223_0 ρ γ → zGl (fun i vs g1 => jn223 a g i vs g1) (sn223 a g) q223_0 ρ γ := by
  intro ρ γ h
  obtain ⟨ha, hg, hr, hf, hm, hc, hl⟩ := h
  have ha : a = [ρ 0, ρ 1, ρ 2] := ha
  subst ha
  subst hg
  have l0 : sn94 [0] (γ 0) 0 0 (γ 1) := hS94 _ _ _ _ _ (zAllA hl 0)
  show jn223 [ρ 0, ρ 1, ρ 2] (γ 0) 0 [ρ 0, ρ 1, ρ 2, 0, 1] (γ 1)
  have hD : dn223 [] (γ 0) = .inl (0, [0, 1], γ 1) := by
    unfold dn223
    refine zLE (show fn94 [0] (γ 0) = (0, 0, γ 1) from l0.symm) (zLV (γ 1) rfl ?_)
    rfl
  exact zGoo_to hD
theorem vn223a0_0 {S : Nat → zSpc} (hS94 : zIm S 94 sn94) (hS101 : zIm S 101 sn101) (hS131 : zIm S 131 sn131) (hS222 : zIm S 222 sn222) {a : List Int} {g : rHp} : ∀ (ρ : Nat → Int) (γ : Nat → rHp), jn223 a g 0 (zAg (zNA a223_ 0) ρ) (γ 1) → zO 3 S a g q223a0_0 ρ γ → zGl (fun i vs g1 => jn223 a g i vs g1) (sn223 a g) q223a0_0 ρ γ := by
  intro ρ γ hJ h
  obtain ⟨ha, hg, hr, hf, hm, hc, hl⟩ := h
  have ha : a = [ρ 0, ρ 1, ρ 2] := ha
  subst ha
  subst hg
  have hJ : jn223 [ρ 0, ρ 1, ρ 2] (γ 0) 0 [ρ 0, ρ 1, ρ 2, ρ 3, ρ 4] (γ 1) := hJ
  have r4 : (0 : Int) ≤ ρ 4 ∧ ρ 4 ≤ 0 := zRnA hr 4
  have w_0 : ρ 4 = 0 := by omega
  have c2 : γ 2 = rUp (γ 1) 1 0 8 0 := And.right (zChA hc 0)
  show jn223 [ρ 0, ρ 1, ρ 2] (γ 0) 2 [ρ 0, ρ 1, ρ 2, 0, ρ 4, 0] (γ 2)
  have hD : en223 (γ 0) (0, [ρ 3, ρ 4], γ 1) = .inl (2, [0, ρ 4], γ 2) := by
    unfold en223
    refine zIP (show (0 : Nat) = 0 by decide) (zLV (γ 1) rfl (zLV (ρ 3) rfl (zLV (ρ 4) rfl (zIP w_0 (zLE c2.symm ?_)))))
    rfl
  exact zGoo_ato hJ hD
theorem vn223a0_1 {S : Nat → zSpc} (hS94 : zIm S 94 sn94) (hS101 : zIm S 101 sn101) (hS131 : zIm S 131 sn131) (hS222 : zIm S 222 sn222) {a : List Int} {g : rHp} : ∀ (ρ : Nat → Int) (γ : Nat → rHp), jn223 a g 0 (zAg (zNA a223_ 0) ρ) (γ 1) → zO 3 S a g q223a0_1 ρ γ → zGl (fun i vs g1 => jn223 a g i vs g1) (sn223 a g) q223a0_1 ρ γ := by
  intro ρ γ hJ h
  obtain ⟨ha, hg, hr, hf, hm, hc, hl⟩ := h
  have ha : a = [ρ 0, ρ 1, ρ 2] := ha
  subst ha
  subst hg
  have hJ : jn223 [ρ 0, ρ 1, ρ 2] (γ 0) 0 [ρ 0, ρ 1, ρ 2, ρ 3, ρ 4] (γ 1) := hJ
  have r3 : (401 : Int) ≤ ρ 3 ∧ ρ 3 ≤ 401 := zRnA hr 3
  have r4 : (1 : Int) ≤ ρ 4 ∧ ρ 4 ≤ 1 := zRnA hr 4
  obtain ⟨w_0, w_1⟩ : (¬ (ρ 4 = 0)) ∧ (ρ 3 > 400) := ⟨by omega, by omega⟩
  have c2 : γ 2 = rUp (γ 1) 1 0 8 0 := And.right (zChA hc 0)
  show jn223 [ρ 0, ρ 1, ρ 2] (γ 0) 2 [ρ 0, ρ 1, ρ 2, 0, ρ 4, 0] (γ 2)
  have hD : en223 (γ 0) (0, [ρ 3, ρ 4], γ 1) = .inl (2, [0, ρ 4], γ 2) := by
    unfold en223
    refine zIP (show (0 : Nat) = 0 by decide) (zLV (γ 1) rfl (zLV (ρ 3) rfl (zLV (ρ 4) rfl (zIN w_0 (zIP w_1 (zLE c2.symm ?_))))))
    rfl
  exact zGoo_ato hJ hD
theorem vn223a0_2 {S : Nat → zSpc} (hS94 : zIm S 94 sn94) (hS101 : zIm S 101 sn101) (hS131 : zIm S 131 sn131) (hS222 : zIm S 222 sn222) {a : List Int} {g : rHp} : ∀ (ρ : Nat → Int) (γ : Nat → rHp), jn223 a g 0 (zAg (zNA a223_ 0) ρ) (γ 1) → zO 3 S a g q223a0_2 ρ γ → zGl (fun i vs g1 => jn223 a g i vs g1) (sn223 a g) q223a0_2 ρ γ := by
  intro ρ γ hJ h
  obtain ⟨ha, hg, hr, hf, hm, hc, hl⟩ := h
  have ha : a = [ρ 0, ρ 1, ρ 2] := ha
  subst ha
  subst hg
  have hJ : jn223 [ρ 0, ρ 1, ρ 2] (γ 0) 0 [ρ 0, ρ 1, ρ 2, ρ 3, ρ 4] (γ 1) := hJ
  have r3 : (0 : Int) ≤ ρ 3 ∧ ρ 3 ≤ 400 := zRnA hr 3
  have r4 : (1 : Int) ≤ ρ 4 ∧ ρ 4 ≤ 1 := zRnA hr 4
  obtain ⟨w_0, w_1⟩ : (¬ (ρ 4 = 0)) ∧ (¬ (ρ 3 > 400)) := ⟨by omega, by omega⟩
  show jn223 [ρ 0, ρ 1, ρ 2] (γ 0) 1 [ρ 0, ρ 1, ρ 2, 0, 0, ρ 3] (γ 1)
  have hD : en223 (γ 0) (0, [ρ 3, ρ 4], γ 1) = .inl (1, [0, 0, ρ 3], γ 1) := by
    unfold en223
    refine zIP (show (0 : Nat) = 0 by decide) (zLV (γ 1) rfl (zLV (ρ 3) rfl (zLV (ρ 4) rfl (zIN w_0 (zIN w_1 ?_)))))
    rfl
  exact zGoo_ato hJ hD
theorem vn223a1_0 {S : Nat → zSpc} (hS94 : zIm S 94 sn94) (hS101 : zIm S 101 sn101) (hS131 : zIm S 131 sn131) (hS222 : zIm S 222 sn222) {a : List Int} {g : rHp} : ∀ (ρ : Nat → Int) (γ : Nat → rHp), jn223 a g 1 (zAg (zNA a223_ 1) ρ) (γ 1) → zO 3 S a g q223a1_0 ρ γ → zGl (fun i vs g1 => jn223 a g i vs g1) (sn223 a g) q223a1_0 ρ γ := by
  intro ρ γ hJ h
  obtain ⟨ha, hg, hr, hf, hm, hc, hl⟩ := h
  have ha : a = [ρ 0, ρ 1, ρ 2] := ha
  subst ha
  subst hg
  have hJ : jn223 [ρ 0, ρ 1, ρ 2] (γ 0) 1 [ρ 0, ρ 1, ρ 2, ρ 3, ρ 4, ρ 5] (γ 1) := hJ
  have f0 : (0 : Int) ≤ ρ 3 + -ρ 2 := zAllA hf 0
  have w_0 : ρ 3 ≥ ρ 2 := by omega
  have m0 : γ 0 1 0 7 = ρ 0 := zAllA hm 0
  have m2 : γ 0 1 0 10 = ρ 2 := zAllA hm 2
  show jn223 [ρ 0, ρ 1, ρ 2] (γ 0) 0 [ρ 0, ρ 1, ρ 2, ρ 5 + 1, ρ 4] (γ 1)
  have hD : en223 (γ 0) (1, [ρ 3, ρ 4, ρ 5], γ 1) = .inl (0, [ρ 5 + 1, ρ 4], γ 1) := by
    unfold en223
    refine zIN (show ¬ (1 : Nat) = 0 by decide) (zIP (show (1 : Nat) = 1 by decide) (zLV (γ 1) rfl (zLV (ρ 3) rfl (zLV (ρ 4) rfl (zLV (ρ 5) rfl (zLE m0 (zLE m2 ?_)))))))
    refine zIP w_0 ?_
    rfl
  exact zGoo_ato hJ hD
theorem vn223a1_1 {S : Nat → zSpc} (hS94 : zIm S 94 sn94) (hS101 : zIm S 101 sn101) (hS131 : zIm S 131 sn131) (hS222 : zIm S 222 sn222) {a : List Int} {g : rHp} : ∀ (ρ : Nat → Int) (γ : Nat → rHp), jn223 a g 1 (zAg (zNA a223_ 1) ρ) (γ 1) → zO 3 S a g q223a1_1 ρ γ → zGl (fun i vs g1 => jn223 a g i vs g1) (sn223 a g) q223a1_1 ρ γ := by
  intro ρ γ hJ h
  obtain ⟨ha, hg, hr, hf, hm, hc, hl⟩ := h
  have ha : a = [ρ 0, ρ 1, ρ 2] := ha
  subst ha
  subst hg
  have hJ : jn223 [ρ 0, ρ 1, ρ 2] (γ 0) 1 [ρ 0, ρ 1, ρ 2, ρ 3, ρ 4, ρ 5] (γ 1) := hJ
  have f0 : (0 : Int) ≤ ρ 13 + -ρ 11 := zAllA hf 0
  have f1 : (0 : Int) ≤ -ρ 11 + ρ 0 + (-1) := zAllA hf 1
  have f2 : (0 : Int) ≤ -ρ 3 + ρ 2 + (-1) := zAllA hf 2
  obtain ⟨w_0, w_1, w_2⟩ : (¬ (ρ 3 ≥ ρ 2)) ∧ (ρ 11 < ρ 0) ∧ (ρ 13 ≥ ρ 11) := ⟨by omega, by omega, by omega⟩
  have m0 : γ 0 1 0 7 = ρ 0 := zAllA hm 0
  have m2 : γ 0 1 0 10 = ρ 2 := zAllA hm 2
  have m3 : γ 0 40 0 (ρ 3) = ρ 6 := zAllA hm 3
  have m8 : γ 0 10 (9 * ρ 6) 8 = ρ 12 := zAllA hm 8
  have m9 : γ 1 18 0 (ρ 12) = ρ 13 := zAllA hm 9
  have l0 : sn131 [ρ 3, ρ 6] (γ 1) 0 (ρ 6) (γ 2) := hS131 _ _ _ _ _ (zAllA hl 0)
  have l1 : sn222 [ρ 6, ρ 2, ρ 7, ρ 8, ρ 9, ρ 10] (γ 2) 0 (ρ 11) (γ 3) := hS222 _ _ _ _ _ (zAllA hl 1)
  show jn223 [ρ 0, ρ 1, ρ 2] (γ 0) 1 [ρ 0, ρ 1, ρ 2, ρ 3 + 1, ρ 4, ρ 5] (γ 3)
  have hD : en223 (γ 0) (1, [ρ 3, ρ 4, ρ 5], γ 1) = .inl (1, [ρ 3 + 1, ρ 4, ρ 5], γ 3) := by
    unfold en223
    refine zIN (show ¬ (1 : Nat) = 0 by decide) (zIP (show (1 : Nat) = 1 by decide) (zLV (γ 1) rfl (zLV (ρ 3) rfl (zLV (ρ 4) rfl (zLV (ρ 5) rfl (zLE m0 (zLE m2 ?_)))))))
    refine zIN w_0 (zLE m3 (zLE (show fn131 [ρ 3] (γ 1) = (0, ρ 6, γ 2) from l0.symm) (zLV (γ 2) rfl (zLE (show fn222 [ρ 6] (γ 2) = (0, ρ 11, γ 3) from l1.symm) (zLV (γ 3) rfl (zLV (ρ 11) rfl (zIP w_1 ?_)))))))
    refine zLE m8 (zLE m9 (zIP w_2 ?_))
    rfl
  exact zGoo_ato hJ hD
theorem vn223a1_2 {S : Nat → zSpc} (hS94 : zIm S 94 sn94) (hS101 : zIm S 101 sn101) (hS131 : zIm S 131 sn131) (hS222 : zIm S 222 sn222) {a : List Int} {g : rHp} : ∀ (ρ : Nat → Int) (γ : Nat → rHp), jn223 a g 1 (zAg (zNA a223_ 1) ρ) (γ 1) → zO 3 S a g q223a1_2 ρ γ → zGl (fun i vs g1 => jn223 a g i vs g1) (sn223 a g) q223a1_2 ρ γ := by
  intro ρ γ hJ h
  obtain ⟨ha, hg, hr, hf, hm, hc, hl⟩ := h
  have ha : a = [ρ 0, ρ 1, ρ 2] := ha
  subst ha
  subst hg
  have hJ : jn223 [ρ 0, ρ 1, ρ 2] (γ 0) 1 [ρ 0, ρ 1, ρ 2, ρ 3, ρ 4, ρ 5] (γ 1) := hJ
  have f0 : (0 : Int) ≤ -ρ 13 + ρ 11 + (-1) := zAllA hf 0
  have f1 : (0 : Int) ≤ -ρ 11 + ρ 0 + (-1) := zAllA hf 1
  have f2 : (0 : Int) ≤ -ρ 3 + ρ 2 + (-1) := zAllA hf 2
  obtain ⟨w_0, w_1, w_2⟩ : (¬ (ρ 3 ≥ ρ 2)) ∧ (ρ 11 < ρ 0) ∧ (¬ (ρ 13 ≥ ρ 11)) := ⟨by omega, by omega, by omega⟩
  have m0 : γ 0 1 0 7 = ρ 0 := zAllA hm 0
  have m2 : γ 0 1 0 10 = ρ 2 := zAllA hm 2
  have m3 : γ 0 40 0 (ρ 3) = ρ 6 := zAllA hm 3
  have m8 : γ 0 10 (9 * ρ 6) 8 = ρ 12 := zAllA hm 8
  have m9 : γ 1 18 0 (ρ 12) = ρ 13 := zAllA hm 9
  have c4 : γ 4 = rUp (γ 3) 18 0 (ρ 12) (ρ 11) := And.right (zChA hc 0)
  have l0 : sn131 [ρ 3, ρ 6] (γ 1) 0 (ρ 6) (γ 2) := hS131 _ _ _ _ _ (zAllA hl 0)
  have l1 : sn222 [ρ 6, ρ 2, ρ 7, ρ 8, ρ 9, ρ 10] (γ 2) 0 (ρ 11) (γ 3) := hS222 _ _ _ _ _ (zAllA hl 1)
  show jn223 [ρ 0, ρ 1, ρ 2] (γ 0) 1 [ρ 0, ρ 1, ρ 2, ρ 3 + 1, 1, ρ 5] (γ 4)
  have hD : en223 (γ 0) (1, [ρ 3, ρ 4, ρ 5], γ 1) = .inl (1, [ρ 3 + 1, 1, ρ 5], γ 4) := by
    unfold en223
    refine zIN (show ¬ (1 : Nat) = 0 by decide) (zIP (show (1 : Nat) = 1 by decide) (zLV (γ 1) rfl (zLV (ρ 3) rfl (zLV (ρ 4) rfl (zLV (ρ 5) rfl (zLE m0 (zLE m2 ?_)))))))
    refine zIN w_0 (zLE m3 (zLE (show fn131 [ρ 3] (γ 1) = (0, ρ 6, γ 2) from l0.symm) (zLV (γ 2) rfl (zLE (show fn222 [ρ 6] (γ 2) = (0, ρ 11, γ 3) from l1.symm) (zLV (γ 3) rfl (zLV (ρ 11) rfl (zIP w_1 ?_)))))))
    refine zLE m8 (zLE m9 (zIN w_2 (zLE c4.symm ?_)))
    rfl
  exact zGoo_ato hJ hD
theorem vn223a1_3 {S : Nat → zSpc} (hS94 : zIm S 94 sn94) (hS101 : zIm S 101 sn101) (hS131 : zIm S 131 sn131) (hS222 : zIm S 222 sn222) {a : List Int} {g : rHp} : ∀ (ρ : Nat → Int) (γ : Nat → rHp), jn223 a g 1 (zAg (zNA a223_ 1) ρ) (γ 1) → zO 3 S a g q223a1_3 ρ γ → zGl (fun i vs g1 => jn223 a g i vs g1) (sn223 a g) q223a1_3 ρ γ := by
  intro ρ γ hJ h
  obtain ⟨ha, hg, hr, hf, hm, hc, hl⟩ := h
  have ha : a = [ρ 0, ρ 1, ρ 2] := ha
  subst ha
  subst hg
  have hJ : jn223 [ρ 0, ρ 1, ρ 2] (γ 0) 1 [ρ 0, ρ 1, ρ 2, ρ 3, ρ 4, ρ 5] (γ 1) := hJ
  have f0 : (0 : Int) ≤ ρ 11 + -ρ 0 := zAllA hf 0
  have f1 : (0 : Int) ≤ -ρ 3 + ρ 2 + (-1) := zAllA hf 1
  obtain ⟨w_0, w_1⟩ : (¬ (ρ 3 ≥ ρ 2)) ∧ (¬ (ρ 11 < ρ 0)) := ⟨by omega, by omega⟩
  have m0 : γ 0 1 0 7 = ρ 0 := zAllA hm 0
  have m2 : γ 0 1 0 10 = ρ 2 := zAllA hm 2
  have m3 : γ 0 40 0 (ρ 3) = ρ 6 := zAllA hm 3
  have l0 : sn131 [ρ 3, ρ 6] (γ 1) 0 (ρ 6) (γ 2) := hS131 _ _ _ _ _ (zAllA hl 0)
  have l1 : sn222 [ρ 6, ρ 2, ρ 7, ρ 8, ρ 9, ρ 10] (γ 2) 0 (ρ 11) (γ 3) := hS222 _ _ _ _ _ (zAllA hl 1)
  show sn223 [ρ 0, ρ 1, ρ 2] (γ 0) 0 0 (γ 3)
  have hD : en223 (γ 0) (1, [ρ 3, ρ 4, ρ 5], γ 1) = .inr (0, 0, γ 3) := by
    unfold en223
    refine zIN (show ¬ (1 : Nat) = 0 by decide) (zIP (show (1 : Nat) = 1 by decide) (zLV (γ 1) rfl (zLV (ρ 3) rfl (zLV (ρ 4) rfl (zLV (ρ 5) rfl (zLE m0 (zLE m2 ?_)))))))
    refine zIN w_0 (zLE m3 (zLE (show fn131 [ρ 3] (γ 1) = (0, ρ 6, γ 2) from l0.symm) (zLV (γ 2) rfl (zLE (show fn222 [ρ 6] (γ 2) = (0, ρ 11, γ 3) from l1.symm) (zLV (γ 3) rfl (zLV (ρ 11) rfl (zIN w_1 ?_)))))))
    rfl
  exact zGoo_aend hJ hD
theorem vn223a2_0 {S : Nat → zSpc} (hS94 : zIm S 94 sn94) (hS101 : zIm S 101 sn101) (hS131 : zIm S 131 sn131) (hS222 : zIm S 222 sn222) {a : List Int} {g : rHp} : ∀ (ρ : Nat → Int) (γ : Nat → rHp), jn223 a g 2 (zAg (zNA a223_ 2) ρ) (γ 1) → zO 3 S a g q223a2_0 ρ γ → zGl (fun i vs g1 => jn223 a g i vs g1) (sn223 a g) q223a2_0 ρ γ := by
  intro ρ γ hJ h
  obtain ⟨ha, hg, hr, hf, hm, hc, hl⟩ := h
  have ha : a = [ρ 0, ρ 1, ρ 2] := ha
  subst ha
  subst hg
  have hJ : jn223 [ρ 0, ρ 1, ρ 2] (γ 0) 2 [ρ 0, ρ 1, ρ 2, ρ 3, ρ 4, ρ 5] (γ 1) := hJ
  have f0 : (0 : Int) ≤ ρ 3 + -ρ 0 := zAllA hf 0
  have w_0 : ρ 3 ≥ ρ 0 := by omega
  have m0 : γ 0 1 0 7 = ρ 0 := zAllA hm 0
  have m3 : γ 1 1 0 8 = ρ 5 := zAllA hm 3
  show sn223 [ρ 0, ρ 1, ρ 2] (γ 0) 0 1 (γ 1)
  have hD : en223 (γ 0) (2, [ρ 3, ρ 4], γ 1) = .inr (0, 1, γ 1) := by
    unfold en223
    refine zIN (show ¬ (2 : Nat) = 0 by decide) (zIN (show ¬ (2 : Nat) = 1 by decide) (zIP (show (2 : Nat) = 2 by decide) (zLV (γ 1) rfl (zLV (ρ 3) rfl (zLV (ρ 4) rfl (zLE m0 (zLE m3 ?_)))))))
    refine zIP w_0 ?_
    rfl
  exact zGoo_aend hJ hD
theorem vn223a2_1 {S : Nat → zSpc} (hS94 : zIm S 94 sn94) (hS101 : zIm S 101 sn101) (hS131 : zIm S 131 sn131) (hS222 : zIm S 222 sn222) {a : List Int} {g : rHp} : ∀ (ρ : Nat → Int) (γ : Nat → rHp), jn223 a g 2 (zAg (zNA a223_ 2) ρ) (γ 1) → zO 3 S a g q223a2_1 ρ γ → zGl (fun i vs g1 => jn223 a g i vs g1) (sn223 a g) q223a2_1 ρ γ := by
  intro ρ γ hJ h
  obtain ⟨ha, hg, hr, hf, hm, hc, hl⟩ := h
  have ha : a = [ρ 0, ρ 1, ρ 2] := ha
  subst ha
  subst hg
  have hJ : jn223 [ρ 0, ρ 1, ρ 2] (γ 0) 2 [ρ 0, ρ 1, ρ 2, ρ 3, ρ 4, ρ 5] (γ 1) := hJ
  have f0 : (0 : Int) ≤ -ρ 6 + ρ 5 + (-1) := zAllA hf 0
  have f1 : (0 : Int) ≤ -ρ 3 + ρ 0 + (-1) := zAllA hf 1
  obtain ⟨w_0, w_1⟩ : (¬ (ρ 3 ≥ ρ 0)) ∧ (0 ≤ -ρ 6 + ρ 5 + (-1)) := ⟨by omega, by omega⟩
  have m0 : γ 0 1 0 7 = ρ 0 := zAllA hm 0
  have m3 : γ 1 1 0 8 = ρ 5 := zAllA hm 3
  have m4 : γ 1 18 0 (ρ 3) = ρ 6 := zAllA hm 4
  have c3 : γ 3 = rUp (γ 2) 1 0 8 (ρ 5) := And.right (zChA hc 0)
  have l0 : sn101 [ρ 5, ρ 6 + 1] (γ 1) 0 (ρ 5) (γ 2) := hS101 _ _ _ _ _ (zAllA hl 0)
  show jn223 [ρ 0, ρ 1, ρ 2] (γ 0) 2 [ρ 0, ρ 1, ρ 2, ρ 3 + 1, ρ 4, ρ 5] (γ 3)
  have hD : en223 (γ 0) (2, [ρ 3, ρ 4], γ 1) = .inl (2, [ρ 3 + 1, ρ 4], γ 3) := by
    unfold en223
    refine zIN (show ¬ (2 : Nat) = 0 by decide) (zIN (show ¬ (2 : Nat) = 1 by decide) (zIP (show (2 : Nat) = 2 by decide) (zLV (γ 1) rfl (zLV (ρ 3) rfl (zLV (ρ 4) rfl (zLE m0 (zLE m3 ?_)))))))
    refine zIN w_0 (zLE m4 (zLE (show fn101 [ρ 5, ρ 6 + 1] (γ 1) = (0, ρ 5, γ 2) from l0.symm) (zLV (γ 2) rfl (zIP w_1 (zLE c3.symm ?_)))))
    rfl
  exact zGoo_ato hJ hD
theorem vn223a2_2 {S : Nat → zSpc} (hS94 : zIm S 94 sn94) (hS101 : zIm S 101 sn101) (hS131 : zIm S 131 sn131) (hS222 : zIm S 222 sn222) {a : List Int} {g : rHp} : ∀ (ρ : Nat → Int) (γ : Nat → rHp), jn223 a g 2 (zAg (zNA a223_ 2) ρ) (γ 1) → zO 3 S a g q223a2_2 ρ γ → zGl (fun i vs g1 => jn223 a g i vs g1) (sn223 a g) q223a2_2 ρ γ := by
  intro ρ γ hJ h
  obtain ⟨ha, hg, hr, hf, hm, hc, hl⟩ := h
  have ha : a = [ρ 0, ρ 1, ρ 2] := ha
  subst ha
  subst hg
  have hJ : jn223 [ρ 0, ρ 1, ρ 2] (γ 0) 2 [ρ 0, ρ 1, ρ 2, ρ 3, ρ 4, ρ 5] (γ 1) := hJ
  have f0 : (0 : Int) ≤ ρ 6 + -ρ 5 := zAllA hf 0
  have f1 : (0 : Int) ≤ -ρ 3 + ρ 0 + (-1) := zAllA hf 1
  obtain ⟨w_0, w_1⟩ : (¬ (ρ 3 ≥ ρ 0)) ∧ (¬ (0 ≤ -ρ 6 + ρ 5 + (-1))) := ⟨by omega, by omega⟩
  have m0 : γ 0 1 0 7 = ρ 0 := zAllA hm 0
  have m3 : γ 1 1 0 8 = ρ 5 := zAllA hm 3
  have m4 : γ 1 18 0 (ρ 3) = ρ 6 := zAllA hm 4
  have c3 : γ 3 = rUp (γ 2) 1 0 8 (ρ 6 + 1) := And.right (zChA hc 0)
  have l0 : sn101 [ρ 5, ρ 6 + 1] (γ 1) 0 (ρ 6 + 1) (γ 2) := hS101 _ _ _ _ _ (zAllA hl 0)
  show jn223 [ρ 0, ρ 1, ρ 2] (γ 0) 2 [ρ 0, ρ 1, ρ 2, ρ 3 + 1, ρ 4, ρ 6 + 1] (γ 3)
  have hD : en223 (γ 0) (2, [ρ 3, ρ 4], γ 1) = .inl (2, [ρ 3 + 1, ρ 4], γ 3) := by
    unfold en223
    refine zIN (show ¬ (2 : Nat) = 0 by decide) (zIN (show ¬ (2 : Nat) = 1 by decide) (zIP (show (2 : Nat) = 2 by decide) (zLV (γ 1) rfl (zLV (ρ 3) rfl (zLV (ρ 4) rfl (zLE m0 (zLE m3 ?_)))))))
    refine zIN w_0 (zLE m4 (zLE (show fn101 [ρ 5, ρ 6 + 1] (γ 1) = (0, ρ 6 + 1, γ 2) from l0.symm) (zLV (γ 2) rfl (zIN w_1 (zLE c3.symm ?_)))))
    rfl
  exact zGoo_ato hJ hD
theorem yn223 {S : Nat → zSpc} (hS94 : zIm S 94 sn94) (hS101 : zIm S 101 sn101) (hS131 : zIm S 131 sn131) (hS222 : zIm S 222 sn222) : ∀ x g o v gz, zSem uW uT w223_.2.2.2.1 w223_.2.2.1.1.length S q223 (fun i => q223a.getD i []) (zNA a223_) x g o v gz → sn223 x g o v gz := by
  intro a g o v gz h
  exact zSem_all (l0 := q223) (las := q223a) (S := S) (J := (fun i vs g1 => jn223 a g i vs g1)) (P := sn223 a g) (fun _ => (show zAll _ [q223_0] from (zAll_c (vn223_0 hS94 hS101 hS131 hS222) zAll_n))) (fun _ => (show zAllI _ 0 [q223a0, q223a1, q223a2] from ⟨(show zAll _ [q223a0_0, q223a0_1, q223a0_2] from (zAll_c (vn223a0_0 hS94 hS101 hS131 hS222) (zAll_c (vn223a0_1 hS94 hS101 hS131 hS222) (zAll_c (vn223a0_2 hS94 hS101 hS131 hS222) zAll_n)))), ⟨(show zAll _ [q223a1_0, q223a1_1, q223a1_2, q223a1_3] from (zAll_c (vn223a1_0 hS94 hS101 hS131 hS222) (zAll_c (vn223a1_1 hS94 hS101 hS131 hS222) (zAll_c (vn223a1_2 hS94 hS101 hS131 hS222) (zAll_c (vn223a1_3 hS94 hS101 hS131 hS222) zAll_n))))), ⟨(show zAll _ [q223a2_0, q223a2_1, q223a2_2] from (zAll_c (vn223a2_0 hS94 hS101 hS131 hS222) (zAll_c (vn223a2_1 hS94 hS101 hS131 hS222) (zAll_c (vn223a2_2 hS94 hS101 hS131 hS222) zAll_n)))), trivial⟩⟩⟩)) h
theorem vn224_0 {S : Nat → zSpc}  {a : List Int} {g : rHp} : ∀ (ρ : Nat → Int) (γ : Nat → rHp), zO 2 S a g q224_0 ρ γ → zGl (fun _ _ _ => True) (sn224 a g) q224_0 ρ γ := by
  intro ρ γ h
  obtain ⟨ha, hg, hr, hf, hm, hc, hl⟩ := h
  have ha : a = [ρ 0, ρ 1] := ha
  subst ha
  subst hg
  have r2 : (0 : Int) ≤ ρ 2 ∧ ρ 2 ≤ 4 := zRnA hr 2
  have m0 : γ 0 43 (ρ 0) (ρ 1) = ρ 2 := zAllA hm 0
  have m1 : γ 0 46 (ρ 0) (ρ 1) = ρ 3 := zAllA hm 1
  have l0 : ρ 2 ≠ 1 := zAllA hl 0
  have wl_0 : ρ 2 ≠ 1 := by omega
  show sn224 [ρ 0, ρ 1] (γ 0) 0 (ρ 3) (γ 0)
  refine Eq.symm ?_
  show fn224 [ρ 0, ρ 1] (γ 0) = _
  unfold fn224
  refine zLV (ρ 0) rfl (zLV (ρ 1) rfl (zLE m0 (zIP wl_0 (zLE m1 ?_))))
  rfl
theorem vn224_1 {S : Nat → zSpc}  {a : List Int} {g : rHp} : ∀ (ρ : Nat → Int) (γ : Nat → rHp), zO 2 S a g q224_1 ρ γ → zGl (fun _ _ _ => True) (sn224 a g) q224_1 ρ γ := by
  intro ρ γ h
  obtain ⟨ha, hg, hr, hf, hm, hc, hl⟩ := h
  have ha : a = [ρ 0, ρ 1] := ha
  subst ha
  subst hg
  have r2 : (1 : Int) ≤ ρ 2 ∧ ρ 2 ≤ 1 := zRnA hr 2
  have w_0 : ¬ (ρ 2 ≠ 1) := by omega
  have m0 : γ 0 43 (ρ 0) (ρ 1) = ρ 2 := zAllA hm 0
  have m1 : γ 0 44 (ρ 0) (ρ 1) = ρ 3 := zAllA hm 1
  have m2 : γ 0 37 0 (ρ 3) = ρ 4 := zAllA hm 2
  show sn224 [ρ 0, ρ 1] (γ 0) 0 (ρ 4) (γ 0)
  refine Eq.symm ?_
  show fn224 [ρ 0, ρ 1] (γ 0) = _
  unfold fn224
  refine zLV (ρ 0) rfl (zLV (ρ 1) rfl (zLE m0 (zIN w_0 (zLE m1 (zLE m2 ?_)))))
  rfl
theorem yn224 {S : Nat → zSpc}  : ∀ x g o v gz, zSem uW uT w224_.2.2.2.1 w224_.2.2.1.1.length S q224 (fun i => q224a.getD i []) (zNA a224_) x g o v gz → sn224 x g o v gz := by
  intro a g o v gz h
  exact zSem_all (l0 := q224) (las := q224a) (S := S) (J := (fun _ _ _ => True)) (P := sn224 a g) (fun _ => (show zAll _ [q224_0, q224_1] from (zAll_c (vn224_0 ) (zAll_c (vn224_1 ) zAll_n)))) (fun _ => (show zAllI _ 0 [] from trivial)) h
theorem vn225_0 {S : Nat → zSpc} (hS224 : zIm S 224 sn224) {a : List Int} {g : rHp} : ∀ (ρ : Nat → Int) (γ : Nat → rHp), zO 4 S a g q225_0 ρ γ → zGl (fun i vs g1 => jn225 a g i vs g1) (sn225 a g) q225_0 ρ γ := by
  intro ρ γ h
  obtain ⟨ha, hg, hr, hf, hm, hc, hl⟩ := h
  have ha : a = [ρ 0, ρ 1, ρ 2, ρ 3] := ha
  subst ha
  subst hg
  have f0 : (0 : Int) ≤ -ρ 4 + ρ 3 := zAllA hf 0
  have f1 : (0 : Int) ≤ ρ 4 + -ρ 3 := zAllA hf 1
  have w_0 : ρ 4 = ρ 3 := by omega
  have m1 : γ 0 10 (ρ 0) 8 = ρ 3 := zAllA hm 1
  have m2 : γ 0 28 0 (ρ 1) = ρ 4 := zAllA hm 2
  show jn225 [ρ 0, ρ 1, ρ 2, ρ 3] (γ 0) 0 [ρ 0, ρ 1, ρ 2, ρ 3, 0] (γ 0)
  have hD : dn225 [ρ 0, ρ 1] (γ 0) = .inl (0, [ρ 0, ρ 1, 0], γ 0) := by
    unfold dn225
    refine zLV (ρ 0) rfl (zLV (ρ 1) rfl (zLE m1 (zLE m2 (zIP w_0 ?_))))
    rfl
  exact zGoo_to hD
theorem vn225_1 {S : Nat → zSpc} (hS224 : zIm S 224 sn224) {a : List Int} {g : rHp} : ∀ (ρ : Nat → Int) (γ : Nat → rHp), zO 4 S a g q225_1 ρ γ → zGl (fun i vs g1 => jn225 a g i vs g1) (sn225 a g) q225_1 ρ γ := by
  intro ρ γ h
  obtain ⟨ha, hg, hr, hf, hm, hc, hl⟩ := h
  have ha : a = [ρ 0, ρ 1, ρ 2, ρ 3] := ha
  subst ha
  subst hg
  have r3 : ((-1) : Int) ≤ ρ 3 ∧ ρ 3 ≤ 19 := zRnA hr 3
  have r4 : (0 : Int) ≤ ρ 4 ∧ ρ 4 ≤ 19 := zRnA hr 4
  have m1 : γ 0 10 (ρ 0) 8 = ρ 3 := zAllA hm 1
  have m2 : γ 0 28 0 (ρ 1) = ρ 4 := zAllA hm 2
  have l0 : ρ 4 ≠ ρ 3 := zAllA hl 0
  have wl_0 : ¬ (ρ 4 = ρ 3) := by omega
  show sn225 [ρ 0, ρ 1, ρ 2, ρ 3] (γ 0) 0 0 (γ 0)
  have hD : dn225 [ρ 0, ρ 1] (γ 0) = .inr (0, 0, γ 0) := by
    unfold dn225
    refine zLV (ρ 0) rfl (zLV (ρ 1) rfl (zLE m1 (zLE m2 (zIN wl_0 ?_))))
    rfl
  exact zGoo_end hD
theorem vn225a0_0 {S : Nat → zSpc} (hS224 : zIm S 224 sn224) {a : List Int} {g : rHp} : ∀ (ρ : Nat → Int) (γ : Nat → rHp), jn225 a g 0 (zAg (zNA a225_ 0) ρ) (γ 1) → zO 4 S a g q225a0_0 ρ γ → zGl (fun i vs g1 => jn225 a g i vs g1) (sn225 a g) q225a0_0 ρ γ := by
  intro ρ γ hJ h
  obtain ⟨ha, hg, hr, hf, hm, hc, hl⟩ := h
  have ha : a = [ρ 0, ρ 1, ρ 2, ρ 3] := ha
  subst ha
  subst hg
  have hJ : jn225 [ρ 0, ρ 1, ρ 2, ρ 3] (γ 0) 0 [ρ 0, ρ 1, ρ 2, ρ 3, ρ 4] (γ 1) := hJ
  have f0 : (0 : Int) ≤ ρ 4 + -ρ 2 := zAllA hf 0
  have w_0 : ρ 4 ≥ ρ 2 := by omega
  have m0 : γ 0 10 (ρ 0) 5 = ρ 2 := zAllA hm 0
  show sn225 [ρ 0, ρ 1, ρ 2, ρ 3] (γ 0) 0 1 (γ 1)
  have hD : en225 (γ 0) (0, [ρ 0, ρ 1, ρ 4], γ 1) = .inr (0, 1, γ 1) := by
    unfold en225
    refine zIP (show (0 : Nat) = 0 by decide) (zLV (γ 1) rfl (zLV (ρ 0) rfl (zLV (ρ 1) rfl (zLV (ρ 4) rfl (zLE m0 (zIP w_0 ?_))))))
    rfl
  exact zGoo_aend hJ hD
theorem vn225a0_1 {S : Nat → zSpc} (hS224 : zIm S 224 sn224) {a : List Int} {g : rHp} : ∀ (ρ : Nat → Int) (γ : Nat → rHp), jn225 a g 0 (zAg (zNA a225_ 0) ρ) (γ 1) → zO 4 S a g q225a0_1 ρ γ → zGl (fun i vs g1 => jn225 a g i vs g1) (sn225 a g) q225a0_1 ρ γ := by
  intro ρ γ hJ h
  obtain ⟨ha, hg, hr, hf, hm, hc, hl⟩ := h
  have ha : a = [ρ 0, ρ 1, ρ 2, ρ 3] := ha
  subst ha
  subst hg
  have hJ : jn225 [ρ 0, ρ 1, ρ 2, ρ 3] (γ 0) 0 [ρ 0, ρ 1, ρ 2, ρ 3, ρ 4] (γ 1) := hJ
  have r6 : (3 : Int) ≤ ρ 6 ∧ ρ 6 ≤ 3 := zRnA hr 6
  have f0 : (0 : Int) ≤ -ρ 4 + ρ 2 + (-1) := zAllA hf 0
  obtain ⟨w_0, w_1, w_2⟩ : (¬ (ρ 4 ≥ ρ 2)) ∧ (ρ 6 ≠ 2) ∧ (ρ 6 = 3) := ⟨by omega, by omega, by omega⟩
  have m0 : γ 0 10 (ρ 0) 5 = ρ 2 := zAllA hm 0
  have m2 : γ 0 27 0 (ρ 4 + 4 * ρ 1) = ρ 5 := zAllA hm 2
  have m3 : γ 0 43 (ρ 0) (ρ 4) = ρ 6 := zAllA hm 3
  have l0 : ρ 6 ≠ 2 := zAllA hl 0
  show jn225 [ρ 0, ρ 1, ρ 2, ρ 3] (γ 0) 0 [ρ 0, ρ 1, ρ 2, ρ 3, ρ 4 + 1] (γ 1)
  have hD : en225 (γ 0) (0, [ρ 0, ρ 1, ρ 4], γ 1) = .inl (0, [ρ 0, ρ 1, ρ 4 + 1], γ 1) := by
    unfold en225
    refine zIP (show (0 : Nat) = 0 by decide) (zLV (γ 1) rfl (zLV (ρ 0) rfl (zLV (ρ 1) rfl (zLV (ρ 4) rfl (zLE m0 (zIN w_0 (zLE m2 ?_)))))))
    refine zLE m3 (zIP w_1 (zIP w_2 ?_))
    rfl
  exact zGoo_ato hJ hD
theorem vn225a0_2 {S : Nat → zSpc} (hS224 : zIm S 224 sn224) {a : List Int} {g : rHp} : ∀ (ρ : Nat → Int) (γ : Nat → rHp), jn225 a g 0 (zAg (zNA a225_ 0) ρ) (γ 1) → zO 4 S a g q225a0_2 ρ γ → zGl (fun i vs g1 => jn225 a g i vs g1) (sn225 a g) q225a0_2 ρ γ := by
  intro ρ γ hJ h
  obtain ⟨ha, hg, hr, hf, hm, hc, hl⟩ := h
  have ha : a = [ρ 0, ρ 1, ρ 2, ρ 3] := ha
  subst ha
  subst hg
  have hJ : jn225 [ρ 0, ρ 1, ρ 2, ρ 3] (γ 0) 0 [ρ 0, ρ 1, ρ 2, ρ 3, ρ 4] (γ 1) := hJ
  have r6 : (0 : Int) ≤ ρ 6 ∧ ρ 6 ≤ 4 := zRnA hr 6
  have f0 : (0 : Int) ≤ -ρ 7 + ρ 5 := zAllA hf 0
  have f1 : (0 : Int) ≤ ρ 7 + -ρ 5 := zAllA hf 1
  have f2 : (0 : Int) ≤ -ρ 4 + ρ 2 + (-1) := zAllA hf 2
  obtain ⟨w_0, w_1⟩ : (¬ (ρ 4 ≥ ρ 2)) ∧ (ρ 7 = ρ 5) := ⟨by omega, by omega⟩
  have m0 : γ 0 10 (ρ 0) 5 = ρ 2 := zAllA hm 0
  have m2 : γ 0 27 0 (ρ 4 + 4 * ρ 1) = ρ 5 := zAllA hm 2
  have m3 : γ 0 43 (ρ 0) (ρ 4) = ρ 6 := zAllA hm 3
  have l0 : ρ 6 ≠ 2 := zAllA hl 0
  have l1 : ρ 6 ≠ 3 := zAllA hl 1
  have l2 : sn224 [ρ 0, ρ 4] (γ 1) 0 (ρ 7) (γ 2) := hS224 _ _ _ _ _ (zAllA hl 2)
  obtain ⟨wl_0, wl_1⟩ : (ρ 6 ≠ 2) ∧ (¬ (ρ 6 = 3)) := ⟨by omega, by omega⟩
  show jn225 [ρ 0, ρ 1, ρ 2, ρ 3] (γ 0) 0 [ρ 0, ρ 1, ρ 2, ρ 3, ρ 4 + 1] (γ 2)
  have hD : en225 (γ 0) (0, [ρ 0, ρ 1, ρ 4], γ 1) = .inl (0, [ρ 0, ρ 1, ρ 4 + 1], γ 2) := by
    unfold en225
    refine zIP (show (0 : Nat) = 0 by decide) (zLV (γ 1) rfl (zLV (ρ 0) rfl (zLV (ρ 1) rfl (zLV (ρ 4) rfl (zLE m0 (zIN w_0 (zLE m2 ?_)))))))
    refine zLE m3 (zIP wl_0 (zIN wl_1 (zLE (show fn224 [ρ 0, ρ 4] (γ 1) = (0, ρ 7, γ 2) from l2.symm) (zLV (γ 2) rfl (zLV (ρ 7) rfl (zIP w_1 ?_))))))
    rfl
  exact zGoo_ato hJ hD
theorem vn225a0_3 {S : Nat → zSpc} (hS224 : zIm S 224 sn224) {a : List Int} {g : rHp} : ∀ (ρ : Nat → Int) (γ : Nat → rHp), jn225 a g 0 (zAg (zNA a225_ 0) ρ) (γ 1) → zO 4 S a g q225a0_3 ρ γ → zGl (fun i vs g1 => jn225 a g i vs g1) (sn225 a g) q225a0_3 ρ γ := by
  intro ρ γ hJ h
  obtain ⟨ha, hg, hr, hf, hm, hc, hl⟩ := h
  have ha : a = [ρ 0, ρ 1, ρ 2, ρ 3] := ha
  subst ha
  subst hg
  have hJ : jn225 [ρ 0, ρ 1, ρ 2, ρ 3] (γ 0) 0 [ρ 0, ρ 1, ρ 2, ρ 3, ρ 4] (γ 1) := hJ
  have r5 : ((-9223372036854775808) : Int) ≤ ρ 5 ∧ ρ 5 ≤ 9223372036854775807 := zRnA hr 5
  have r6 : (0 : Int) ≤ ρ 6 ∧ ρ 6 ≤ 4 := zRnA hr 6
  have r7 : ((-9223372036854775808) : Int) ≤ ρ 7 ∧ ρ 7 ≤ 9223372036854775807 := zRnA hr 7
  have f0 : (0 : Int) ≤ -ρ 4 + ρ 2 + (-1) := zAllA hf 0
  have w_0 : ¬ (ρ 4 ≥ ρ 2) := by omega
  have m0 : γ 0 10 (ρ 0) 5 = ρ 2 := zAllA hm 0
  have m2 : γ 0 27 0 (ρ 4 + 4 * ρ 1) = ρ 5 := zAllA hm 2
  have m3 : γ 0 43 (ρ 0) (ρ 4) = ρ 6 := zAllA hm 3
  have l0 : ρ 6 ≠ 2 := zAllA hl 0
  have l1 : ρ 6 ≠ 3 := zAllA hl 1
  have l2 : sn224 [ρ 0, ρ 4] (γ 1) 0 (ρ 7) (γ 2) := hS224 _ _ _ _ _ (zAllA hl 2)
  have l3 : ρ 7 ≠ ρ 5 := zAllA hl 3
  obtain ⟨wl_0, wl_1, wl_2⟩ : (ρ 6 ≠ 2) ∧ (¬ (ρ 6 = 3)) ∧ (¬ (ρ 7 = ρ 5)) := ⟨by omega, by omega, by omega⟩
  show sn225 [ρ 0, ρ 1, ρ 2, ρ 3] (γ 0) 0 0 (γ 2)
  have hD : en225 (γ 0) (0, [ρ 0, ρ 1, ρ 4], γ 1) = .inr (0, 0, γ 2) := by
    unfold en225
    refine zIP (show (0 : Nat) = 0 by decide) (zLV (γ 1) rfl (zLV (ρ 0) rfl (zLV (ρ 1) rfl (zLV (ρ 4) rfl (zLE m0 (zIN w_0 (zLE m2 ?_)))))))
    refine zLE m3 (zIP wl_0 (zIN wl_1 (zLE (show fn224 [ρ 0, ρ 4] (γ 1) = (0, ρ 7, γ 2) from l2.symm) (zLV (γ 2) rfl (zLV (ρ 7) rfl (zIN wl_2 ?_))))))
    rfl
  exact zGoo_aend hJ hD
theorem vn225a0_4 {S : Nat → zSpc} (hS224 : zIm S 224 sn224) {a : List Int} {g : rHp} : ∀ (ρ : Nat → Int) (γ : Nat → rHp), jn225 a g 0 (zAg (zNA a225_ 0) ρ) (γ 1) → zO 4 S a g q225a0_4 ρ γ → zGl (fun i vs g1 => jn225 a g i vs g1) (sn225 a g) q225a0_4 ρ γ := by
  intro ρ γ hJ h
  obtain ⟨ha, hg, hr, hf, hm, hc, hl⟩ := h
  have ha : a = [ρ 0, ρ 1, ρ 2, ρ 3] := ha
  subst ha
  subst hg
  have hJ : jn225 [ρ 0, ρ 1, ρ 2, ρ 3] (γ 0) 0 [ρ 0, ρ 1, ρ 2, ρ 3, ρ 4] (γ 1) := hJ
  have r6 : (2 : Int) ≤ ρ 6 ∧ ρ 6 ≤ 2 := zRnA hr 6
  have f0 : (0 : Int) ≤ -ρ 4 + ρ 2 + (-1) := zAllA hf 0
  obtain ⟨w_0, w_1⟩ : (¬ (ρ 4 ≥ ρ 2)) ∧ (¬ (ρ 6 ≠ 2)) := ⟨by omega, by omega⟩
  have m0 : γ 0 10 (ρ 0) 5 = ρ 2 := zAllA hm 0
  have m2 : γ 0 27 0 (ρ 4 + 4 * ρ 1) = ρ 5 := zAllA hm 2
  have m3 : γ 0 43 (ρ 0) (ρ 4) = ρ 6 := zAllA hm 3
  have m4 : γ 0 44 (ρ 0) (ρ 4) = ρ 7 := zAllA hm 4
  have c2 : γ 2 = rUp (γ 1) 37 0 (ρ 7) (ρ 5) := And.right (zChA hc 0)
  show jn225 [ρ 0, ρ 1, ρ 2, ρ 3] (γ 0) 0 [ρ 0, ρ 1, ρ 2, ρ 3, ρ 4 + 1] (γ 2)
  have hD : en225 (γ 0) (0, [ρ 0, ρ 1, ρ 4], γ 1) = .inl (0, [ρ 0, ρ 1, ρ 4 + 1], γ 2) := by
    unfold en225
    refine zIP (show (0 : Nat) = 0 by decide) (zLV (γ 1) rfl (zLV (ρ 0) rfl (zLV (ρ 1) rfl (zLV (ρ 4) rfl (zLE m0 (zIN w_0 (zLE m2 ?_)))))))
    refine zLE m3 (zIN w_1 (zLE m4 (zLE c2.symm ?_)))
    rfl
  exact zGoo_ato hJ hD
theorem yn225 {S : Nat → zSpc} (hS224 : zIm S 224 sn224) : ∀ x g o v gz, zSem uW uT w225_.2.2.2.1 w225_.2.2.1.1.length S q225 (fun i => q225a.getD i []) (zNA a225_) x g o v gz → sn225 x g o v gz := by
  intro a g o v gz h
  exact zSem_all (l0 := q225) (las := q225a) (S := S) (J := (fun i vs g1 => jn225 a g i vs g1)) (P := sn225 a g) (fun _ => (show zAll _ [q225_0, q225_1] from (zAll_c (vn225_0 hS224) (zAll_c (vn225_1 hS224) zAll_n)))) (fun _ => (show zAllI _ 0 [q225a0] from ⟨(show zAll _ [q225a0_0, q225a0_1, q225a0_2, q225a0_3, q225a0_4] from (zAll_c (vn225a0_0 hS224) (zAll_c (vn225a0_1 hS224) (zAll_c (vn225a0_2 hS224) (zAll_c (vn225a0_3 hS224) (zAll_c (vn225a0_4 hS224) zAll_n)))))), trivial⟩)) h
theorem vn226_0 {S : Nat → zSpc} (hS208 : zIm S 208 sn208) (hS211 : zIm S 211 sn211) (hS224 : zIm S 224 sn224) {a : List Int} {g : rHp} : ∀ (ρ : Nat → Int) (γ : Nat → rHp), zO 5 S a g q226_0 ρ γ → zGl (fun _ _ _ => True) (sn226 a g) q226_0 ρ γ := by
  intro ρ γ h
  obtain ⟨ha, hg, hr, hf, hm, hc, hl⟩ := h
  have ha : a = [ρ 0, ρ 1, ρ 2, ρ 3, ρ 4] := ha
  subst ha
  subst hg
  have r4 : (0 : Int) ≤ ρ 4 ∧ ρ 4 ≤ 3 := zRnA hr 4
  have w_0 : ρ 4 ≥ 0 := by omega
  have m1 : γ 0 10 (ρ 0) 8 = ρ 3 := zAllA hm 1
  have m2 : γ 0 10 (ρ 0) 9 = ρ 4 := zAllA hm 2
  have l0 : sn224 [ρ 0, ρ 4] (γ 0) 0 (ρ 5) (γ 1) := hS224 _ _ _ _ _ (zAllA hl 0)
  have l1 : sn211 [ρ 3, ρ 4, ρ 5] (γ 1) 0 (ρ 6) (γ 2) := hS211 _ _ _ _ _ (zAllA hl 1)
  show sn226 [ρ 0, ρ 1, ρ 2, ρ 3, ρ 4] (γ 0) 0 (ρ 6) (γ 2)
  refine Eq.symm ?_
  show fn226 [ρ 0, ρ 1] (γ 0) = _
  unfold fn226
  refine zLV (ρ 0) rfl (zLV (ρ 1) rfl (zLE m1 (zLE m2 (zIP w_0 (zLE (show fn224 [ρ 0, ρ 4] (γ 0) = (0, ρ 5, γ 1) from l0.symm) (zLV (γ 1) rfl (zLV (ρ 5) rfl ?_)))))))
  refine zLE (show fn211 [ρ 3, ρ 4, ρ 5] (γ 1) = (0, ρ 6, γ 2) from l1.symm) (zLV (γ 2) rfl (zLV (ρ 6) rfl ?_))
  rfl
theorem vn226_1 {S : Nat → zSpc} (hS208 : zIm S 208 sn208) (hS211 : zIm S 211 sn211) (hS224 : zIm S 224 sn224) {a : List Int} {g : rHp} : ∀ (ρ : Nat → Int) (γ : Nat → rHp), zO 5 S a g q226_1 ρ γ → zGl (fun _ _ _ => True) (sn226 a g) q226_1 ρ γ := by
  intro ρ γ h
  obtain ⟨ha, hg, hr, hf, hm, hc, hl⟩ := h
  have ha : a = [ρ 0, ρ 1, ρ 2, ρ 3, ρ 4] := ha
  subst ha
  subst hg
  have r4 : ((-1) : Int) ≤ ρ 4 ∧ ρ 4 ≤ (-1) := zRnA hr 4
  have w_0 : ¬ (ρ 4 ≥ 0) := by omega
  have m1 : γ 0 10 (ρ 0) 8 = ρ 3 := zAllA hm 1
  have m2 : γ 0 10 (ρ 0) 9 = ρ 4 := zAllA hm 2
  have l0 : sn208 [ρ 3, ρ 1, ρ 2] (γ 0) 0 (ρ 5) (γ 1) := hS208 _ _ _ _ _ (zAllA hl 0)
  show sn226 [ρ 0, ρ 1, ρ 2, ρ 3, ρ 4] (γ 0) 0 (ρ 5) (γ 1)
  refine Eq.symm ?_
  show fn226 [ρ 0, ρ 1] (γ 0) = _
  unfold fn226
  refine zLV (ρ 0) rfl (zLV (ρ 1) rfl (zLE m1 (zLE m2 (zIN w_0 (zLE (show fn208 [ρ 3, ρ 1] (γ 0) = (0, ρ 5, γ 1) from l0.symm) (zLV (γ 1) rfl (zLV (ρ 5) rfl ?_)))))))
  rfl
theorem yn226 {S : Nat → zSpc} (hS208 : zIm S 208 sn208) (hS211 : zIm S 211 sn211) (hS224 : zIm S 224 sn224) : ∀ x g o v gz, zSem uW uT w226_.2.2.2.1 w226_.2.2.1.1.length S q226 (fun i => q226a.getD i []) (zNA a226_) x g o v gz → sn226 x g o v gz := by
  intro a g o v gz h
  exact zSem_all (l0 := q226) (las := q226a) (S := S) (J := (fun _ _ _ => True)) (P := sn226 a g) (fun _ => (show zAll _ [q226_0, q226_1] from (zAll_c (vn226_0 hS208 hS211 hS224) (zAll_c (vn226_1 hS208 hS211 hS224) zAll_n)))) (fun _ => (show zAllI _ 0 [] from trivial)) h
theorem vn227_0 {S : Nat → zSpc} (hS209 : zIm S 209 sn209) (hS212 : zIm S 212 sn212) {a : List Int} {g : rHp} : ∀ (ρ : Nat → Int) (γ : Nat → rHp), zO 3 S a g q227_0 ρ γ → zGl (fun _ _ _ => True) (sn227 a g) q227_0 ρ γ := by
  intro ρ γ h
  obtain ⟨ha, hg, hr, hf, hm, hc, hl⟩ := h
  have ha : a = [ρ 0, ρ 1, ρ 2] := ha
  subst ha
  subst hg
  have r2 : (0 : Int) ≤ ρ 2 ∧ ρ 2 ≤ 3 := zRnA hr 2
  have w_0 : ρ 2 ≥ 0 := by omega
  have m0 : γ 0 10 (ρ 0) 9 = ρ 2 := zAllA hm 0
  have l0 : sn212 [ρ 1, ρ 2] (γ 0) 0 (ρ 3) (γ 1) := hS212 _ _ _ _ _ (zAllA hl 0)
  show sn227 [ρ 0, ρ 1, ρ 2] (γ 0) 0 (ρ 3) (γ 1)
  refine Eq.symm ?_
  show fn227 [ρ 0, ρ 1] (γ 0) = _
  unfold fn227
  refine zLV (ρ 0) rfl (zLV (ρ 1) rfl (zLE m0 (zIP w_0 (zLE (show fn212 [ρ 1, ρ 2] (γ 0) = (0, ρ 3, γ 1) from l0.symm) (zLV (γ 1) rfl (zLV (ρ 3) rfl ?_))))))
  rfl
theorem vn227_1 {S : Nat → zSpc} (hS209 : zIm S 209 sn209) (hS212 : zIm S 212 sn212) {a : List Int} {g : rHp} : ∀ (ρ : Nat → Int) (γ : Nat → rHp), zO 3 S a g q227_1 ρ γ → zGl (fun _ _ _ => True) (sn227 a g) q227_1 ρ γ := by
  intro ρ γ h
  obtain ⟨ha, hg, hr, hf, hm, hc, hl⟩ := h
  have ha : a = [ρ 0, ρ 1, ρ 2] := ha
  subst ha
  subst hg
  have r2 : ((-1) : Int) ≤ ρ 2 ∧ ρ 2 ≤ (-1) := zRnA hr 2
  have w_0 : ¬ (ρ 2 ≥ 0) := by omega
  have m0 : γ 0 10 (ρ 0) 9 = ρ 2 := zAllA hm 0
  have l0 : sn209 [ρ 1] (γ 0) 0 (ρ 3) (γ 1) := hS209 _ _ _ _ _ (zAllA hl 0)
  show sn227 [ρ 0, ρ 1, ρ 2] (γ 0) 0 (ρ 3) (γ 1)
  refine Eq.symm ?_
  show fn227 [ρ 0, ρ 1] (γ 0) = _
  unfold fn227
  refine zLV (ρ 0) rfl (zLV (ρ 1) rfl (zLE m0 (zIN w_0 (zLE (show fn209 [ρ 1] (γ 0) = (0, ρ 3, γ 1) from l0.symm) (zLV (γ 1) rfl (zLV (ρ 3) rfl ?_))))))
  rfl
theorem yn227 {S : Nat → zSpc} (hS209 : zIm S 209 sn209) (hS212 : zIm S 212 sn212) : ∀ x g o v gz, zSem uW uT w227_.2.2.2.1 w227_.2.2.1.1.length S q227 (fun i => q227a.getD i []) (zNA a227_) x g o v gz → sn227 x g o v gz := by
  intro a g o v gz h
  exact zSem_all (l0 := q227) (las := q227a) (S := S) (J := (fun _ _ _ => True)) (P := sn227 a g) (fun _ => (show zAll _ [q227_0, q227_1] from (zAll_c (vn227_0 hS209 hS212) (zAll_c (vn227_1 hS209 hS212) zAll_n)))) (fun _ => (show zAllI _ 0 [] from trivial)) h
theorem vn228_0 {S : Nat → zSpc} (hS225 : zIm S 225 sn225) (hS226 : zIm S 226 sn226) (hS227 : zIm S 227 sn227) {a : List Int} {g : rHp} : ∀ (ρ : Nat → Int) (γ : Nat → rHp), zO 6 S a g q228_0 ρ γ → zGl (fun i vs g1 => jn228 a g i vs g1) (sn228 a g) q228_0 ρ γ := by
  intro ρ γ h
  obtain ⟨ha, hg, hr, hf, hm, hc, hl⟩ := h
  have ha : a = [ρ 0, ρ 1, ρ 2, ρ 3, ρ 4, ρ 5] := ha
  subst ha
  subst hg
  have l0 : sn226 [ρ 0, 0, ρ 1, ρ 4, ρ 5] (γ 0) 0 (ρ 6) (γ 1) := hS226 _ _ _ _ _ (zAllA hl 0)
  show jn228 [ρ 0, ρ 1, ρ 2, ρ 3, ρ 4, ρ 5] (γ 0) 0 [ρ 0, ρ 1, ρ 2, ρ 3, ρ 4, ρ 5, 0, ρ 6] (γ 1)
  have hD : dn228 [ρ 0] (γ 0) = .inl (0, [ρ 0, 0, ρ 6], γ 1) := by
    unfold dn228
    refine zLV (ρ 0) rfl (zLE (show fn226 [ρ 0, 0] (γ 0) = (0, ρ 6, γ 1) from l0.symm) (zLV (γ 1) rfl (zLV (ρ 6) rfl ?_)))
    rfl
  exact zGoo_to hD
theorem vn228a0_0 {S : Nat → zSpc} (hS225 : zIm S 225 sn225) (hS226 : zIm S 226 sn226) (hS227 : zIm S 227 sn227) {a : List Int} {g : rHp} : ∀ (ρ : Nat → Int) (γ : Nat → rHp), jn228 a g 0 (zAg (zNA a228_ 0) ρ) (γ 1) → zO 6 S a g q228a0_0 ρ γ → zGl (fun i vs g1 => jn228 a g i vs g1) (sn228 a g) q228a0_0 ρ γ := by
  intro ρ γ hJ h
  obtain ⟨ha, hg, hr, hf, hm, hc, hl⟩ := h
  have ha : a = [ρ 0, ρ 1, ρ 2, ρ 3, ρ 4, ρ 5] := ha
  subst ha
  subst hg
  have hJ : jn228 [ρ 0, ρ 1, ρ 2, ρ 3, ρ 4, ρ 5] (γ 0) 0 [ρ 0, ρ 1, ρ 2, ρ 3, ρ 4, ρ 5, ρ 6, ρ 7] (γ 1) := hJ
  have r7 : ((-1) : Int) ≤ ρ 7 ∧ ρ 7 ≤ (-1) := zRnA hr 7
  have w_0 : ρ 7 < 0 := by omega
  have m1 : γ 0 6 0 11 = ρ 2 := zAllA hm 1
  show sn228 [ρ 0, ρ 1, ρ 2, ρ 3, ρ 4, ρ 5] (γ 0) 0 0 (γ 1)
  have hD : en228 (γ 0) (0, [ρ 0, ρ 6, ρ 7], γ 1) = .inr (0, 0, γ 1) := by
    unfold en228
    refine zIP (show (0 : Nat) = 0 by decide) (zLV (γ 1) rfl (zLV (ρ 0) rfl (zLV (ρ 6) rfl (zLV (ρ 7) rfl (zLE m1 (zIP w_0 ?_))))))
    rfl
  exact zGoo_aend hJ hD
theorem vn228a0_1 {S : Nat → zSpc} (hS225 : zIm S 225 sn225) (hS226 : zIm S 226 sn226) (hS227 : zIm S 227 sn227) {a : List Int} {g : rHp} : ∀ (ρ : Nat → Int) (γ : Nat → rHp), jn228 a g 0 (zAg (zNA a228_ 0) ρ) (γ 1) → zO 6 S a g q228a0_1 ρ γ → zGl (fun i vs g1 => jn228 a g i vs g1) (sn228 a g) q228a0_1 ρ γ := by
  intro ρ γ hJ h
  obtain ⟨ha, hg, hr, hf, hm, hc, hl⟩ := h
  have ha : a = [ρ 0, ρ 1, ρ 2, ρ 3, ρ 4, ρ 5] := ha
  subst ha
  subst hg
  have hJ : jn228 [ρ 0, ρ 1, ρ 2, ρ 3, ρ 4, ρ 5] (γ 0) 0 [ρ 0, ρ 1, ρ 2, ρ 3, ρ 4, ρ 5, ρ 6, ρ 7] (γ 1) := hJ
  have r7 : (0 : Int) ≤ ρ 7 ∧ ρ 7 ≤ 2000 := zRnA hr 7
  have f0 : (0 : Int) ≤ ρ 7 + -ρ 2 := zAllA hf 0
  obtain ⟨w_0, w_1⟩ : (¬ (ρ 7 < 0)) ∧ (ρ 7 ≥ ρ 2) := ⟨by omega, by omega⟩
  have m1 : γ 0 6 0 11 = ρ 2 := zAllA hm 1
  show sn228 [ρ 0, ρ 1, ρ 2, ρ 3, ρ 4, ρ 5] (γ 0) 0 0 (γ 1)
  have hD : en228 (γ 0) (0, [ρ 0, ρ 6, ρ 7], γ 1) = .inr (0, 0, γ 1) := by
    unfold en228
    refine zIP (show (0 : Nat) = 0 by decide) (zLV (γ 1) rfl (zLV (ρ 0) rfl (zLV (ρ 6) rfl (zLV (ρ 7) rfl (zLE m1 (zIN w_0 (zIP w_1 ?_)))))))
    rfl
  exact zGoo_aend hJ hD
theorem vn228a0_2 {S : Nat → zSpc} (hS225 : zIm S 225 sn225) (hS226 : zIm S 226 sn226) (hS227 : zIm S 227 sn227) {a : List Int} {g : rHp} : ∀ (ρ : Nat → Int) (γ : Nat → rHp), jn228 a g 0 (zAg (zNA a228_ 0) ρ) (γ 1) → zO 6 S a g q228a0_2 ρ γ → zGl (fun i vs g1 => jn228 a g i vs g1) (sn228 a g) q228a0_2 ρ γ := by
  intro ρ γ hJ h
  obtain ⟨ha, hg, hr, hf, hm, hc, hl⟩ := h
  have ha : a = [ρ 0, ρ 1, ρ 2, ρ 3, ρ 4, ρ 5] := ha
  subst ha
  subst hg
  have hJ : jn228 [ρ 0, ρ 1, ρ 2, ρ 3, ρ 4, ρ 5] (γ 0) 0 [ρ 0, ρ 1, ρ 2, ρ 3, ρ 4, ρ 5, ρ 6, ρ 7] (γ 1) := hJ
  have r6 : (2000 : Int) ≤ ρ 6 ∧ ρ 6 ≤ 2000 := zRnA hr 6
  have r7 : (0 : Int) ≤ ρ 7 ∧ ρ 7 ≤ 2000 := zRnA hr 7
  have f0 : (0 : Int) ≤ -ρ 7 + ρ 2 + (-1) := zAllA hf 0
  obtain ⟨w_0, w_1, w_2⟩ : (¬ (ρ 7 < 0)) ∧ (¬ (ρ 7 ≥ ρ 2)) ∧ (ρ 6 ≥ 2000) := ⟨by omega, by omega, by omega⟩
  have m1 : γ 0 6 0 11 = ρ 2 := zAllA hm 1
  show sn228 [ρ 0, ρ 1, ρ 2, ρ 3, ρ 4, ρ 5] (γ 0) 0 0 (γ 1)
  have hD : en228 (γ 0) (0, [ρ 0, ρ 6, ρ 7], γ 1) = .inr (0, 0, γ 1) := by
    unfold en228
    refine zIP (show (0 : Nat) = 0 by decide) (zLV (γ 1) rfl (zLV (ρ 0) rfl (zLV (ρ 6) rfl (zLV (ρ 7) rfl (zLE m1 (zIN w_0 (zIN w_1 ?_)))))))
    refine zIP w_2 ?_
    rfl
  exact zGoo_aend hJ hD
theorem vn228a0_3 {S : Nat → zSpc} (hS225 : zIm S 225 sn225) (hS226 : zIm S 226 sn226) (hS227 : zIm S 227 sn227) {a : List Int} {g : rHp} : ∀ (ρ : Nat → Int) (γ : Nat → rHp), jn228 a g 0 (zAg (zNA a228_ 0) ρ) (γ 1) → zO 6 S a g q228a0_3 ρ γ → zGl (fun i vs g1 => jn228 a g i vs g1) (sn228 a g) q228a0_3 ρ γ := by
  intro ρ γ hJ h
  obtain ⟨ha, hg, hr, hf, hm, hc, hl⟩ := h
  have ha : a = [ρ 0, ρ 1, ρ 2, ρ 3, ρ 4, ρ 5] := ha
  subst ha
  subst hg
  have hJ : jn228 [ρ 0, ρ 1, ρ 2, ρ 3, ρ 4, ρ 5] (γ 0) 0 [ρ 0, ρ 1, ρ 2, ρ 3, ρ 4, ρ 5, ρ 6, ρ 7] (γ 1) := hJ
  have r6 : (0 : Int) ≤ ρ 6 ∧ ρ 6 ≤ 1999 := zRnA hr 6
  have r7 : (0 : Int) ≤ ρ 7 ∧ ρ 7 ≤ 2000 := zRnA hr 7
  have f0 : (0 : Int) ≤ -ρ 7 + ρ 2 + (-1) := zAllA hf 0
  obtain ⟨w_0, w_1, w_2⟩ : (¬ (ρ 7 < 0)) ∧ (¬ (ρ 7 ≥ ρ 2)) ∧ (¬ (ρ 6 ≥ 2000)) := ⟨by omega, by omega, by omega⟩
  have m1 : γ 0 6 0 11 = ρ 2 := zAllA hm 1
  have l0 : sn225 [ρ 0, ρ 7, ρ 3, ρ 4] (γ 1) 0 0 (γ 2) := hS225 _ _ _ _ _ (zAllA hl 0)
  have l1 : sn227 [ρ 0, ρ 7, ρ 5] (γ 2) 0 (ρ 8) (γ 3) := hS227 _ _ _ _ _ (zAllA hl 1)
  show jn228 [ρ 0, ρ 1, ρ 2, ρ 3, ρ 4, ρ 5] (γ 0) 0 [ρ 0, ρ 1, ρ 2, ρ 3, ρ 4, ρ 5, ρ 6 + 1, ρ 8] (γ 3)
  have hD : en228 (γ 0) (0, [ρ 0, ρ 6, ρ 7], γ 1) = .inl (0, [ρ 0, ρ 6 + 1, ρ 8], γ 3) := by
    unfold en228
    refine zIP (show (0 : Nat) = 0 by decide) (zLV (γ 1) rfl (zLV (ρ 0) rfl (zLV (ρ 6) rfl (zLV (ρ 7) rfl (zLE m1 (zIN w_0 (zIN w_1 ?_)))))))
    refine zIN w_2 (zLE (show fn225 [ρ 0, ρ 7] (γ 1) = (0, 0, γ 2) from l0.symm) (zLV (γ 2) rfl (zIN zQ0_ (zLE (show fn227 [ρ 0, ρ 7] (γ 2) = (0, ρ 8, γ 3) from l1.symm) (zLV (γ 3) rfl (zLV (ρ 8) rfl ?_))))))
    rfl
  exact zGoo_ato hJ hD
theorem vn228a0_4 {S : Nat → zSpc} (hS225 : zIm S 225 sn225) (hS226 : zIm S 226 sn226) (hS227 : zIm S 227 sn227) {a : List Int} {g : rHp} : ∀ (ρ : Nat → Int) (γ : Nat → rHp), jn228 a g 0 (zAg (zNA a228_ 0) ρ) (γ 1) → zO 6 S a g q228a0_4 ρ γ → zGl (fun i vs g1 => jn228 a g i vs g1) (sn228 a g) q228a0_4 ρ γ := by
  intro ρ γ hJ h
  obtain ⟨ha, hg, hr, hf, hm, hc, hl⟩ := h
  have ha : a = [ρ 0, ρ 1, ρ 2, ρ 3, ρ 4, ρ 5] := ha
  subst ha
  subst hg
  have hJ : jn228 [ρ 0, ρ 1, ρ 2, ρ 3, ρ 4, ρ 5] (γ 0) 0 [ρ 0, ρ 1, ρ 2, ρ 3, ρ 4, ρ 5, ρ 6, ρ 7] (γ 1) := hJ
  have r6 : (0 : Int) ≤ ρ 6 ∧ ρ 6 ≤ 1999 := zRnA hr 6
  have r7 : (0 : Int) ≤ ρ 7 ∧ ρ 7 ≤ 2000 := zRnA hr 7
  have f0 : (0 : Int) ≤ -ρ 7 + ρ 2 + (-1) := zAllA hf 0
  obtain ⟨w_0, w_1, w_2⟩ : (¬ (ρ 7 < 0)) ∧ (¬ (ρ 7 ≥ ρ 2)) ∧ (¬ (ρ 6 ≥ 2000)) := ⟨by omega, by omega, by omega⟩
  have m1 : γ 0 6 0 11 = ρ 2 := zAllA hm 1
  have l0 : sn225 [ρ 0, ρ 7, ρ 3, ρ 4] (γ 1) 0 1 (γ 2) := hS225 _ _ _ _ _ (zAllA hl 0)
  show sn228 [ρ 0, ρ 1, ρ 2, ρ 3, ρ 4, ρ 5] (γ 0) 0 1 (γ 2)
  have hD : en228 (γ 0) (0, [ρ 0, ρ 6, ρ 7], γ 1) = .inr (0, 1, γ 2) := by
    unfold en228
    refine zIP (show (0 : Nat) = 0 by decide) (zLV (γ 1) rfl (zLV (ρ 0) rfl (zLV (ρ 6) rfl (zLV (ρ 7) rfl (zLE m1 (zIN w_0 (zIN w_1 ?_)))))))
    refine zIN w_2 (zLE (show fn225 [ρ 0, ρ 7] (γ 1) = (0, 1, γ 2) from l0.symm) (zLV (γ 2) rfl (zIP zQ1_ ?_)))
    rfl
  exact zGoo_aend hJ hD
theorem yn228 {S : Nat → zSpc} (hS225 : zIm S 225 sn225) (hS226 : zIm S 226 sn226) (hS227 : zIm S 227 sn227) : ∀ x g o v gz, zSem uW uT w228_.2.2.2.1 w228_.2.2.1.1.length S q228 (fun i => q228a.getD i []) (zNA a228_) x g o v gz → sn228 x g o v gz := by
  intro a g o v gz h
  exact zSem_all (l0 := q228) (las := q228a) (S := S) (J := (fun i vs g1 => jn228 a g i vs g1)) (P := sn228 a g) (fun _ => (show zAll _ [q228_0] from (zAll_c (vn228_0 hS225 hS226 hS227) zAll_n))) (fun _ => (show zAllI _ 0 [q228a0] from ⟨(show zAll _ [q228a0_0, q228a0_1, q228a0_2, q228a0_3, q228a0_4] from (zAll_c (vn228a0_0 hS225 hS226 hS227) (zAll_c (vn228a0_1 hS225 hS226 hS227) (zAll_c (vn228a0_2 hS225 hS226 hS227) (zAll_c (vn228a0_3 hS225 hS226 hS227) (zAll_c (vn228a0_4 hS225 hS226 hS227) zAll_n)))))), trivial⟩)) h
theorem vn229_0 {S : Nat → zSpc} (hS224 : zIm S 224 sn224) {a : List Int} {g : rHp} : ∀ (ρ : Nat → Int) (γ : Nat → rHp), zO 2 S a g q229_0 ρ γ → zGl (fun _ _ _ => True) (sn229 a g) q229_0 ρ γ := by
  intro ρ γ h
  obtain ⟨ha, hg, hr, hf, hm, hc, hl⟩ := h
  have ha : a = [ρ 0, ρ 1] := ha
  subst ha
  subst hg
  have r1 : (5 : Int) ≤ ρ 1 ∧ ρ 1 ≤ 5 := zRnA hr 1
  have f0 : (0 : Int) ≤ ρ 3 + -ρ 2 := zAllA hf 0
  have f1 : (0 : Int) ≤ -ρ 3 + ρ 2 := zAllA hf 1
  obtain ⟨w_0, w_1⟩ : (ρ 1 ≠ 4) ∧ (ρ 2 = ρ 3) := ⟨by omega, by omega⟩
  have m0 : γ 0 10 (ρ 0) 4 = ρ 1 := zAllA hm 0
  have l0 : sn224 [ρ 0, 0] (γ 0) 0 (ρ 2) (γ 1) := hS224 _ _ _ _ _ (zAllA hl 0)
  have l1 : sn224 [ρ 0, 1] (γ 1) 0 (ρ 3) (γ 2) := hS224 _ _ _ _ _ (zAllA hl 1)
  show sn229 [ρ 0, ρ 1] (γ 0) 0 0 (γ 2)
  refine Eq.symm ?_
  show fn229 [ρ 0] (γ 0) = _
  unfold fn229
  refine zLV (ρ 0) rfl (zLE m0 (zLE (show fn224 [ρ 0, 0] (γ 0) = (0, ρ 2, γ 1) from l0.symm) (zLV (γ 1) rfl (zLV (ρ 2) rfl (zLE (show fn224 [ρ 0, 1] (γ 1) = (0, ρ 3, γ 2) from l1.symm) (zLV (γ 2) rfl (zLV (ρ 3) rfl ?_)))))))
  refine zIP w_0 (zIP w_1 ?_)
  rfl
theorem vn229_1 {S : Nat → zSpc} (hS224 : zIm S 224 sn224) {a : List Int} {g : rHp} : ∀ (ρ : Nat → Int) (γ : Nat → rHp), zO 2 S a g q229_1 ρ γ → zGl (fun _ _ _ => True) (sn229 a g) q229_1 ρ γ := by
  intro ρ γ h
  obtain ⟨ha, hg, hr, hf, hm, hc, hl⟩ := h
  have ha : a = [ρ 0, ρ 1] := ha
  subst ha
  subst hg
  have r1 : (5 : Int) ≤ ρ 1 ∧ ρ 1 ≤ 5 := zRnA hr 1
  have r2 : ((-9223372036854775808) : Int) ≤ ρ 2 ∧ ρ 2 ≤ 9223372036854775807 := zRnA hr 2
  have r3 : ((-9223372036854775808) : Int) ≤ ρ 3 ∧ ρ 3 ≤ 9223372036854775807 := zRnA hr 3
  have w_0 : ρ 1 ≠ 4 := by omega
  have m0 : γ 0 10 (ρ 0) 4 = ρ 1 := zAllA hm 0
  have l0 : sn224 [ρ 0, 0] (γ 0) 0 (ρ 2) (γ 1) := hS224 _ _ _ _ _ (zAllA hl 0)
  have l1 : sn224 [ρ 0, 1] (γ 1) 0 (ρ 3) (γ 2) := hS224 _ _ _ _ _ (zAllA hl 1)
  have l2 : ρ 2 ≠ ρ 3 := zAllA hl 2
  have wl_0 : ¬ (ρ 2 = ρ 3) := by omega
  show sn229 [ρ 0, ρ 1] (γ 0) 0 1 (γ 2)
  refine Eq.symm ?_
  show fn229 [ρ 0] (γ 0) = _
  unfold fn229
  refine zLV (ρ 0) rfl (zLE m0 (zLE (show fn224 [ρ 0, 0] (γ 0) = (0, ρ 2, γ 1) from l0.symm) (zLV (γ 1) rfl (zLV (ρ 2) rfl (zLE (show fn224 [ρ 0, 1] (γ 1) = (0, ρ 3, γ 2) from l1.symm) (zLV (γ 2) rfl (zLV (ρ 3) rfl ?_)))))))
  refine zIP w_0 (zIN wl_0 ?_)
  rfl
theorem vn229_2 {S : Nat → zSpc} (hS224 : zIm S 224 sn224) {a : List Int} {g : rHp} : ∀ (ρ : Nat → Int) (γ : Nat → rHp), zO 2 S a g q229_2 ρ γ → zGl (fun _ _ _ => True) (sn229 a g) q229_2 ρ γ := by
  intro ρ γ h
  obtain ⟨ha, hg, hr, hf, hm, hc, hl⟩ := h
  have ha : a = [ρ 0, ρ 1] := ha
  subst ha
  subst hg
  have r1 : (4 : Int) ≤ ρ 1 ∧ ρ 1 ≤ 4 := zRnA hr 1
  have r2 : ((-9223372036854775808) : Int) ≤ ρ 2 ∧ ρ 2 ≤ 9223372036854775807 := zRnA hr 2
  have r3 : ((-9223372036854775808) : Int) ≤ ρ 3 ∧ ρ 3 ≤ 9223372036854775807 := zRnA hr 3
  have w_0 : ¬ (ρ 1 ≠ 4) := by omega
  have m0 : γ 0 10 (ρ 0) 4 = ρ 1 := zAllA hm 0
  have l0 : sn224 [ρ 0, 0] (γ 0) 0 (ρ 2) (γ 1) := hS224 _ _ _ _ _ (zAllA hl 0)
  have l1 : sn224 [ρ 0, 1] (γ 1) 0 (ρ 3) (γ 2) := hS224 _ _ _ _ _ (zAllA hl 1)
  have l2 : ρ 2 ≠ ρ 3 := zAllA hl 2
  have wl_0 : ρ 2 ≠ ρ 3 := by omega
  show sn229 [ρ 0, ρ 1] (γ 0) 0 0 (γ 2)
  refine Eq.symm ?_
  show fn229 [ρ 0] (γ 0) = _
  unfold fn229
  refine zLV (ρ 0) rfl (zLE m0 (zLE (show fn224 [ρ 0, 0] (γ 0) = (0, ρ 2, γ 1) from l0.symm) (zLV (γ 1) rfl (zLV (ρ 2) rfl (zLE (show fn224 [ρ 0, 1] (γ 1) = (0, ρ 3, γ 2) from l1.symm) (zLV (γ 2) rfl (zLV (ρ 3) rfl ?_)))))))
  refine zIN w_0 (zIP wl_0 ?_)
  rfl
theorem vn229_3 {S : Nat → zSpc} (hS224 : zIm S 224 sn224) {a : List Int} {g : rHp} : ∀ (ρ : Nat → Int) (γ : Nat → rHp), zO 2 S a g q229_3 ρ γ → zGl (fun _ _ _ => True) (sn229 a g) q229_3 ρ γ := by
  intro ρ γ h
  obtain ⟨ha, hg, hr, hf, hm, hc, hl⟩ := h
  have ha : a = [ρ 0, ρ 1] := ha
  subst ha
  subst hg
  have r1 : (4 : Int) ≤ ρ 1 ∧ ρ 1 ≤ 4 := zRnA hr 1
  have f0 : (0 : Int) ≤ ρ 3 + -ρ 2 := zAllA hf 0
  have f1 : (0 : Int) ≤ -ρ 3 + ρ 2 := zAllA hf 1
  obtain ⟨w_0, w_1⟩ : (¬ (ρ 1 ≠ 4)) ∧ (¬ (ρ 2 ≠ ρ 3)) := ⟨by omega, by omega⟩
  have m0 : γ 0 10 (ρ 0) 4 = ρ 1 := zAllA hm 0
  have l0 : sn224 [ρ 0, 0] (γ 0) 0 (ρ 2) (γ 1) := hS224 _ _ _ _ _ (zAllA hl 0)
  have l1 : sn224 [ρ 0, 1] (γ 1) 0 (ρ 3) (γ 2) := hS224 _ _ _ _ _ (zAllA hl 1)
  show sn229 [ρ 0, ρ 1] (γ 0) 0 1 (γ 2)
  refine Eq.symm ?_
  show fn229 [ρ 0] (γ 0) = _
  unfold fn229
  refine zLV (ρ 0) rfl (zLE m0 (zLE (show fn224 [ρ 0, 0] (γ 0) = (0, ρ 2, γ 1) from l0.symm) (zLV (γ 1) rfl (zLV (ρ 2) rfl (zLE (show fn224 [ρ 0, 1] (γ 1) = (0, ρ 3, γ 2) from l1.symm) (zLV (γ 2) rfl (zLV (ρ 3) rfl ?_)))))))
  refine zIN w_0 (zIN w_1 ?_)
  rfl
theorem yn229 {S : Nat → zSpc} (hS224 : zIm S 224 sn224) : ∀ x g o v gz, zSem uW uT w229_.2.2.2.1 w229_.2.2.1.1.length S q229 (fun i => q229a.getD i []) (zNA a229_) x g o v gz → sn229 x g o v gz := by
  intro a g o v gz h
  exact zSem_all (l0 := q229) (las := q229a) (S := S) (J := (fun _ _ _ => True)) (P := sn229 a g) (fun _ => (show zAll _ [q229_0, q229_1, q229_2, q229_3] from (zAll_c (vn229_0 hS224) (zAll_c (vn229_1 hS224) (zAll_c (vn229_2 hS224) (zAll_c (vn229_3 hS224) zAll_n)))))) (fun _ => (show zAllI _ 0 [] from trivial)) h
theorem vn230_0 {S : Nat → zSpc} (hS172 : zIm S 172 sn172) (hS224 : zIm S 224 sn224) {a : List Int} {g : rHp} : ∀ (ρ : Nat → Int) (γ : Nat → rHp), zO 2 S a g q230_0 ρ γ → zGl (fun _ _ _ => True) (sn230 a g) q230_0 ρ γ := by
  intro ρ γ h
  obtain ⟨ha, hg, hr, hf, hm, hc, hl⟩ := h
  have ha : a = [ρ 0, ρ 1] := ha
  subst ha
  subst hg
  have l0 : sn224 [ρ 0, 0] (γ 0) 0 (ρ 2) (γ 1) := hS224 _ _ _ _ _ (zAllA hl 0)
  have l1 : sn224 [ρ 0, 1] (γ 1) 0 (ρ 3) (γ 2) := hS224 _ _ _ _ _ (zAllA hl 1)
  have l2 : sn172 [ρ 2] (γ 2) 0 0 (γ 3) := hS172 _ _ _ _ _ (zAllA hl 2)
  show sn230 [ρ 0, ρ 1] (γ 0) 0 0 (γ 3)
  refine Eq.symm ?_
  show fn230 [ρ 0] (γ 0) = _
  unfold fn230
  refine zLV (ρ 0) rfl (zLE (show fn224 [ρ 0, 0] (γ 0) = (0, ρ 2, γ 1) from l0.symm) (zLV (γ 1) rfl (zLV (ρ 2) rfl (zLE (show fn224 [ρ 0, 1] (γ 1) = (0, ρ 3, γ 2) from l1.symm) (zLV (γ 2) rfl (zLV (ρ 3) rfl (zLE (show fn172 [ρ 2] (γ 2) = (0, 0, γ 3) from l2.symm) ?_)))))))
  refine zLV (γ 3) rfl (zIN zQ0_ ?_)
  rfl
theorem vn230_1 {S : Nat → zSpc} (hS172 : zIm S 172 sn172) (hS224 : zIm S 224 sn224) {a : List Int} {g : rHp} : ∀ (ρ : Nat → Int) (γ : Nat → rHp), zO 2 S a g q230_1 ρ γ → zGl (fun _ _ _ => True) (sn230 a g) q230_1 ρ γ := by
  intro ρ γ h
  obtain ⟨ha, hg, hr, hf, hm, hc, hl⟩ := h
  have ha : a = [ρ 0, ρ 1] := ha
  subst ha
  subst hg
  have l0 : sn224 [ρ 0, 0] (γ 0) 0 (ρ 2) (γ 1) := hS224 _ _ _ _ _ (zAllA hl 0)
  have l1 : sn224 [ρ 0, 1] (γ 1) 0 (ρ 3) (γ 2) := hS224 _ _ _ _ _ (zAllA hl 1)
  have l2 : sn172 [ρ 2] (γ 2) 0 1 (γ 3) := hS172 _ _ _ _ _ (zAllA hl 2)
  have l3 : sn172 [ρ 3] (γ 3) 0 0 (γ 4) := hS172 _ _ _ _ _ (zAllA hl 3)
  show sn230 [ρ 0, ρ 1] (γ 0) 0 0 (γ 4)
  refine Eq.symm ?_
  show fn230 [ρ 0] (γ 0) = _
  unfold fn230
  refine zLV (ρ 0) rfl (zLE (show fn224 [ρ 0, 0] (γ 0) = (0, ρ 2, γ 1) from l0.symm) (zLV (γ 1) rfl (zLV (ρ 2) rfl (zLE (show fn224 [ρ 0, 1] (γ 1) = (0, ρ 3, γ 2) from l1.symm) (zLV (γ 2) rfl (zLV (ρ 3) rfl (zLE (show fn172 [ρ 2] (γ 2) = (0, 1, γ 3) from l2.symm) ?_)))))))
  refine zLV (γ 3) rfl (zIP zQ1_ (zLE (show fn172 [ρ 3] (γ 3) = (0, 0, γ 4) from l3.symm) (zLV (γ 4) rfl (zIN zQ0_ ?_))))
  rfl
theorem vn230_2 {S : Nat → zSpc} (hS172 : zIm S 172 sn172) (hS224 : zIm S 224 sn224) {a : List Int} {g : rHp} : ∀ (ρ : Nat → Int) (γ : Nat → rHp), zO 2 S a g q230_2 ρ γ → zGl (fun _ _ _ => True) (sn230 a g) q230_2 ρ γ := by
  intro ρ γ h
  obtain ⟨ha, hg, hr, hf, hm, hc, hl⟩ := h
  have ha : a = [ρ 0, ρ 1] := ha
  subst ha
  subst hg
  have f0 : (0 : Int) ≤ -ρ 3 + ρ 2 := zAllA hf 0
  have w_0 : ρ 2 ≥ ρ 3 := by omega
  have l0 : sn224 [ρ 0, 0] (γ 0) 0 (ρ 2) (γ 1) := hS224 _ _ _ _ _ (zAllA hl 0)
  have l1 : sn224 [ρ 0, 1] (γ 1) 0 (ρ 3) (γ 2) := hS224 _ _ _ _ _ (zAllA hl 1)
  have l2 : sn172 [ρ 2] (γ 2) 0 1 (γ 3) := hS172 _ _ _ _ _ (zAllA hl 2)
  have l3 : sn172 [ρ 3] (γ 3) 0 1 (γ 4) := hS172 _ _ _ _ _ (zAllA hl 3)
  show sn230 [ρ 0, ρ 1] (γ 0) 0 0 (γ 4)
  refine Eq.symm ?_
  show fn230 [ρ 0] (γ 0) = _
  unfold fn230
  refine zLV (ρ 0) rfl (zLE (show fn224 [ρ 0, 0] (γ 0) = (0, ρ 2, γ 1) from l0.symm) (zLV (γ 1) rfl (zLV (ρ 2) rfl (zLE (show fn224 [ρ 0, 1] (γ 1) = (0, ρ 3, γ 2) from l1.symm) (zLV (γ 2) rfl (zLV (ρ 3) rfl (zLE (show fn172 [ρ 2] (γ 2) = (0, 1, γ 3) from l2.symm) ?_)))))))
  refine zLV (γ 3) rfl (zIP zQ1_ (zLE (show fn172 [ρ 3] (γ 3) = (0, 1, γ 4) from l3.symm) (zLV (γ 4) rfl (zIP zQ1_ (zIP w_0 ?_)))))
  rfl
theorem vn230_3 {S : Nat → zSpc} (hS172 : zIm S 172 sn172) (hS224 : zIm S 224 sn224) {a : List Int} {g : rHp} : ∀ (ρ : Nat → Int) (γ : Nat → rHp), zO 2 S a g q230_3 ρ γ → zGl (fun _ _ _ => True) (sn230 a g) q230_3 ρ γ := by
  intro ρ γ h
  obtain ⟨ha, hg, hr, hf, hm, hc, hl⟩ := h
  have ha : a = [ρ 0, ρ 1] := ha
  subst ha
  subst hg
  have f0 : (0 : Int) ≤ ρ 3 + -ρ 2 + (-1) := zAllA hf 0
  have w_0 : ¬ (ρ 2 ≥ ρ 3) := by omega
  have l0 : sn224 [ρ 0, 0] (γ 0) 0 (ρ 2) (γ 1) := hS224 _ _ _ _ _ (zAllA hl 0)
  have l1 : sn224 [ρ 0, 1] (γ 1) 0 (ρ 3) (γ 2) := hS224 _ _ _ _ _ (zAllA hl 1)
  have l2 : sn172 [ρ 2] (γ 2) 0 1 (γ 3) := hS172 _ _ _ _ _ (zAllA hl 2)
  have l3 : sn172 [ρ 3] (γ 3) 0 1 (γ 4) := hS172 _ _ _ _ _ (zAllA hl 3)
  show sn230 [ρ 0, ρ 1] (γ 0) 0 1 (γ 4)
  refine Eq.symm ?_
  show fn230 [ρ 0] (γ 0) = _
  unfold fn230
  refine zLV (ρ 0) rfl (zLE (show fn224 [ρ 0, 0] (γ 0) = (0, ρ 2, γ 1) from l0.symm) (zLV (γ 1) rfl (zLV (ρ 2) rfl (zLE (show fn224 [ρ 0, 1] (γ 1) = (0, ρ 3, γ 2) from l1.symm) (zLV (γ 2) rfl (zLV (ρ 3) rfl (zLE (show fn172 [ρ 2] (γ 2) = (0, 1, γ 3) from l2.symm) ?_)))))))
  refine zLV (γ 3) rfl (zIP zQ1_ (zLE (show fn172 [ρ 3] (γ 3) = (0, 1, γ 4) from l3.symm) (zLV (γ 4) rfl (zIP zQ1_ (zIN w_0 ?_)))))
  rfl
theorem yn230 {S : Nat → zSpc} (hS172 : zIm S 172 sn172) (hS224 : zIm S 224 sn224) : ∀ x g o v gz, zSem uW uT w230_.2.2.2.1 w230_.2.2.1.1.length S q230 (fun i => q230a.getD i []) (zNA a230_) x g o v gz → sn230 x g o v gz := by
  intro a g o v gz h
  exact zSem_all (l0 := q230) (las := q230a) (S := S) (J := (fun _ _ _ => True)) (P := sn230 a g) (fun _ => (show zAll _ [q230_0, q230_1, q230_2, q230_3] from (zAll_c (vn230_0 hS172 hS224) (zAll_c (vn230_1 hS172 hS224) (zAll_c (vn230_2 hS172 hS224) (zAll_c (vn230_3 hS172 hS224) zAll_n)))))) (fun _ => (show zAllI _ 0 [] from trivial)) h
theorem vn231_0 {S : Nat → zSpc} (hS172 : zIm S 172 sn172) (hS224 : zIm S 224 sn224) {a : List Int} {g : rHp} : ∀ (ρ : Nat → Int) (γ : Nat → rHp), zO 3 S a g q231_0 ρ γ → zGl (fun _ _ _ => True) (sn231 a g) q231_0 ρ γ := by
  intro ρ γ h
  obtain ⟨ha, hg, hr, hf, hm, hc, hl⟩ := h
  have ha : a = [ρ 0, ρ 1, ρ 2] := ha
  subst ha
  subst hg
  have m0 : γ 0 10 (ρ 0) 4 = ρ 1 := zAllA hm 0
  have m1 : γ 0 10 (ρ 0) 11 = ρ 2 := zAllA hm 1
  have l0 : sn224 [ρ 0, 0] (γ 0) 0 (ρ 3) (γ 1) := hS224 _ _ _ _ _ (zAllA hl 0)
  have l1 : sn224 [ρ 0, 1] (γ 1) 0 (ρ 4) (γ 2) := hS224 _ _ _ _ _ (zAllA hl 1)
  have l2 : sn172 [ρ 3] (γ 2) 0 0 (γ 3) := hS172 _ _ _ _ _ (zAllA hl 2)
  show sn231 [ρ 0, ρ 1, ρ 2] (γ 0) 0 0 (γ 3)
  refine Eq.symm ?_
  show fn231 [ρ 0] (γ 0) = _
  unfold fn231
  refine zLV (ρ 0) rfl (zLE m0 (zLE m1 (zLE (show fn224 [ρ 0, 0] (γ 0) = (0, ρ 3, γ 1) from l0.symm) (zLV (γ 1) rfl (zLV (ρ 3) rfl (zLE (show fn224 [ρ 0, 1] (γ 1) = (0, ρ 4, γ 2) from l1.symm) (zLV (γ 2) rfl ?_)))))))
  refine zLV (ρ 4) rfl (zLE (show fn172 [ρ 3] (γ 2) = (0, 0, γ 3) from l2.symm) (zLV (γ 3) rfl (zIN zQ0_ ?_)))
  rfl
theorem vn231_1 {S : Nat → zSpc} (hS172 : zIm S 172 sn172) (hS224 : zIm S 224 sn224) {a : List Int} {g : rHp} : ∀ (ρ : Nat → Int) (γ : Nat → rHp), zO 3 S a g q231_1 ρ γ → zGl (fun _ _ _ => True) (sn231 a g) q231_1 ρ γ := by
  intro ρ γ h
  obtain ⟨ha, hg, hr, hf, hm, hc, hl⟩ := h
  have ha : a = [ρ 0, ρ 1, ρ 2] := ha
  subst ha
  subst hg
  have m0 : γ 0 10 (ρ 0) 4 = ρ 1 := zAllA hm 0
  have m1 : γ 0 10 (ρ 0) 11 = ρ 2 := zAllA hm 1
  have l0 : sn224 [ρ 0, 0] (γ 0) 0 (ρ 3) (γ 1) := hS224 _ _ _ _ _ (zAllA hl 0)
  have l1 : sn224 [ρ 0, 1] (γ 1) 0 (ρ 4) (γ 2) := hS224 _ _ _ _ _ (zAllA hl 1)
  have l2 : sn172 [ρ 3] (γ 2) 0 1 (γ 3) := hS172 _ _ _ _ _ (zAllA hl 2)
  have l3 : sn172 [ρ 4] (γ 3) 0 0 (γ 4) := hS172 _ _ _ _ _ (zAllA hl 3)
  show sn231 [ρ 0, ρ 1, ρ 2] (γ 0) 0 0 (γ 4)
  refine Eq.symm ?_
  show fn231 [ρ 0] (γ 0) = _
  unfold fn231
  refine zLV (ρ 0) rfl (zLE m0 (zLE m1 (zLE (show fn224 [ρ 0, 0] (γ 0) = (0, ρ 3, γ 1) from l0.symm) (zLV (γ 1) rfl (zLV (ρ 3) rfl (zLE (show fn224 [ρ 0, 1] (γ 1) = (0, ρ 4, γ 2) from l1.symm) (zLV (γ 2) rfl ?_)))))))
  refine zLV (ρ 4) rfl (zLE (show fn172 [ρ 3] (γ 2) = (0, 1, γ 3) from l2.symm) (zLV (γ 3) rfl (zIP zQ1_ (zLE (show fn172 [ρ 4] (γ 3) = (0, 0, γ 4) from l3.symm) (zLV (γ 4) rfl (zIN zQ0_ ?_))))))
  rfl
theorem vn231_2 {S : Nat → zSpc} (hS172 : zIm S 172 sn172) (hS224 : zIm S 224 sn224) {a : List Int} {g : rHp} : ∀ (ρ : Nat → Int) (γ : Nat → rHp), zO 3 S a g q231_2 ρ γ → zGl (fun _ _ _ => True) (sn231 a g) q231_2 ρ γ := by
  intro ρ γ h
  obtain ⟨ha, hg, hr, hf, hm, hc, hl⟩ := h
  have ha : a = [ρ 0, ρ 1, ρ 2] := ha
  subst ha
  subst hg
  have r1 : (8 : Int) ≤ ρ 1 ∧ ρ 1 ≤ 8 := zRnA hr 1
  have r5 : ((-9223372036854775808) : Int) ≤ ρ 5 ∧ ρ 5 ≤ (-100000001) := zRnA hr 5
  obtain ⟨w_0, w_1, w_2⟩ : (ρ 1 ≠ 6) ∧ (ρ 1 ≠ 7) ∧ (ρ 5 < (-100000000)) := ⟨by omega, by omega, by omega⟩
  have m0 : γ 0 10 (ρ 0) 4 = ρ 1 := zAllA hm 0
  have m1 : γ 0 10 (ρ 0) 11 = ρ 2 := zAllA hm 1
  have c5 : γ 5 = rUp (γ 4) 37 0 (ρ 2) (ρ 5) := And.right (zChA hc 0)
  have l0 : sn224 [ρ 0, 0] (γ 0) 0 (ρ 3) (γ 1) := hS224 _ _ _ _ _ (zAllA hl 0)
  have l1 : sn224 [ρ 0, 1] (γ 1) 0 (ρ 4) (γ 2) := hS224 _ _ _ _ _ (zAllA hl 1)
  have l2 : sn172 [ρ 3] (γ 2) 0 1 (γ 3) := hS172 _ _ _ _ _ (zAllA hl 2)
  have l3 : sn172 [ρ 4] (γ 3) 0 1 (γ 4) := hS172 _ _ _ _ _ (zAllA hl 3)
  have l4 : zOpP (.lmul) (γ 0) (γ 1) [ρ 3, ρ 4] (ρ 5) := zAllA hl 4
  show sn231 [ρ 0, ρ 1, ρ 2] (γ 0) 0 0 (γ 5)
  refine Eq.symm ?_
  show fn231 [ρ 0] (γ 0) = _
  unfold fn231
  refine zLV (ρ 0) rfl (zLE m0 (zLE m1 (zLE (show fn224 [ρ 0, 0] (γ 0) = (0, ρ 3, γ 1) from l0.symm) (zLV (γ 1) rfl (zLV (ρ 3) rfl (zLE (show fn224 [ρ 0, 1] (γ 1) = (0, ρ 4, γ 2) from l1.symm) (zLV (γ 2) rfl ?_)))))))
  refine zLV (ρ 4) rfl (zLE (show fn172 [ρ 3] (γ 2) = (0, 1, γ 3) from l2.symm) (zLV (γ 3) rfl (zIP zQ1_ (zLE (show fn172 [ρ 4] (γ 3) = (0, 1, γ 4) from l3.symm) (zLV (γ 4) rfl (zIP zQ1_ (zIP w_0 ?_)))))))
  refine zIP w_1 (zLE (zF2_ok l4) (zLE c5.symm (zIP w_2 ?_)))
  rfl
theorem vn231_3 {S : Nat → zSpc} (hS172 : zIm S 172 sn172) (hS224 : zIm S 224 sn224) {a : List Int} {g : rHp} : ∀ (ρ : Nat → Int) (γ : Nat → rHp), zO 3 S a g q231_3 ρ γ → zGl (fun _ _ _ => True) (sn231 a g) q231_3 ρ γ := by
  intro ρ γ h
  obtain ⟨ha, hg, hr, hf, hm, hc, hl⟩ := h
  have ha : a = [ρ 0, ρ 1, ρ 2] := ha
  subst ha
  subst hg
  have r1 : (8 : Int) ≤ ρ 1 ∧ ρ 1 ≤ 8 := zRnA hr 1
  have r5 : (100000001 : Int) ≤ ρ 5 ∧ ρ 5 ≤ 9223372036854775807 := zRnA hr 5
  obtain ⟨w_0, w_1, w_2, w_3⟩ : (ρ 1 ≠ 6) ∧ (ρ 1 ≠ 7) ∧ (¬ (ρ 5 < (-100000000))) ∧ (ρ 5 > 100000000) := ⟨by omega, by omega, by omega, by omega⟩
  have m0 : γ 0 10 (ρ 0) 4 = ρ 1 := zAllA hm 0
  have m1 : γ 0 10 (ρ 0) 11 = ρ 2 := zAllA hm 1
  have c5 : γ 5 = rUp (γ 4) 37 0 (ρ 2) (ρ 5) := And.right (zChA hc 0)
  have l0 : sn224 [ρ 0, 0] (γ 0) 0 (ρ 3) (γ 1) := hS224 _ _ _ _ _ (zAllA hl 0)
  have l1 : sn224 [ρ 0, 1] (γ 1) 0 (ρ 4) (γ 2) := hS224 _ _ _ _ _ (zAllA hl 1)
  have l2 : sn172 [ρ 3] (γ 2) 0 1 (γ 3) := hS172 _ _ _ _ _ (zAllA hl 2)
  have l3 : sn172 [ρ 4] (γ 3) 0 1 (γ 4) := hS172 _ _ _ _ _ (zAllA hl 3)
  have l4 : zOpP (.lmul) (γ 0) (γ 1) [ρ 3, ρ 4] (ρ 5) := zAllA hl 4
  show sn231 [ρ 0, ρ 1, ρ 2] (γ 0) 0 0 (γ 5)
  refine Eq.symm ?_
  show fn231 [ρ 0] (γ 0) = _
  unfold fn231
  refine zLV (ρ 0) rfl (zLE m0 (zLE m1 (zLE (show fn224 [ρ 0, 0] (γ 0) = (0, ρ 3, γ 1) from l0.symm) (zLV (γ 1) rfl (zLV (ρ 3) rfl (zLE (show fn224 [ρ 0, 1] (γ 1) = (0, ρ 4, γ 2) from l1.symm) (zLV (γ 2) rfl ?_)))))))
  refine zLV (ρ 4) rfl (zLE (show fn172 [ρ 3] (γ 2) = (0, 1, γ 3) from l2.symm) (zLV (γ 3) rfl (zIP zQ1_ (zLE (show fn172 [ρ 4] (γ 3) = (0, 1, γ 4) from l3.symm) (zLV (γ 4) rfl (zIP zQ1_ (zIP w_0 ?_)))))))
  refine zIP w_1 (zLE (zF2_ok l4) (zLE c5.symm (zIN w_2 (zIP w_3 ?_))))
  rfl
theorem vn231_4 {S : Nat → zSpc} (hS172 : zIm S 172 sn172) (hS224 : zIm S 224 sn224) {a : List Int} {g : rHp} : ∀ (ρ : Nat → Int) (γ : Nat → rHp), zO 3 S a g q231_4 ρ γ → zGl (fun _ _ _ => True) (sn231 a g) q231_4 ρ γ := by
  intro ρ γ h
  obtain ⟨ha, hg, hr, hf, hm, hc, hl⟩ := h
  have ha : a = [ρ 0, ρ 1, ρ 2] := ha
  subst ha
  subst hg
  have r1 : (8 : Int) ≤ ρ 1 ∧ ρ 1 ≤ 8 := zRnA hr 1
  have r5 : ((-100000000) : Int) ≤ ρ 5 ∧ ρ 5 ≤ 100000000 := zRnA hr 5
  obtain ⟨w_0, w_1, w_2, w_3⟩ : (ρ 1 ≠ 6) ∧ (ρ 1 ≠ 7) ∧ (¬ (ρ 5 < (-100000000))) ∧ (¬ (ρ 5 > 100000000)) := ⟨by omega, by omega, by omega, by omega⟩
  have m0 : γ 0 10 (ρ 0) 4 = ρ 1 := zAllA hm 0
  have m1 : γ 0 10 (ρ 0) 11 = ρ 2 := zAllA hm 1
  have c5 : γ 5 = rUp (γ 4) 37 0 (ρ 2) (ρ 5) := And.right (zChA hc 0)
  have l0 : sn224 [ρ 0, 0] (γ 0) 0 (ρ 3) (γ 1) := hS224 _ _ _ _ _ (zAllA hl 0)
  have l1 : sn224 [ρ 0, 1] (γ 1) 0 (ρ 4) (γ 2) := hS224 _ _ _ _ _ (zAllA hl 1)
  have l2 : sn172 [ρ 3] (γ 2) 0 1 (γ 3) := hS172 _ _ _ _ _ (zAllA hl 2)
  have l3 : sn172 [ρ 4] (γ 3) 0 1 (γ 4) := hS172 _ _ _ _ _ (zAllA hl 3)
  have l4 : zOpP (.lmul) (γ 0) (γ 1) [ρ 3, ρ 4] (ρ 5) := zAllA hl 4
  show sn231 [ρ 0, ρ 1, ρ 2] (γ 0) 0 1 (γ 5)
  refine Eq.symm ?_
  show fn231 [ρ 0] (γ 0) = _
  unfold fn231
  refine zLV (ρ 0) rfl (zLE m0 (zLE m1 (zLE (show fn224 [ρ 0, 0] (γ 0) = (0, ρ 3, γ 1) from l0.symm) (zLV (γ 1) rfl (zLV (ρ 3) rfl (zLE (show fn224 [ρ 0, 1] (γ 1) = (0, ρ 4, γ 2) from l1.symm) (zLV (γ 2) rfl ?_)))))))
  refine zLV (ρ 4) rfl (zLE (show fn172 [ρ 3] (γ 2) = (0, 1, γ 3) from l2.symm) (zLV (γ 3) rfl (zIP zQ1_ (zLE (show fn172 [ρ 4] (γ 3) = (0, 1, γ 4) from l3.symm) (zLV (γ 4) rfl (zIP zQ1_ (zIP w_0 ?_)))))))
  refine zIP w_1 (zLE (zF2_ok l4) (zLE c5.symm (zIN w_2 (zIN w_3 ?_))))
  rfl
theorem vn231_5 {S : Nat → zSpc} (hS172 : zIm S 172 sn172) (hS224 : zIm S 224 sn224) {a : List Int} {g : rHp} : ∀ (ρ : Nat → Int) (γ : Nat → rHp), zO 3 S a g q231_5 ρ γ → zGl (fun _ _ _ => True) (sn231 a g) q231_5 ρ γ := by
  intro ρ γ h
  obtain ⟨ha, hg, hr, hf, hm, hc, hl⟩ := h
  have ha : a = [ρ 0, ρ 1, ρ 2] := ha
  subst ha
  subst hg
  have r1 : (7 : Int) ≤ ρ 1 ∧ ρ 1 ≤ 7 := zRnA hr 1
  have r5 : ((-9223372036854775808) : Int) ≤ ρ 5 ∧ ρ 5 ≤ (-100000001) := zRnA hr 5
  obtain ⟨w_0, w_1, w_2⟩ : (ρ 1 ≠ 6) ∧ (¬ (ρ 1 ≠ 7)) ∧ (ρ 5 < (-100000000)) := ⟨by omega, by omega, by omega⟩
  have m0 : γ 0 10 (ρ 0) 4 = ρ 1 := zAllA hm 0
  have m1 : γ 0 10 (ρ 0) 11 = ρ 2 := zAllA hm 1
  have c5 : γ 5 = rUp (γ 4) 37 0 (ρ 2) (ρ 5) := And.right (zChA hc 0)
  have l0 : sn224 [ρ 0, 0] (γ 0) 0 (ρ 3) (γ 1) := hS224 _ _ _ _ _ (zAllA hl 0)
  have l1 : sn224 [ρ 0, 1] (γ 1) 0 (ρ 4) (γ 2) := hS224 _ _ _ _ _ (zAllA hl 1)
  have l2 : sn172 [ρ 3] (γ 2) 0 1 (γ 3) := hS172 _ _ _ _ _ (zAllA hl 2)
  have l3 : sn172 [ρ 4] (γ 3) 0 1 (γ 4) := hS172 _ _ _ _ _ (zAllA hl 3)
  have l4 : zOpP (.lsub) (γ 0) (γ 1) [ρ 3, ρ 4] (ρ 5) := zAllA hl 4
  show sn231 [ρ 0, ρ 1, ρ 2] (γ 0) 0 0 (γ 5)
  refine Eq.symm ?_
  show fn231 [ρ 0] (γ 0) = _
  unfold fn231
  refine zLV (ρ 0) rfl (zLE m0 (zLE m1 (zLE (show fn224 [ρ 0, 0] (γ 0) = (0, ρ 3, γ 1) from l0.symm) (zLV (γ 1) rfl (zLV (ρ 3) rfl (zLE (show fn224 [ρ 0, 1] (γ 1) = (0, ρ 4, γ 2) from l1.symm) (zLV (γ 2) rfl ?_)))))))
  refine zLV (ρ 4) rfl (zLE (show fn172 [ρ 3] (γ 2) = (0, 1, γ 3) from l2.symm) (zLV (γ 3) rfl (zIP zQ1_ (zLE (show fn172 [ρ 4] (γ 3) = (0, 1, γ 4) from l3.symm) (zLV (γ 4) rfl (zIP zQ1_ (zIP w_0 ?_)))))))
  refine zIN w_1 (zLE (zF2_ok l4) (zLE c5.symm (zIP w_2 ?_)))
  rfl
theorem vn231_6 {S : Nat → zSpc} (hS172 : zIm S 172 sn172) (hS224 : zIm S 224 sn224) {a : List Int} {g : rHp} : ∀ (ρ : Nat → Int) (γ : Nat → rHp), zO 3 S a g q231_6 ρ γ → zGl (fun _ _ _ => True) (sn231 a g) q231_6 ρ γ := by
  intro ρ γ h
  obtain ⟨ha, hg, hr, hf, hm, hc, hl⟩ := h
  have ha : a = [ρ 0, ρ 1, ρ 2] := ha
  subst ha
  subst hg
  have r1 : (7 : Int) ≤ ρ 1 ∧ ρ 1 ≤ 7 := zRnA hr 1
  have r5 : (100000001 : Int) ≤ ρ 5 ∧ ρ 5 ≤ 9223372036854775807 := zRnA hr 5
  obtain ⟨w_0, w_1, w_2, w_3⟩ : (ρ 1 ≠ 6) ∧ (¬ (ρ 1 ≠ 7)) ∧ (¬ (ρ 5 < (-100000000))) ∧ (ρ 5 > 100000000) := ⟨by omega, by omega, by omega, by omega⟩
  have m0 : γ 0 10 (ρ 0) 4 = ρ 1 := zAllA hm 0
  have m1 : γ 0 10 (ρ 0) 11 = ρ 2 := zAllA hm 1
  have c5 : γ 5 = rUp (γ 4) 37 0 (ρ 2) (ρ 5) := And.right (zChA hc 0)
  have l0 : sn224 [ρ 0, 0] (γ 0) 0 (ρ 3) (γ 1) := hS224 _ _ _ _ _ (zAllA hl 0)
  have l1 : sn224 [ρ 0, 1] (γ 1) 0 (ρ 4) (γ 2) := hS224 _ _ _ _ _ (zAllA hl 1)
  have l2 : sn172 [ρ 3] (γ 2) 0 1 (γ 3) := hS172 _ _ _ _ _ (zAllA hl 2)
  have l3 : sn172 [ρ 4] (γ 3) 0 1 (γ 4) := hS172 _ _ _ _ _ (zAllA hl 3)
  have l4 : zOpP (.lsub) (γ 0) (γ 1) [ρ 3, ρ 4] (ρ 5) := zAllA hl 4
  show sn231 [ρ 0, ρ 1, ρ 2] (γ 0) 0 0 (γ 5)
  refine Eq.symm ?_
  show fn231 [ρ 0] (γ 0) = _
  unfold fn231
  refine zLV (ρ 0) rfl (zLE m0 (zLE m1 (zLE (show fn224 [ρ 0, 0] (γ 0) = (0, ρ 3, γ 1) from l0.symm) (zLV (γ 1) rfl (zLV (ρ 3) rfl (zLE (show fn224 [ρ 0, 1] (γ 1) = (0, ρ 4, γ 2) from l1.symm) (zLV (γ 2) rfl ?_)))))))
  refine zLV (ρ 4) rfl (zLE (show fn172 [ρ 3] (γ 2) = (0, 1, γ 3) from l2.symm) (zLV (γ 3) rfl (zIP zQ1_ (zLE (show fn172 [ρ 4] (γ 3) = (0, 1, γ 4) from l3.symm) (zLV (γ 4) rfl (zIP zQ1_ (zIP w_0 ?_)))))))
  refine zIN w_1 (zLE (zF2_ok l4) (zLE c5.symm (zIN w_2 (zIP w_3 ?_))))
  rfl
theorem vn231_7 {S : Nat → zSpc} (hS172 : zIm S 172 sn172) (hS224 : zIm S 224 sn224) {a : List Int} {g : rHp} : ∀ (ρ : Nat → Int) (γ : Nat → rHp), zO 3 S a g q231_7 ρ γ → zGl (fun _ _ _ => True) (sn231 a g) q231_7 ρ γ := by
  intro ρ γ h
  obtain ⟨ha, hg, hr, hf, hm, hc, hl⟩ := h
  have ha : a = [ρ 0, ρ 1, ρ 2] := ha
  subst ha
  subst hg
  have r1 : (7 : Int) ≤ ρ 1 ∧ ρ 1 ≤ 7 := zRnA hr 1
  have r5 : ((-100000000) : Int) ≤ ρ 5 ∧ ρ 5 ≤ 100000000 := zRnA hr 5
  obtain ⟨w_0, w_1, w_2, w_3⟩ : (ρ 1 ≠ 6) ∧ (¬ (ρ 1 ≠ 7)) ∧ (¬ (ρ 5 < (-100000000))) ∧ (¬ (ρ 5 > 100000000)) := ⟨by omega, by omega, by omega, by omega⟩
  have m0 : γ 0 10 (ρ 0) 4 = ρ 1 := zAllA hm 0
  have m1 : γ 0 10 (ρ 0) 11 = ρ 2 := zAllA hm 1
  have c5 : γ 5 = rUp (γ 4) 37 0 (ρ 2) (ρ 5) := And.right (zChA hc 0)
  have l0 : sn224 [ρ 0, 0] (γ 0) 0 (ρ 3) (γ 1) := hS224 _ _ _ _ _ (zAllA hl 0)
  have l1 : sn224 [ρ 0, 1] (γ 1) 0 (ρ 4) (γ 2) := hS224 _ _ _ _ _ (zAllA hl 1)
  have l2 : sn172 [ρ 3] (γ 2) 0 1 (γ 3) := hS172 _ _ _ _ _ (zAllA hl 2)
  have l3 : sn172 [ρ 4] (γ 3) 0 1 (γ 4) := hS172 _ _ _ _ _ (zAllA hl 3)
  have l4 : zOpP (.lsub) (γ 0) (γ 1) [ρ 3, ρ 4] (ρ 5) := zAllA hl 4
  show sn231 [ρ 0, ρ 1, ρ 2] (γ 0) 0 1 (γ 5)
  refine Eq.symm ?_
  show fn231 [ρ 0] (γ 0) = _
  unfold fn231
  refine zLV (ρ 0) rfl (zLE m0 (zLE m1 (zLE (show fn224 [ρ 0, 0] (γ 0) = (0, ρ 3, γ 1) from l0.symm) (zLV (γ 1) rfl (zLV (ρ 3) rfl (zLE (show fn224 [ρ 0, 1] (γ 1) = (0, ρ 4, γ 2) from l1.symm) (zLV (γ 2) rfl ?_)))))))
  refine zLV (ρ 4) rfl (zLE (show fn172 [ρ 3] (γ 2) = (0, 1, γ 3) from l2.symm) (zLV (γ 3) rfl (zIP zQ1_ (zLE (show fn172 [ρ 4] (γ 3) = (0, 1, γ 4) from l3.symm) (zLV (γ 4) rfl (zIP zQ1_ (zIP w_0 ?_)))))))
  refine zIN w_1 (zLE (zF2_ok l4) (zLE c5.symm (zIN w_2 (zIN w_3 ?_))))
  rfl
theorem vn231_8 {S : Nat → zSpc} (hS172 : zIm S 172 sn172) (hS224 : zIm S 224 sn224) {a : List Int} {g : rHp} : ∀ (ρ : Nat → Int) (γ : Nat → rHp), zO 3 S a g q231_8 ρ γ → zGl (fun _ _ _ => True) (sn231 a g) q231_8 ρ γ := by
  intro ρ γ h
  obtain ⟨ha, hg, hr, hf, hm, hc, hl⟩ := h
  have ha : a = [ρ 0, ρ 1, ρ 2] := ha
  subst ha
  subst hg
  have r1 : (6 : Int) ≤ ρ 1 ∧ ρ 1 ≤ 6 := zRnA hr 1
  have r5 : ((-9223372036854775808) : Int) ≤ ρ 5 ∧ ρ 5 ≤ (-100000001) := zRnA hr 5
  obtain ⟨w_0, w_1⟩ : (¬ (ρ 1 ≠ 6)) ∧ (ρ 5 < (-100000000)) := ⟨by omega, by omega⟩
  have m0 : γ 0 10 (ρ 0) 4 = ρ 1 := zAllA hm 0
  have m1 : γ 0 10 (ρ 0) 11 = ρ 2 := zAllA hm 1
  have c5 : γ 5 = rUp (γ 4) 37 0 (ρ 2) (ρ 5) := And.right (zChA hc 0)
  have l0 : sn224 [ρ 0, 0] (γ 0) 0 (ρ 3) (γ 1) := hS224 _ _ _ _ _ (zAllA hl 0)
  have l1 : sn224 [ρ 0, 1] (γ 1) 0 (ρ 4) (γ 2) := hS224 _ _ _ _ _ (zAllA hl 1)
  have l2 : sn172 [ρ 3] (γ 2) 0 1 (γ 3) := hS172 _ _ _ _ _ (zAllA hl 2)
  have l3 : sn172 [ρ 4] (γ 3) 0 1 (γ 4) := hS172 _ _ _ _ _ (zAllA hl 3)
  have l4 : zOpP (.ladd) (γ 0) (γ 1) [ρ 3, ρ 4] (ρ 5) := zAllA hl 4
  show sn231 [ρ 0, ρ 1, ρ 2] (γ 0) 0 0 (γ 5)
  refine Eq.symm ?_
  show fn231 [ρ 0] (γ 0) = _
  unfold fn231
  refine zLV (ρ 0) rfl (zLE m0 (zLE m1 (zLE (show fn224 [ρ 0, 0] (γ 0) = (0, ρ 3, γ 1) from l0.symm) (zLV (γ 1) rfl (zLV (ρ 3) rfl (zLE (show fn224 [ρ 0, 1] (γ 1) = (0, ρ 4, γ 2) from l1.symm) (zLV (γ 2) rfl ?_)))))))
  refine zLV (ρ 4) rfl (zLE (show fn172 [ρ 3] (γ 2) = (0, 1, γ 3) from l2.symm) (zLV (γ 3) rfl (zIP zQ1_ (zLE (show fn172 [ρ 4] (γ 3) = (0, 1, γ 4) from l3.symm) (zLV (γ 4) rfl (zIP zQ1_ (zIN w_0 ?_)))))))
  refine zLE (zF2_ok l4) (zLE c5.symm (zIP w_1 ?_))
  rfl
theorem vn231_9 {S : Nat → zSpc} (hS172 : zIm S 172 sn172) (hS224 : zIm S 224 sn224) {a : List Int} {g : rHp} : ∀ (ρ : Nat → Int) (γ : Nat → rHp), zO 3 S a g q231_9 ρ γ → zGl (fun _ _ _ => True) (sn231 a g) q231_9 ρ γ := by
  intro ρ γ h
  obtain ⟨ha, hg, hr, hf, hm, hc, hl⟩ := h
  have ha : a = [ρ 0, ρ 1, ρ 2] := ha
  subst ha
  subst hg
  have r1 : (6 : Int) ≤ ρ 1 ∧ ρ 1 ≤ 6 := zRnA hr 1
  have r5 : (100000001 : Int) ≤ ρ 5 ∧ ρ 5 ≤ 9223372036854775807 := zRnA hr 5
  obtain ⟨w_0, w_1, w_2⟩ : (¬ (ρ 1 ≠ 6)) ∧ (¬ (ρ 5 < (-100000000))) ∧ (ρ 5 > 100000000) := ⟨by omega, by omega, by omega⟩
  have m0 : γ 0 10 (ρ 0) 4 = ρ 1 := zAllA hm 0
  have m1 : γ 0 10 (ρ 0) 11 = ρ 2 := zAllA hm 1
  have c5 : γ 5 = rUp (γ 4) 37 0 (ρ 2) (ρ 5) := And.right (zChA hc 0)
  have l0 : sn224 [ρ 0, 0] (γ 0) 0 (ρ 3) (γ 1) := hS224 _ _ _ _ _ (zAllA hl 0)
  have l1 : sn224 [ρ 0, 1] (γ 1) 0 (ρ 4) (γ 2) := hS224 _ _ _ _ _ (zAllA hl 1)
  have l2 : sn172 [ρ 3] (γ 2) 0 1 (γ 3) := hS172 _ _ _ _ _ (zAllA hl 2)
  have l3 : sn172 [ρ 4] (γ 3) 0 1 (γ 4) := hS172 _ _ _ _ _ (zAllA hl 3)
  have l4 : zOpP (.ladd) (γ 0) (γ 1) [ρ 3, ρ 4] (ρ 5) := zAllA hl 4
  show sn231 [ρ 0, ρ 1, ρ 2] (γ 0) 0 0 (γ 5)
  refine Eq.symm ?_
  show fn231 [ρ 0] (γ 0) = _
  unfold fn231
  refine zLV (ρ 0) rfl (zLE m0 (zLE m1 (zLE (show fn224 [ρ 0, 0] (γ 0) = (0, ρ 3, γ 1) from l0.symm) (zLV (γ 1) rfl (zLV (ρ 3) rfl (zLE (show fn224 [ρ 0, 1] (γ 1) = (0, ρ 4, γ 2) from l1.symm) (zLV (γ 2) rfl ?_)))))))
  refine zLV (ρ 4) rfl (zLE (show fn172 [ρ 3] (γ 2) = (0, 1, γ 3) from l2.symm) (zLV (γ 3) rfl (zIP zQ1_ (zLE (show fn172 [ρ 4] (γ 3) = (0, 1, γ 4) from l3.symm) (zLV (γ 4) rfl (zIP zQ1_ (zIN w_0 ?_)))))))
  refine zLE (zF2_ok l4) (zLE c5.symm (zIN w_1 (zIP w_2 ?_)))
  rfl
theorem vn231_10 {S : Nat → zSpc} (hS172 : zIm S 172 sn172) (hS224 : zIm S 224 sn224) {a : List Int} {g : rHp} : ∀ (ρ : Nat → Int) (γ : Nat → rHp), zO 3 S a g q231_10 ρ γ → zGl (fun _ _ _ => True) (sn231 a g) q231_10 ρ γ := by
  intro ρ γ h
  obtain ⟨ha, hg, hr, hf, hm, hc, hl⟩ := h
  have ha : a = [ρ 0, ρ 1, ρ 2] := ha
  subst ha
  subst hg
  have r1 : (6 : Int) ≤ ρ 1 ∧ ρ 1 ≤ 6 := zRnA hr 1
  have r5 : ((-100000000) : Int) ≤ ρ 5 ∧ ρ 5 ≤ 100000000 := zRnA hr 5
  obtain ⟨w_0, w_1, w_2⟩ : (¬ (ρ 1 ≠ 6)) ∧ (¬ (ρ 5 < (-100000000))) ∧ (¬ (ρ 5 > 100000000)) := ⟨by omega, by omega, by omega⟩
  have m0 : γ 0 10 (ρ 0) 4 = ρ 1 := zAllA hm 0
  have m1 : γ 0 10 (ρ 0) 11 = ρ 2 := zAllA hm 1
  have c5 : γ 5 = rUp (γ 4) 37 0 (ρ 2) (ρ 5) := And.right (zChA hc 0)
  have l0 : sn224 [ρ 0, 0] (γ 0) 0 (ρ 3) (γ 1) := hS224 _ _ _ _ _ (zAllA hl 0)
  have l1 : sn224 [ρ 0, 1] (γ 1) 0 (ρ 4) (γ 2) := hS224 _ _ _ _ _ (zAllA hl 1)
  have l2 : sn172 [ρ 3] (γ 2) 0 1 (γ 3) := hS172 _ _ _ _ _ (zAllA hl 2)
  have l3 : sn172 [ρ 4] (γ 3) 0 1 (γ 4) := hS172 _ _ _ _ _ (zAllA hl 3)
  have l4 : zOpP (.ladd) (γ 0) (γ 1) [ρ 3, ρ 4] (ρ 5) := zAllA hl 4
  show sn231 [ρ 0, ρ 1, ρ 2] (γ 0) 0 1 (γ 5)
  refine Eq.symm ?_
  show fn231 [ρ 0] (γ 0) = _
  unfold fn231
  refine zLV (ρ 0) rfl (zLE m0 (zLE m1 (zLE (show fn224 [ρ 0, 0] (γ 0) = (0, ρ 3, γ 1) from l0.symm) (zLV (γ 1) rfl (zLV (ρ 3) rfl (zLE (show fn224 [ρ 0, 1] (γ 1) = (0, ρ 4, γ 2) from l1.symm) (zLV (γ 2) rfl ?_)))))))
  refine zLV (ρ 4) rfl (zLE (show fn172 [ρ 3] (γ 2) = (0, 1, γ 3) from l2.symm) (zLV (γ 3) rfl (zIP zQ1_ (zLE (show fn172 [ρ 4] (γ 3) = (0, 1, γ 4) from l3.symm) (zLV (γ 4) rfl (zIP zQ1_ (zIN w_0 ?_)))))))
  refine zLE (zF2_ok l4) (zLE c5.symm (zIN w_1 (zIN w_2 ?_)))
  rfl
theorem yn231 {S : Nat → zSpc} (hS172 : zIm S 172 sn172) (hS224 : zIm S 224 sn224) : ∀ x g o v gz, zSem uW uT w231_.2.2.2.1 w231_.2.2.1.1.length S q231 (fun i => q231a.getD i []) (zNA a231_) x g o v gz → sn231 x g o v gz := by
  intro a g o v gz h
  exact zSem_all (l0 := q231) (las := q231a) (S := S) (J := (fun _ _ _ => True)) (P := sn231 a g) (fun _ => (show zAll _ [q231_0, q231_1, q231_2, q231_3, q231_4, q231_5, q231_6, q231_7, q231_8, q231_9, q231_10] from (zAll_c (vn231_0 hS172 hS224) (zAll_c (vn231_1 hS172 hS224) (zAll_c (vn231_2 hS172 hS224) (zAll_c (vn231_3 hS172 hS224) (zAll_c (vn231_4 hS172 hS224) (zAll_c (vn231_5 hS172 hS224) (zAll_c (vn231_6 hS172 hS224) (zAll_c (vn231_7 hS172 hS224) (zAll_c (vn231_8 hS172 hS224) (zAll_c (vn231_9 hS172 hS224) (zAll_c (vn231_10 hS172 hS224) zAll_n))))))))))))) (fun _ => (show zAllI _ 0 [] from trivial)) h
theorem vn232_0 {S : Nat → zSpc}  {a : List Int} {g : rHp} : ∀ (ρ : Nat → Int) (γ : Nat → rHp), zO 4 S a g q232_0 ρ γ → zGl (fun _ _ _ => True) (sn232 a g) q232_0 ρ γ := by
  intro ρ γ h
  obtain ⟨ha, hg, hr, hf, hm, hc, hl⟩ := h
  have ha : a = [ρ 0, ρ 1, ρ 2, ρ 3] := ha
  subst ha
  subst hg
  have r2 : (0 : Int) ≤ ρ 2 ∧ ρ 2 ≤ 49999 := zRnA hr 2
  have w_0 : ρ 2 + 1 ≤ 50000 := by omega
  have m0 : γ 0 6 0 0 = ρ 2 := zAllA hm 0
  have m1 : γ 0 10 (ρ 0) 10 = ρ 3 := zAllA hm 1
  have c1 : γ 1 = rUp (γ 0) 6 0 0 (ρ 2 + 1) := And.right (zChA hc 1)
  have c2 : γ 2 = rUp (γ 1) 38 0 (ρ 3) (ρ 1) := And.right (zChA hc 0)
  show sn232 [ρ 0, ρ 1, ρ 2, ρ 3] (γ 0) 0 0 (γ 2)
  refine Eq.symm ?_
  show fn232 [ρ 0, ρ 1] (γ 0) = _
  unfold fn232
  refine zLV (ρ 0) rfl (zLV (ρ 1) rfl (zLE m0 (zLE m1 (zLE c1.symm (zIP w_0 (zLE c2.symm ?_))))))
  rfl
theorem vn232_1 {S : Nat → zSpc}  {a : List Int} {g : rHp} : ∀ (ρ : Nat → Int) (γ : Nat → rHp), zO 4 S a g q232_1 ρ γ → zGl (fun _ _ _ => True) (sn232 a g) q232_1 ρ γ := by
  intro ρ γ h
  obtain ⟨ha, hg, hr, hf, hm, hc, hl⟩ := h
  have ha : a = [ρ 0, ρ 1, ρ 2, ρ 3] := ha
  subst ha
  subst hg
  have r2 : (50000 : Int) ≤ ρ 2 ∧ ρ 2 ≤ 50000 := zRnA hr 2
  have w_0 : ¬ (ρ 2 + 1 ≤ 50000) := by omega
  have m0 : γ 0 6 0 0 = ρ 2 := zAllA hm 0
  have m1 : γ 0 10 (ρ 0) 10 = ρ 3 := zAllA hm 1
  have c1 : γ 1 = rUp (γ 0) 6 0 0 (ρ 2 + 1) := And.right (zChA hc 0)
  show sn232 [ρ 0, ρ 1, ρ 2, ρ 3] (γ 0) 4 0 (γ 1)
  refine Eq.symm ?_
  show fn232 [ρ 0, ρ 1] (γ 0) = _
  unfold fn232
  refine zLV (ρ 0) rfl (zLV (ρ 1) rfl (zLE m0 (zLE m1 (zLE c1.symm (zIN w_0 ?_)))))
  rfl
theorem yn232 {S : Nat → zSpc}  : ∀ x g o v gz, zSem uW uT w232_.2.2.2.1 w232_.2.2.1.1.length S q232 (fun i => q232a.getD i []) (zNA a232_) x g o v gz → sn232 x g o v gz := by
  intro a g o v gz h
  exact zSem_all (l0 := q232) (las := q232a) (S := S) (J := (fun _ _ _ => True)) (P := sn232 a g) (fun _ => (show zAll _ [q232_0, q232_1] from (zAll_c (vn232_0 ) (zAll_c (vn232_1 ) zAll_n)))) (fun _ => (show zAllI _ 0 [] from trivial)) h
theorem vn233_0 {S : Nat → zSpc} (hS206 : zIm S 206 sn206) (hS207 : zIm S 207 sn207) {a : List Int} {g : rHp} : ∀ (ρ : Nat → Int) (γ : Nat → rHp), zO 4 S a g q233_0 ρ γ → zGl (fun _ _ _ => True) (sn233 a g) q233_0 ρ γ := by
  intro ρ γ h
  obtain ⟨ha, hg, hr, hf, hm, hc, hl⟩ := h
  have ha : a = [ρ 0, ρ 1, ρ 2, ρ 3] := ha
  subst ha
  subst hg
  have r4 : ((-1) : Int) ≤ ρ 4 ∧ ρ 4 ≤ (-1) := zRnA hr 4
  have w_0 : ρ 4 < 0 := by omega
  have l0 : sn206 [ρ 0] (γ 0) 0 (ρ 4) (γ 1) := hS206 _ _ _ _ _ (zAllA hl 0)
  have l1 : sn207 [ρ 0, ρ 1, ρ 2, ρ 3] (γ 1) 0 0 (γ 2) := hS207 _ _ _ _ _ (zAllA hl 1)
  show sn233 [ρ 0, ρ 1, ρ 2, ρ 3] (γ 0) 1 0 (γ 2)
  refine Eq.symm ?_
  show fn233 [ρ 0, ρ 1, ρ 2] (γ 0) = _
  unfold fn233
  refine zLV (ρ 0) rfl (zLV (ρ 1) rfl (zLV (ρ 2) rfl (zLE (show fn206 [ρ 0] (γ 0) = (0, ρ 4, γ 1) from l0.symm) (zLV (γ 1) rfl (zLV (ρ 4) rfl (zIP w_0 (zLE (show fn207 [ρ 0, ρ 1, ρ 2] (γ 1) = (0, 0, γ 2) from l1.symm) ?_)))))))
  refine zLV (γ 2) rfl (zIN zQ0_ ?_)
  rfl
theorem vn233_1 {S : Nat → zSpc} (hS206 : zIm S 206 sn206) (hS207 : zIm S 207 sn207) {a : List Int} {g : rHp} : ∀ (ρ : Nat → Int) (γ : Nat → rHp), zO 4 S a g q233_1 ρ γ → zGl (fun _ _ _ => True) (sn233 a g) q233_1 ρ γ := by
  intro ρ γ h
  obtain ⟨ha, hg, hr, hf, hm, hc, hl⟩ := h
  have ha : a = [ρ 0, ρ 1, ρ 2, ρ 3] := ha
  subst ha
  subst hg
  have r4 : ((-1) : Int) ≤ ρ 4 ∧ ρ 4 ≤ (-1) := zRnA hr 4
  have w_0 : ρ 4 < 0 := by omega
  have l0 : sn206 [ρ 0] (γ 0) 0 (ρ 4) (γ 1) := hS206 _ _ _ _ _ (zAllA hl 0)
  have l1 : sn207 [ρ 0, ρ 1, ρ 2, ρ 3] (γ 1) 0 1 (γ 2) := hS207 _ _ _ _ _ (zAllA hl 1)
  show sn233 [ρ 0, ρ 1, ρ 2, ρ 3] (γ 0) 0 1 (γ 2)
  refine Eq.symm ?_
  show fn233 [ρ 0, ρ 1, ρ 2] (γ 0) = _
  unfold fn233
  refine zLV (ρ 0) rfl (zLV (ρ 1) rfl (zLV (ρ 2) rfl (zLE (show fn206 [ρ 0] (γ 0) = (0, ρ 4, γ 1) from l0.symm) (zLV (γ 1) rfl (zLV (ρ 4) rfl (zIP w_0 (zLE (show fn207 [ρ 0, ρ 1, ρ 2] (γ 1) = (0, 1, γ 2) from l1.symm) ?_)))))))
  refine zLV (γ 2) rfl (zIP zQ1_ ?_)
  rfl
theorem vn233_2 {S : Nat → zSpc} (hS206 : zIm S 206 sn206) (hS207 : zIm S 207 sn207) {a : List Int} {g : rHp} : ∀ (ρ : Nat → Int) (γ : Nat → rHp), zO 4 S a g q233_2 ρ γ → zGl (fun _ _ _ => True) (sn233 a g) q233_2 ρ γ := by
  intro ρ γ h
  obtain ⟨ha, hg, hr, hf, hm, hc, hl⟩ := h
  have ha : a = [ρ 0, ρ 1, ρ 2, ρ 3] := ha
  subst ha
  subst hg
  have r4 : (0 : Int) ≤ ρ 4 ∧ ρ 4 ≤ 1999 := zRnA hr 4
  have w_0 : ¬ (ρ 4 < 0) := by omega
  have l0 : sn206 [ρ 0] (γ 0) 0 (ρ 4) (γ 1) := hS206 _ _ _ _ _ (zAllA hl 0)
  show sn233 [ρ 0, ρ 1, ρ 2, ρ 3] (γ 0) 0 0 (γ 1)
  refine Eq.symm ?_
  show fn233 [ρ 0, ρ 1, ρ 2] (γ 0) = _
  unfold fn233
  refine zLV (ρ 0) rfl (zLV (ρ 1) rfl (zLV (ρ 2) rfl (zLE (show fn206 [ρ 0] (γ 0) = (0, ρ 4, γ 1) from l0.symm) (zLV (γ 1) rfl (zLV (ρ 4) rfl (zIN w_0 ?_))))))
  rfl
theorem yn233 {S : Nat → zSpc} (hS206 : zIm S 206 sn206) (hS207 : zIm S 207 sn207) : ∀ x g o v gz, zSem uW uT w233_.2.2.2.1 w233_.2.2.1.1.length S q233 (fun i => q233a.getD i []) (zNA a233_) x g o v gz → sn233 x g o v gz := by
  intro a g o v gz h
  exact zSem_all (l0 := q233) (las := q233a) (S := S) (J := (fun _ _ _ => True)) (P := sn233 a g) (fun _ => (show zAll _ [q233_0, q233_1, q233_2] from (zAll_c (vn233_0 hS206 hS207) (zAll_c (vn233_1 hS206 hS207) (zAll_c (vn233_2 hS206 hS207) zAll_n))))) (fun _ => (show zAllI _ 0 [] from trivial)) h
theorem vn234_0 {S : Nat → zSpc}  {a : List Int} {g : rHp} : ∀ (ρ : Nat → Int) (γ : Nat → rHp), zO 3 S a g q234_0 ρ γ → zGl (fun _ _ _ => True) (sn234 a g) q234_0 ρ γ := by
  intro ρ γ h
  obtain ⟨ha, hg, hr, hf, hm, hc, hl⟩ := h
  have ha : a = [ρ 0, ρ 1, ρ 2] := ha
  subst ha
  subst hg
  have r1 : ((-2147483648) : Int) ≤ ρ 1 ∧ ρ 1 ≤ 2147483647 := zRnA hr 1
  have r3 : (0 : Int) ≤ ρ 3 ∧ ρ 3 ≤ 19 := zRnA hr 3
  have m0 : γ 0 10 (9 * ρ 0) 8 = ρ 2 := zAllA hm 0
  have m1 : γ 0 18 0 (ρ 2) = ρ 3 := zAllA hm 1
  have l0 : ρ 3 ≠ ρ 1 := zAllA hl 0
  have wl_0 : ρ 3 ≠ ρ 1 := by omega
  show sn234 [ρ 0, ρ 1, ρ 2] (γ 0) 0 0 (γ 0)
  refine Eq.symm ?_
  show fn234 [ρ 0, ρ 1] (γ 0) = _
  unfold fn234
  refine zLV (ρ 0) rfl (zLV (ρ 1) rfl (zLE m0 (zLE m1 (zIP wl_0 ?_))))
  rfl
theorem vn234_1 {S : Nat → zSpc}  {a : List Int} {g : rHp} : ∀ (ρ : Nat → Int) (γ : Nat → rHp), zO 3 S a g q234_1 ρ γ → zGl (fun _ _ _ => True) (sn234 a g) q234_1 ρ γ := by
  intro ρ γ h
  obtain ⟨ha, hg, hr, hf, hm, hc, hl⟩ := h
  have ha : a = [ρ 0, ρ 1, ρ 2] := ha
  subst ha
  subst hg
  have f0 : (0 : Int) ≤ -ρ 3 + ρ 1 := zAllA hf 0
  have f1 : (0 : Int) ≤ ρ 3 + -ρ 1 := zAllA hf 1
  have w_0 : ¬ (ρ 3 ≠ ρ 1) := by omega
  have m0 : γ 0 10 (9 * ρ 0) 8 = ρ 2 := zAllA hm 0
  have m1 : γ 0 18 0 (ρ 2) = ρ 3 := zAllA hm 1
  show sn234 [ρ 0, ρ 1, ρ 2] (γ 0) 0 1 (γ 0)
  refine Eq.symm ?_
  show fn234 [ρ 0, ρ 1] (γ 0) = _
  unfold fn234
  refine zLV (ρ 0) rfl (zLV (ρ 1) rfl (zLE m0 (zLE m1 (zIN w_0 ?_))))
  rfl
theorem yn234 {S : Nat → zSpc}  : ∀ x g o v gz, zSem uW uT w234_.2.2.2.1 w234_.2.2.1.1.length S q234 (fun i => q234a.getD i []) (zNA a234_) x g o v gz → sn234 x g o v gz := by
  intro a g o v gz h
  exact zSem_all (l0 := q234) (las := q234a) (S := S) (J := (fun _ _ _ => True)) (P := sn234 a g) (fun _ => (show zAll _ [q234_0, q234_1] from (zAll_c (vn234_0 ) (zAll_c (vn234_1 ) zAll_n)))) (fun _ => (show zAllI _ 0 [] from trivial)) h
theorem vn235_0 {S : Nat → zSpc} (hS233 : zIm S 233 sn233) {a : List Int} {g : rHp} : ∀ (ρ : Nat → Int) (γ : Nat → rHp), zO 3 S a g q235_0 ρ γ → zGl (fun i vs g1 => jn235 a g i vs g1) (sn235 a g) q235_0 ρ γ := by
  intro ρ γ h
  obtain ⟨ha, hg, hr, hf, hm, hc, hl⟩ := h
  have ha : a = [ρ 0, ρ 1, ρ 2] := ha
  subst ha
  subst hg
  show jn235 [ρ 0, ρ 1, ρ 2] (γ 0) 0 [ρ 0, ρ 1, ρ 2, 0, ρ 2] (γ 0)
  have hD : dn235 [ρ 0] (γ 0) = .inl (0, [ρ 0, 0], γ 0) := by
    unfold dn235
    refine zLV (ρ 0) rfl ?_
    rfl
  exact zGoo_to hD
theorem vn235a0_0 {S : Nat → zSpc} (hS233 : zIm S 233 sn233) {a : List Int} {g : rHp} : ∀ (ρ : Nat → Int) (γ : Nat → rHp), jn235 a g 0 (zAg (zNA a235_ 0) ρ) (γ 1) → zO 3 S a g q235a0_0 ρ γ → zGl (fun i vs g1 => jn235 a g i vs g1) (sn235 a g) q235a0_0 ρ γ := by
  intro ρ γ hJ h
  obtain ⟨ha, hg, hr, hf, hm, hc, hl⟩ := h
  have ha : a = [ρ 0, ρ 1, ρ 2] := ha
  subst ha
  subst hg
  have hJ : jn235 [ρ 0, ρ 1, ρ 2] (γ 0) 0 [ρ 0, ρ 1, ρ 2, ρ 3, ρ 4] (γ 1) := hJ
  have f0 : (0 : Int) ≤ ρ 3 + -ρ 1 := zAllA hf 0
  have w_0 : ρ 3 ≥ ρ 1 := by omega
  have m0 : γ 0 1 0 9 = ρ 1 := zAllA hm 0
  show sn235 [ρ 0, ρ 1, ρ 2] (γ 0) 0 0 (γ 1)
  have hD : en235 (γ 0) (0, [ρ 0, ρ 3], γ 1) = .inr (0, 0, γ 1) := by
    unfold en235
    refine zIP (show (0 : Nat) = 0 by decide) (zLV (γ 1) rfl (zLV (ρ 0) rfl (zLV (ρ 3) rfl (zLE m0 (zIP w_0 ?_)))))
    rfl
  exact zGoo_aend hJ hD
theorem vn235a0_1 {S : Nat → zSpc} (hS233 : zIm S 233 sn233) {a : List Int} {g : rHp} : ∀ (ρ : Nat → Int) (γ : Nat → rHp), jn235 a g 0 (zAg (zNA a235_ 0) ρ) (γ 1) → zO 3 S a g q235a0_1 ρ γ → zGl (fun i vs g1 => jn235 a g i vs g1) (sn235 a g) q235a0_1 ρ γ := by
  intro ρ γ hJ h
  obtain ⟨ha, hg, hr, hf, hm, hc, hl⟩ := h
  have ha : a = [ρ 0, ρ 1, ρ 2] := ha
  subst ha
  subst hg
  have hJ : jn235 [ρ 0, ρ 1, ρ 2] (γ 0) 0 [ρ 0, ρ 1, ρ 2, ρ 3, ρ 4] (γ 1) := hJ
  have r0 : ((-2147483648) : Int) ≤ ρ 0 ∧ ρ 0 ≤ 2147483647 := zRnA hr 0
  have r6 : (0 : Int) ≤ ρ 6 ∧ ρ 6 ≤ 19 := zRnA hr 6
  have f0 : (0 : Int) ≤ -ρ 3 + ρ 1 + (-1) := zAllA hf 0
  have w_0 : ¬ (ρ 3 ≥ ρ 1) := by omega
  have m0 : γ 0 1 0 9 = ρ 1 := zAllA hm 0
  have m3 : γ 0 19 0 (ρ 3) = ρ 5 := zAllA hm 3
  have m4 : γ 0 18 0 (ρ 5) = ρ 6 := zAllA hm 4
  have l0 : ρ 6 ≠ ρ 0 := zAllA hl 0
  have wl_0 : ρ 6 ≠ ρ 0 := by omega
  show jn235 [ρ 0, ρ 1, ρ 2] (γ 0) 0 [ρ 0, ρ 1, ρ 2, ρ 3 + 1, ρ 4] (γ 1)
  have hD : en235 (γ 0) (0, [ρ 0, ρ 3], γ 1) = .inl (0, [ρ 0, ρ 3 + 1], γ 1) := by
    unfold en235
    refine zIP (show (0 : Nat) = 0 by decide) (zLV (γ 1) rfl (zLV (ρ 0) rfl (zLV (ρ 3) rfl (zLE m0 (zIN w_0 (zLE m3 (zLE m4 ?_)))))))
    refine zIP wl_0 ?_
    rfl
  exact zGoo_ato hJ hD
theorem vn235a0_2 {S : Nat → zSpc} (hS233 : zIm S 233 sn233) {a : List Int} {g : rHp} : ∀ (ρ : Nat → Int) (γ : Nat → rHp), jn235 a g 0 (zAg (zNA a235_ 0) ρ) (γ 1) → zO 3 S a g q235a0_2 ρ γ → zGl (fun i vs g1 => jn235 a g i vs g1) (sn235 a g) q235a0_2 ρ γ := by
  intro ρ γ hJ h
  obtain ⟨ha, hg, hr, hf, hm, hc, hl⟩ := h
  have ha : a = [ρ 0, ρ 1, ρ 2] := ha
  subst ha
  subst hg
  have hJ : jn235 [ρ 0, ρ 1, ρ 2] (γ 0) 0 [ρ 0, ρ 1, ρ 2, ρ 3, ρ 4] (γ 1) := hJ
  have f0 : (0 : Int) ≤ -ρ 6 + ρ 0 := zAllA hf 0
  have f1 : (0 : Int) ≤ ρ 6 + -ρ 0 := zAllA hf 1
  have f2 : (0 : Int) ≤ -ρ 3 + ρ 1 + (-1) := zAllA hf 2
  obtain ⟨w_0, w_1⟩ : (¬ (ρ 3 ≥ ρ 1)) ∧ (¬ (ρ 6 ≠ ρ 0)) := ⟨by omega, by omega⟩
  have m0 : γ 0 1 0 9 = ρ 1 := zAllA hm 0
  have m3 : γ 0 19 0 (ρ 3) = ρ 5 := zAllA hm 3
  have m4 : γ 0 18 0 (ρ 5) = ρ 6 := zAllA hm 4
  have l0 : γ 2 = zCpy (γ 1) 20 0 (4 * ρ 3) 33 0 0 4 := zAllA hl 0
  have l1 : sn233 [ρ 5, 0, (-1), ρ 4] (γ 2) 0 0 (γ 3) := hS233 _ _ _ _ _ (zAllA hl 1)
  show jn235 [ρ 0, ρ 1, ρ 2] (γ 0) 0 [ρ 0, ρ 1, ρ 2, ρ 3 + 1, ρ 4] (γ 3)
  have hD : en235 (γ 0) (0, [ρ 0, ρ 3], γ 1) = .inl (0, [ρ 0, ρ 3 + 1], γ 3) := by
    unfold en235
    refine zIP (show (0 : Nat) = 0 by decide) (zLV (γ 1) rfl (zLV (ρ 0) rfl (zLV (ρ 3) rfl (zLE m0 (zIN w_0 (zLE m3 (zLE m4 ?_)))))))
    refine zIN w_1 (zLE l0.symm (zLE (show fn233 [ρ 5, 0, (-1)] (γ 2) = (0, 0, γ 3) from l1.symm) (zLV (γ 3) rfl (zIP (show (0 : Nat) = 0 by decide) ?_))))
    rfl
  exact zGoo_ato hJ hD
theorem vn235a0_3 {S : Nat → zSpc} (hS233 : zIm S 233 sn233) {a : List Int} {g : rHp} : ∀ (ρ : Nat → Int) (γ : Nat → rHp), jn235 a g 0 (zAg (zNA a235_ 0) ρ) (γ 1) → zO 3 S a g q235a0_3 ρ γ → zGl (fun i vs g1 => jn235 a g i vs g1) (sn235 a g) q235a0_3 ρ γ := by
  intro ρ γ hJ h
  obtain ⟨ha, hg, hr, hf, hm, hc, hl⟩ := h
  have ha : a = [ρ 0, ρ 1, ρ 2] := ha
  subst ha
  subst hg
  have hJ : jn235 [ρ 0, ρ 1, ρ 2] (γ 0) 0 [ρ 0, ρ 1, ρ 2, ρ 3, ρ 4] (γ 1) := hJ
  have f0 : (0 : Int) ≤ -ρ 6 + ρ 0 := zAllA hf 0
  have f1 : (0 : Int) ≤ ρ 6 + -ρ 0 := zAllA hf 1
  have f2 : (0 : Int) ≤ -ρ 3 + ρ 1 + (-1) := zAllA hf 2
  obtain ⟨w_0, w_1⟩ : (¬ (ρ 3 ≥ ρ 1)) ∧ (¬ (ρ 6 ≠ ρ 0)) := ⟨by omega, by omega⟩
  have m0 : γ 0 1 0 9 = ρ 1 := zAllA hm 0
  have m3 : γ 0 19 0 (ρ 3) = ρ 5 := zAllA hm 3
  have m4 : γ 0 18 0 (ρ 5) = ρ 6 := zAllA hm 4
  have l0 : γ 2 = zCpy (γ 1) 20 0 (4 * ρ 3) 33 0 0 4 := zAllA hl 0
  have l1 : sn233 [ρ 5, 0, (-1), ρ 4] (γ 2) 0 1 (γ 3) := hS233 _ _ _ _ _ (zAllA hl 1)
  show jn235 [ρ 0, ρ 1, ρ 2] (γ 0) 0 [ρ 0, ρ 1, ρ 2, ρ 3 + 1, ρ 4 + 1] (γ 3)
  have hD : en235 (γ 0) (0, [ρ 0, ρ 3], γ 1) = .inl (0, [ρ 0, ρ 3 + 1], γ 3) := by
    unfold en235
    refine zIP (show (0 : Nat) = 0 by decide) (zLV (γ 1) rfl (zLV (ρ 0) rfl (zLV (ρ 3) rfl (zLE m0 (zIN w_0 (zLE m3 (zLE m4 ?_)))))))
    refine zIN w_1 (zLE l0.symm (zLE (show fn233 [ρ 5, 0, (-1)] (γ 2) = (0, 1, γ 3) from l1.symm) (zLV (γ 3) rfl (zIP (show (0 : Nat) = 0 by decide) ?_))))
    rfl
  exact zGoo_ato hJ hD
theorem vn235a0_4 {S : Nat → zSpc} (hS233 : zIm S 233 sn233) {a : List Int} {g : rHp} : ∀ (ρ : Nat → Int) (γ : Nat → rHp), jn235 a g 0 (zAg (zNA a235_ 0) ρ) (γ 1) → zO 3 S a g q235a0_4 ρ γ → zGl (fun i vs g1 => jn235 a g i vs g1) (sn235 a g) q235a0_4 ρ γ := by
  intro ρ γ hJ h
  obtain ⟨ha, hg, hr, hf, hm, hc, hl⟩ := h
  have ha : a = [ρ 0, ρ 1, ρ 2] := ha
  subst ha
  subst hg
  have hJ : jn235 [ρ 0, ρ 1, ρ 2] (γ 0) 0 [ρ 0, ρ 1, ρ 2, ρ 3, ρ 4] (γ 1) := hJ
  have f0 : (0 : Int) ≤ -ρ 6 + ρ 0 := zAllA hf 0
  have f1 : (0 : Int) ≤ ρ 6 + -ρ 0 := zAllA hf 1
  have f2 : (0 : Int) ≤ -ρ 3 + ρ 1 + (-1) := zAllA hf 2
  obtain ⟨w_0, w_1⟩ : (¬ (ρ 3 ≥ ρ 1)) ∧ (¬ (ρ 6 ≠ ρ 0)) := ⟨by omega, by omega⟩
  have m0 : γ 0 1 0 9 = ρ 1 := zAllA hm 0
  have m3 : γ 0 19 0 (ρ 3) = ρ 5 := zAllA hm 3
  have m4 : γ 0 18 0 (ρ 5) = ρ 6 := zAllA hm 4
  have l0 : γ 2 = zCpy (γ 1) 20 0 (4 * ρ 3) 33 0 0 4 := zAllA hl 0
  have l1 : sn233 [ρ 5, 0, (-1), ρ 4] (γ 2) 1 0 (γ 3) := hS233 _ _ _ _ _ (zAllA hl 1)
  show sn235 [ρ 0, ρ 1, ρ 2] (γ 0) 1 0 (γ 3)
  have hD : en235 (γ 0) (0, [ρ 0, ρ 3], γ 1) = .inr (1, 0, γ 3) := by
    unfold en235
    refine zIP (show (0 : Nat) = 0 by decide) (zLV (γ 1) rfl (zLV (ρ 0) rfl (zLV (ρ 3) rfl (zLE m0 (zIN w_0 (zLE m3 (zLE m4 ?_)))))))
    refine zIN w_1 (zLE l0.symm (zLE (show fn233 [ρ 5, 0, (-1)] (γ 2) = (1, 0, γ 3) from l1.symm) (zLV (γ 3) rfl (zIN (show ¬ (1 : Nat) = 0 by decide) ?_))))
    rfl
  exact zGoo_aend hJ hD
theorem yn235 {S : Nat → zSpc} (hS233 : zIm S 233 sn233) : ∀ x g o v gz, zSem uW uT w235_.2.2.2.1 w235_.2.2.1.1.length S q235 (fun i => q235a.getD i []) (zNA a235_) x g o v gz → sn235 x g o v gz := by
  intro a g o v gz h
  exact zSem_all (l0 := q235) (las := q235a) (S := S) (J := (fun i vs g1 => jn235 a g i vs g1)) (P := sn235 a g) (fun _ => (show zAll _ [q235_0] from (zAll_c (vn235_0 hS233) zAll_n))) (fun _ => (show zAllI _ 0 [q235a0] from ⟨(show zAll _ [q235a0_0, q235a0_1, q235a0_2, q235a0_3, q235a0_4] from (zAll_c (vn235a0_0 hS233) (zAll_c (vn235a0_1 hS233) (zAll_c (vn235a0_2 hS233) (zAll_c (vn235a0_3 hS233) (zAll_c (vn235a0_4 hS233) zAll_n)))))), trivial⟩)) h
theorem vn236_0 {S : Nat → zSpc} (hS202 : zIm S 202 sn202) {a : List Int} {g : rHp} : ∀ (ρ : Nat → Int) (γ : Nat → rHp), zO 2 S a g q236_0 ρ γ → zGl (fun _ _ _ => True) (sn236 a g) q236_0 ρ γ := by
  intro ρ γ h
  obtain ⟨ha, hg, hr, hf, hm, hc, hl⟩ := h
  have ha : a = [ρ 0, ρ 1] := ha
  subst ha
  subst hg
  have c2 : γ 2 = rUp (γ 1) 6 0 0 0 := And.right (zChA hc 0)
  have l0 : sn202 [ρ 0] (γ 0) 0 0 (γ 1) := hS202 _ _ _ _ _ (zAllA hl 0)
  show sn236 [ρ 0, ρ 1] (γ 0) 0 0 (γ 2)
  refine Eq.symm ?_
  show fn236 [] (γ 0) = _
  unfold fn236
  refine zLE (show fn202 [] (γ 0) = (0, 0, γ 1) from l0.symm) (zLV (γ 1) rfl (zLE c2.symm ?_))
  rfl
theorem yn236 {S : Nat → zSpc} (hS202 : zIm S 202 sn202) : ∀ x g o v gz, zSem uW uT w236_.2.2.2.1 w236_.2.2.1.1.length S q236 (fun i => q236a.getD i []) (zNA a236_) x g o v gz → sn236 x g o v gz := by
  intro a g o v gz h
  exact zSem_all (l0 := q236) (las := q236a) (S := S) (J := (fun _ _ _ => True)) (P := sn236 a g) (fun _ => (show zAll _ [q236_0] from (zAll_c (vn236_0 hS202) zAll_n))) (fun _ => (show zAllI _ 0 [] from trivial)) h
theorem vn237_0 {S : Nat → zSpc} (hS233 : zIm S 233 sn233) {a : List Int} {g : rHp} : ∀ (ρ : Nat → Int) (γ : Nat → rHp), zO 6 S a g q237_0 ρ γ → zGl (fun i vs g1 => jn237 a g i vs g1) (sn237 a g) q237_0 ρ γ := by
  intro ρ γ h
  obtain ⟨ha, hg, hr, hf, hm, hc, hl⟩ := h
  have ha : a = [ρ 0, ρ 1, ρ 2, ρ 3, ρ 4, ρ 5] := ha
  subst ha
  subst hg
  show jn237 [ρ 0, ρ 1, ρ 2, ρ 3, ρ 4, ρ 5] (γ 0) 0 [ρ 0, ρ 1, ρ 2, ρ 3, ρ 4, ρ 5, 0, ρ 3] (γ 0)
  have hD : dn237 [ρ 0, ρ 1] (γ 0) = .inl (0, [ρ 0, ρ 1, 0], γ 0) := by
    unfold dn237
    refine zLV (ρ 0) rfl (zLV (ρ 1) rfl ?_)
    rfl
  exact zGoo_to hD
theorem vn237a0_0 {S : Nat → zSpc} (hS233 : zIm S 233 sn233) {a : List Int} {g : rHp} : ∀ (ρ : Nat → Int) (γ : Nat → rHp), jn237 a g 0 (zAg (zNA a237_ 0) ρ) (γ 1) → zO 6 S a g q237a0_0 ρ γ → zGl (fun i vs g1 => jn237 a g i vs g1) (sn237 a g) q237a0_0 ρ γ := by
  intro ρ γ hJ h
  obtain ⟨ha, hg, hr, hf, hm, hc, hl⟩ := h
  have ha : a = [ρ 0, ρ 1, ρ 2, ρ 3, ρ 4, ρ 5] := ha
  subst ha
  subst hg
  have hJ : jn237 [ρ 0, ρ 1, ρ 2, ρ 3, ρ 4, ρ 5] (γ 0) 0 [ρ 0, ρ 1, ρ 2, ρ 3, ρ 4, ρ 5, ρ 6, ρ 7] (γ 1) := hJ
  have f0 : (0 : Int) ≤ ρ 6 + -ρ 4 := zAllA hf 0
  have w_0 : ρ 6 ≥ ρ 4 := by omega
  have m0 : γ 0 10 (ρ 0) 8 = ρ 2 := zAllA hm 0
  have m2 : γ 0 5 0 3 = ρ 4 := zAllA hm 2
  have m3 : γ 0 10 (ρ 0) 13 = ρ 5 := zAllA hm 3
  show sn237 [ρ 0, ρ 1, ρ 2, ρ 3, ρ 4, ρ 5] (γ 0) 0 0 (γ 1)
  have hD : en237 (γ 0) (0, [ρ 0, ρ 1, ρ 6], γ 1) = .inr (0, 0, γ 1) := by
    unfold en237
    refine zIP (show (0 : Nat) = 0 by decide) (zLV (γ 1) rfl (zLV (ρ 0) rfl (zLV (ρ 1) rfl (zLV (ρ 6) rfl (zLE m0 (zLE m2 (zLE m3 ?_)))))))
    refine zIP w_0 ?_
    rfl
  exact zGoo_aend hJ hD
theorem vn237a0_1 {S : Nat → zSpc} (hS233 : zIm S 233 sn233) {a : List Int} {g : rHp} : ∀ (ρ : Nat → Int) (γ : Nat → rHp), jn237 a g 0 (zAg (zNA a237_ 0) ρ) (γ 1) → zO 6 S a g q237a0_1 ρ γ → zGl (fun i vs g1 => jn237 a g i vs g1) (sn237 a g) q237a0_1 ρ γ := by
  intro ρ γ hJ h
  obtain ⟨ha, hg, hr, hf, hm, hc, hl⟩ := h
  have ha : a = [ρ 0, ρ 1, ρ 2, ρ 3, ρ 4, ρ 5] := ha
  subst ha
  subst hg
  have hJ : jn237 [ρ 0, ρ 1, ρ 2, ρ 3, ρ 4, ρ 5] (γ 0) 0 [ρ 0, ρ 1, ρ 2, ρ 3, ρ 4, ρ 5, ρ 6, ρ 7] (γ 1) := hJ
  have r8 : (0 : Int) ≤ ρ 8 ∧ ρ 8 ≤ 0 := zRnA hr 8
  have f0 : (0 : Int) ≤ -ρ 6 + ρ 4 + (-1) := zAllA hf 0
  obtain ⟨w_0, w_1⟩ : (¬ (ρ 6 ≥ ρ 4)) ∧ (ρ 8 = 0) := ⟨by omega, by omega⟩
  have m0 : γ 0 10 (ρ 0) 8 = ρ 2 := zAllA hm 0
  have m2 : γ 0 5 0 3 = ρ 4 := zAllA hm 2
  have m3 : γ 0 10 (ρ 0) 13 = ρ 5 := zAllA hm 3
  have m5 : γ 0 36 0 (ρ 6) = ρ 8 := zAllA hm 5
  show jn237 [ρ 0, ρ 1, ρ 2, ρ 3, ρ 4, ρ 5] (γ 0) 0 [ρ 0, ρ 1, ρ 2, ρ 3, ρ 4, ρ 5, ρ 6 + 1, ρ 7] (γ 1)
  have hD : en237 (γ 0) (0, [ρ 0, ρ 1, ρ 6], γ 1) = .inl (0, [ρ 0, ρ 1, ρ 6 + 1], γ 1) := by
    unfold en237
    refine zIP (show (0 : Nat) = 0 by decide) (zLV (γ 1) rfl (zLV (ρ 0) rfl (zLV (ρ 1) rfl (zLV (ρ 6) rfl (zLE m0 (zLE m2 (zLE m3 ?_)))))))
    refine zIN w_0 (zLE m5 (zIP w_1 ?_))
    rfl
  exact zGoo_ato hJ hD
theorem vn237a0_2 {S : Nat → zSpc} (hS233 : zIm S 233 sn233) {a : List Int} {g : rHp} : ∀ (ρ : Nat → Int) (γ : Nat → rHp), jn237 a g 0 (zAg (zNA a237_ 0) ρ) (γ 1) → zO 6 S a g q237a0_2 ρ γ → zGl (fun i vs g1 => jn237 a g i vs g1) (sn237 a g) q237a0_2 ρ γ := by
  intro ρ γ hJ h
  obtain ⟨ha, hg, hr, hf, hm, hc, hl⟩ := h
  have ha : a = [ρ 0, ρ 1, ρ 2, ρ 3, ρ 4, ρ 5] := ha
  subst ha
  subst hg
  have hJ : jn237 [ρ 0, ρ 1, ρ 2, ρ 3, ρ 4, ρ 5] (γ 0) 0 [ρ 0, ρ 1, ρ 2, ρ 3, ρ 4, ρ 5, ρ 6, ρ 7] (γ 1) := hJ
  have r8 : (1 : Int) ≤ ρ 8 ∧ ρ 8 ≤ 1 := zRnA hr 8
  have f0 : (0 : Int) ≤ -ρ 6 + ρ 4 + (-1) := zAllA hf 0
  obtain ⟨w_0, w_1⟩ : (¬ (ρ 6 ≥ ρ 4)) ∧ (¬ (ρ 8 = 0)) := ⟨by omega, by omega⟩
  have m0 : γ 0 10 (ρ 0) 8 = ρ 2 := zAllA hm 0
  have m2 : γ 0 5 0 3 = ρ 4 := zAllA hm 2
  have m3 : γ 0 10 (ρ 0) 13 = ρ 5 := zAllA hm 3
  have m5 : γ 0 36 0 (ρ 6) = ρ 8 := zAllA hm 5
  have m6 : γ 0 35 0 (ρ 6) = ρ 9 := zAllA hm 6
  have c3 : γ 3 = rUp (γ 2) 33 0 (ρ 5) (ρ 9) := And.right (zChA hc 1)
  have l0 : γ 2 = zCpy (γ 1) 34 0 (4 * ρ 6) 33 0 0 4 := zAllA hl 0
  have l1 : sn233 [ρ 2, 0, ρ 1, ρ 7] (γ 3) 0 0 (γ 4) := hS233 _ _ _ _ _ (zAllA hl 1)
  show jn237 [ρ 0, ρ 1, ρ 2, ρ 3, ρ 4, ρ 5] (γ 0) 0 [ρ 0, ρ 1, ρ 2, ρ 3, ρ 4, ρ 5, ρ 6 + 1, ρ 7] (γ 4)
  have hD : en237 (γ 0) (0, [ρ 0, ρ 1, ρ 6], γ 1) = .inl (0, [ρ 0, ρ 1, ρ 6 + 1], γ 4) := by
    unfold en237
    refine zIP (show (0 : Nat) = 0 by decide) (zLV (γ 1) rfl (zLV (ρ 0) rfl (zLV (ρ 1) rfl (zLV (ρ 6) rfl (zLE m0 (zLE m2 (zLE m3 ?_)))))))
    refine zIN w_0 (zLE m5 (zIN w_1 (zLE l0.symm (zLE m6 (zLE c3.symm (zLE (show fn233 [ρ 2, 0, ρ 1] (γ 3) = (0, 0, γ 4) from l1.symm) (zLV (γ 4) rfl ?_)))))))
    refine zIP (show (0 : Nat) = 0 by decide) ?_
    rfl
  exact zGoo_ato hJ hD
theorem vn237a0_3 {S : Nat → zSpc} (hS233 : zIm S 233 sn233) {a : List Int} {g : rHp} : ∀ (ρ : Nat → Int) (γ : Nat → rHp), jn237 a g 0 (zAg (zNA a237_ 0) ρ) (γ 1) → zO 6 S a g q237a0_3 ρ γ → zGl (fun i vs g1 => jn237 a g i vs g1) (sn237 a g) q237a0_3 ρ γ := by
  intro ρ γ hJ h
  obtain ⟨ha, hg, hr, hf, hm, hc, hl⟩ := h
  have ha : a = [ρ 0, ρ 1, ρ 2, ρ 3, ρ 4, ρ 5] := ha
  subst ha
  subst hg
  have hJ : jn237 [ρ 0, ρ 1, ρ 2, ρ 3, ρ 4, ρ 5] (γ 0) 0 [ρ 0, ρ 1, ρ 2, ρ 3, ρ 4, ρ 5, ρ 6, ρ 7] (γ 1) := hJ
  have r8 : (1 : Int) ≤ ρ 8 ∧ ρ 8 ≤ 1 := zRnA hr 8
  have f0 : (0 : Int) ≤ -ρ 6 + ρ 4 + (-1) := zAllA hf 0
  obtain ⟨w_0, w_1⟩ : (¬ (ρ 6 ≥ ρ 4)) ∧ (¬ (ρ 8 = 0)) := ⟨by omega, by omega⟩
  have m0 : γ 0 10 (ρ 0) 8 = ρ 2 := zAllA hm 0
  have m2 : γ 0 5 0 3 = ρ 4 := zAllA hm 2
  have m3 : γ 0 10 (ρ 0) 13 = ρ 5 := zAllA hm 3
  have m5 : γ 0 36 0 (ρ 6) = ρ 8 := zAllA hm 5
  have m6 : γ 0 35 0 (ρ 6) = ρ 9 := zAllA hm 6
  have c3 : γ 3 = rUp (γ 2) 33 0 (ρ 5) (ρ 9) := And.right (zChA hc 1)
  have l0 : γ 2 = zCpy (γ 1) 34 0 (4 * ρ 6) 33 0 0 4 := zAllA hl 0
  have l1 : sn233 [ρ 2, 0, ρ 1, ρ 7] (γ 3) 0 1 (γ 4) := hS233 _ _ _ _ _ (zAllA hl 1)
  show jn237 [ρ 0, ρ 1, ρ 2, ρ 3, ρ 4, ρ 5] (γ 0) 0 [ρ 0, ρ 1, ρ 2, ρ 3, ρ 4, ρ 5, ρ 6 + 1, ρ 7 + 1] (γ 4)
  have hD : en237 (γ 0) (0, [ρ 0, ρ 1, ρ 6], γ 1) = .inl (0, [ρ 0, ρ 1, ρ 6 + 1], γ 4) := by
    unfold en237
    refine zIP (show (0 : Nat) = 0 by decide) (zLV (γ 1) rfl (zLV (ρ 0) rfl (zLV (ρ 1) rfl (zLV (ρ 6) rfl (zLE m0 (zLE m2 (zLE m3 ?_)))))))
    refine zIN w_0 (zLE m5 (zIN w_1 (zLE l0.symm (zLE m6 (zLE c3.symm (zLE (show fn233 [ρ 2, 0, ρ 1] (γ 3) = (0, 1, γ 4) from l1.symm) (zLV (γ 4) rfl ?_)))))))
    refine zIP (show (0 : Nat) = 0 by decide) ?_
    rfl
  exact zGoo_ato hJ hD
theorem vn237a0_4 {S : Nat → zSpc} (hS233 : zIm S 233 sn233) {a : List Int} {g : rHp} : ∀ (ρ : Nat → Int) (γ : Nat → rHp), jn237 a g 0 (zAg (zNA a237_ 0) ρ) (γ 1) → zO 6 S a g q237a0_4 ρ γ → zGl (fun i vs g1 => jn237 a g i vs g1) (sn237 a g) q237a0_4 ρ γ := by
  intro ρ γ hJ h
  obtain ⟨ha, hg, hr, hf, hm, hc, hl⟩ := h
  have ha : a = [ρ 0, ρ 1, ρ 2, ρ 3, ρ 4, ρ 5] := ha
  subst ha
  subst hg
  have hJ : jn237 [ρ 0, ρ 1, ρ 2, ρ 3, ρ 4, ρ 5] (γ 0) 0 [ρ 0, ρ 1, ρ 2, ρ 3, ρ 4, ρ 5, ρ 6, ρ 7] (γ 1) := hJ
  have r8 : (1 : Int) ≤ ρ 8 ∧ ρ 8 ≤ 1 := zRnA hr 8
  have f0 : (0 : Int) ≤ -ρ 6 + ρ 4 + (-1) := zAllA hf 0
  obtain ⟨w_0, w_1⟩ : (¬ (ρ 6 ≥ ρ 4)) ∧ (¬ (ρ 8 = 0)) := ⟨by omega, by omega⟩
  have m0 : γ 0 10 (ρ 0) 8 = ρ 2 := zAllA hm 0
  have m2 : γ 0 5 0 3 = ρ 4 := zAllA hm 2
  have m3 : γ 0 10 (ρ 0) 13 = ρ 5 := zAllA hm 3
  have m5 : γ 0 36 0 (ρ 6) = ρ 8 := zAllA hm 5
  have m6 : γ 0 35 0 (ρ 6) = ρ 9 := zAllA hm 6
  have c3 : γ 3 = rUp (γ 2) 33 0 (ρ 5) (ρ 9) := And.right (zChA hc 1)
  have l0 : γ 2 = zCpy (γ 1) 34 0 (4 * ρ 6) 33 0 0 4 := zAllA hl 0
  have l1 : sn233 [ρ 2, 0, ρ 1, ρ 7] (γ 3) 1 0 (γ 4) := hS233 _ _ _ _ _ (zAllA hl 1)
  show sn237 [ρ 0, ρ 1, ρ 2, ρ 3, ρ 4, ρ 5] (γ 0) 1 0 (γ 4)
  have hD : en237 (γ 0) (0, [ρ 0, ρ 1, ρ 6], γ 1) = .inr (1, 0, γ 4) := by
    unfold en237
    refine zIP (show (0 : Nat) = 0 by decide) (zLV (γ 1) rfl (zLV (ρ 0) rfl (zLV (ρ 1) rfl (zLV (ρ 6) rfl (zLE m0 (zLE m2 (zLE m3 ?_)))))))
    refine zIN w_0 (zLE m5 (zIN w_1 (zLE l0.symm (zLE m6 (zLE c3.symm (zLE (show fn233 [ρ 2, 0, ρ 1] (γ 3) = (1, 0, γ 4) from l1.symm) (zLV (γ 4) rfl ?_)))))))
    refine zIN (show ¬ (1 : Nat) = 0 by decide) ?_
    rfl
  exact zGoo_aend hJ hD
theorem yn237 {S : Nat → zSpc} (hS233 : zIm S 233 sn233) : ∀ x g o v gz, zSem uW uT w237_.2.2.2.1 w237_.2.2.1.1.length S q237 (fun i => q237a.getD i []) (zNA a237_) x g o v gz → sn237 x g o v gz := by
  intro a g o v gz h
  exact zSem_all (l0 := q237) (las := q237a) (S := S) (J := (fun i vs g1 => jn237 a g i vs g1)) (P := sn237 a g) (fun _ => (show zAll _ [q237_0] from (zAll_c (vn237_0 hS233) zAll_n))) (fun _ => (show zAllI _ 0 [q237a0] from ⟨(show zAll _ [q237a0_0, q237a0_1, q237a0_2, q237a0_3, q237a0_4] from (zAll_c (vn237a0_0 hS233) (zAll_c (vn237a0_1 hS233) (zAll_c (vn237a0_2 hS233) (zAll_c (vn237a0_3 hS233) (zAll_c (vn237a0_4 hS233) zAll_n)))))), trivial⟩)) h
theorem vn238_0 {S : Nat → zSpc}  {a : List Int} {g : rHp} : ∀ (ρ : Nat → Int) (γ : Nat → rHp), zO 10 S a g q238_0 ρ γ → zGl (fun _ _ _ => True) (sn238 a g) q238_0 ρ γ := by
  intro ρ γ h
  obtain ⟨ha, hg, hr, hf, hm, hc, hl⟩ := h
  have ha : a = [ρ 0, ρ 1, ρ 2, ρ 3, ρ 4, ρ 5, ρ 6, ρ 7, ρ 8, ρ 9] := ha
  subst ha
  subst hg
  have c1 : γ 1 = rUp (γ 0) 6 0 9 0 := And.right (zChA hc 4)
  have c2 : γ 2 = rUp (γ 1) 6 0 10 (ρ 0) := And.right (zChA hc 3)
  have c3 : γ 3 = rUp (γ 2) 6 0 7 (ρ 1) := And.right (zChA hc 2)
  have c4 : γ 4 = rUp (γ 3) 6 0 8 (ρ 2) := And.right (zChA hc 1)
  have c5 : γ 5 = rUp (γ 4) 6 0 13 0 := And.right (zChA hc 0)
  show sn238 [ρ 0, ρ 1, ρ 2, ρ 3, ρ 4, ρ 5, ρ 6, ρ 7, ρ 8, ρ 9] (γ 0) 0 0 (γ 5)
  refine Eq.symm ?_
  show fn238 [ρ 0, ρ 1, ρ 2] (γ 0) = _
  unfold fn238
  refine zLV (ρ 0) rfl (zLV (ρ 1) rfl (zLV (ρ 2) rfl (zLE c1.symm (zLE c2.symm (zLE c3.symm (zLE c4.symm (zLE c5.symm ?_)))))))
  rfl
theorem yn238 {S : Nat → zSpc}  : ∀ x g o v gz, zSem uW uT w238_.2.2.2.1 w238_.2.2.1.1.length S q238 (fun i => q238a.getD i []) (zNA a238_) x g o v gz → sn238 x g o v gz := by
  intro a g o v gz h
  exact zSem_all (l0 := q238) (las := q238a) (S := S) (J := (fun _ _ _ => True)) (P := sn238 a g) (fun _ => (show zAll _ [q238_0] from (zAll_c (vn238_0 ) zAll_n))) (fun _ => (show zAllI _ 0 [] from trivial)) h
theorem vn239_0 {S : Nat → zSpc}  {a : List Int} {g : rHp} : ∀ (ρ : Nat → Int) (γ : Nat → rHp), zO 10 S a g q239_0 ρ γ → zGl (fun _ _ _ => True) (sn239 a g) q239_0 ρ γ := by
  intro ρ γ h
  obtain ⟨ha, hg, hr, hf, hm, hc, hl⟩ := h
  have ha : a = [ρ 0, ρ 1, ρ 2, ρ 3, ρ 4, ρ 5, ρ 6, ρ 7, ρ 8, ρ 9] := ha
  subst ha
  subst hg
  have c1 : γ 1 = rUp (γ 0) 6 0 9 1 := And.right (zChA hc 4)
  have c2 : γ 2 = rUp (γ 1) 6 0 10 (ρ 0) := And.right (zChA hc 3)
  have c3 : γ 3 = rUp (γ 2) 6 0 7 (ρ 1) := And.right (zChA hc 2)
  have c4 : γ 4 = rUp (γ 3) 6 0 8 (ρ 2) := And.right (zChA hc 1)
  have c5 : γ 5 = rUp (γ 4) 6 0 13 0 := And.right (zChA hc 0)
  show sn239 [ρ 0, ρ 1, ρ 2, ρ 3, ρ 4, ρ 5, ρ 6, ρ 7, ρ 8, ρ 9] (γ 0) 0 0 (γ 5)
  refine Eq.symm ?_
  show fn239 [ρ 0, ρ 1, ρ 2] (γ 0) = _
  unfold fn239
  refine zLV (ρ 0) rfl (zLV (ρ 1) rfl (zLV (ρ 2) rfl (zLE c1.symm (zLE c2.symm (zLE c3.symm (zLE c4.symm (zLE c5.symm ?_)))))))
  rfl
theorem yn239 {S : Nat → zSpc}  : ∀ x g o v gz, zSem uW uT w239_.2.2.2.1 w239_.2.2.1.1.length S q239 (fun i => q239a.getD i []) (zNA a239_) x g o v gz → sn239 x g o v gz := by
  intro a g o v gz h
  exact zSem_all (l0 := q239) (las := q239a) (S := S) (J := (fun _ _ _ => True)) (P := sn239 a g) (fun _ => (show zAll _ [q239_0] from (zAll_c (vn239_0 ) zAll_n))) (fun _ => (show zAllI _ 0 [] from trivial)) h
theorem vn240_0 {S : Nat → zSpc}  {a : List Int} {g : rHp} : ∀ (ρ : Nat → Int) (γ : Nat → rHp), zO 10 S a g q240_0 ρ γ → zGl (fun _ _ _ => True) (sn240 a g) q240_0 ρ γ := by
  intro ρ γ h
  obtain ⟨ha, hg, hr, hf, hm, hc, hl⟩ := h
  have ha : a = [ρ 0, ρ 1, ρ 2, ρ 3, ρ 4, ρ 5, ρ 6, ρ 7, ρ 8, ρ 9] := ha
  subst ha
  subst hg
  have c1 : γ 1 = rUp (γ 0) 6 0 9 1 := And.right (zChA hc 4)
  have c2 : γ 2 = rUp (γ 1) 6 0 10 (ρ 0) := And.right (zChA hc 3)
  have c3 : γ 3 = rUp (γ 2) 6 0 7 (ρ 1) := And.right (zChA hc 2)
  have c4 : γ 4 = rUp (γ 3) 6 0 8 (ρ 2) := And.right (zChA hc 1)
  have c5 : γ 5 = rUp (γ 4) 6 0 13 0 := And.right (zChA hc 0)
  show sn240 [ρ 0, ρ 1, ρ 2, ρ 3, ρ 4, ρ 5, ρ 6, ρ 7, ρ 8, ρ 9] (γ 0) 0 0 (γ 5)
  refine Eq.symm ?_
  show fn240 [ρ 0, ρ 1, ρ 2] (γ 0) = _
  unfold fn240
  refine zLV (ρ 0) rfl (zLV (ρ 1) rfl (zLV (ρ 2) rfl (zLE c1.symm (zLE c2.symm (zLE c3.symm (zLE c4.symm (zLE c5.symm ?_)))))))
  rfl
theorem yn240 {S : Nat → zSpc}  : ∀ x g o v gz, zSem uW uT w240_.2.2.2.1 w240_.2.2.1.1.length S q240 (fun i => q240a.getD i []) (zNA a240_) x g o v gz → sn240 x g o v gz := by
  intro a g o v gz h
  exact zSem_all (l0 := q240) (las := q240a) (S := S) (J := (fun _ _ _ => True)) (P := sn240 a g) (fun _ => (show zAll _ [q240_0] from (zAll_c (vn240_0 ) zAll_n))) (fun _ => (show zAllI _ 0 [] from trivial)) h
theorem vn242_0 {S : Nat → zSpc}  {a : List Int} {g : rHp} : ∀ (ρ : Nat → Int) (γ : Nat → rHp), zO 2 S a g q242_0 ρ γ → zGl (fun _ _ _ => True) (sn242 a g) q242_0 ρ γ := by
  intro ρ γ h
  obtain ⟨ha, hg, hr, hf, hm, hc, hl⟩ := h
  have ha : a = [ρ 0, ρ 1] := ha
  subst ha
  subst hg
  have r1 : (100 : Int) ≤ ρ 1 ∧ ρ 1 ≤ 50000 := zRnA hr 1
  have w_0 : ρ 1 ≥ 100 := by omega
  have m0 : γ 0 8 (ρ 0) 1 = ρ 1 := zAllA hm 0
  have c1 : γ 1 = rUp (γ 0) 8 (ρ 0) 1 (ρ 1 + 1) := And.right (zChA hc 0)
  show sn242 [ρ 0, ρ 1] (γ 0) 0 0 (γ 1)
  refine Eq.symm ?_
  show fn242 [ρ 0] (γ 0) = _
  unfold fn242
  refine zLV (ρ 0) rfl (zLE m0 (zIP w_0 (zLE c1.symm ?_)))
  rfl
theorem vn242_1 {S : Nat → zSpc}  {a : List Int} {g : rHp} : ∀ (ρ : Nat → Int) (γ : Nat → rHp), zO 2 S a g q242_1 ρ γ → zGl (fun _ _ _ => True) (sn242 a g) q242_1 ρ γ := by
  intro ρ γ h
  obtain ⟨ha, hg, hr, hf, hm, hc, hl⟩ := h
  have ha : a = [ρ 0, ρ 1] := ha
  subst ha
  subst hg
  have r1 : (0 : Int) ≤ ρ 1 ∧ ρ 1 ≤ 99 := zRnA hr 1
  have w_0 : ¬ (ρ 1 ≥ 100) := by omega
  have m0 : γ 0 8 (ρ 0) 1 = ρ 1 := zAllA hm 0
  have c2 : γ 2 = rUp (γ 1) 8 (ρ 0) 1 (ρ 1 + 1) := And.right (zChA hc 0)
  have l0 : γ 1 = zCpy (γ 0) 37 0 0 41 (ρ 0) (8 * ρ 1) 8 := zAllA hl 0
  show sn242 [ρ 0, ρ 1] (γ 0) 0 0 (γ 2)
  refine Eq.symm ?_
  show fn242 [ρ 0] (γ 0) = _
  unfold fn242
  refine zLV (ρ 0) rfl (zLE m0 (zIN w_0 (zLE l0.symm (zLE c2.symm ?_))))
  rfl
theorem yn242 {S : Nat → zSpc}  : ∀ x g o v gz, zSem uW uT w242_.2.2.2.1 w242_.2.2.1.1.length S q242 (fun i => q242a.getD i []) (zNA a242_) x g o v gz → sn242 x g o v gz := by
  intro a g o v gz h
  exact zSem_all (l0 := q242) (las := q242a) (S := S) (J := (fun _ _ _ => True)) (P := sn242 a g) (fun _ => (show zAll _ [q242_0, q242_1] from (zAll_c (vn242_0 ) (zAll_c (vn242_1 ) zAll_n)))) (fun _ => (show zAllI _ 0 [] from trivial)) h
theorem vn243_0 {S : Nat → zSpc} (hS216 : zIm S 216 sn216) (hS217 : zIm S 217 sn217) (hS218 : zIm S 218 sn218) (hS219 : zIm S 219 sn219) (hS220 : zIm S 220 sn220) {a : List Int} {g : rHp} : ∀ (ρ : Nat → Int) (γ : Nat → rHp), zO 5 S a g q243_0 ρ γ → zGl (fun _ _ _ => True) (sn243 a g) q243_0 ρ γ := by
  intro ρ γ h
  obtain ⟨ha, hg, hr, hf, hm, hc, hl⟩ := h
  have ha : a = [ρ 0, ρ 1, ρ 2, ρ 3, ρ 4] := ha
  subst ha
  subst hg
  have r3 : (4 : Int) ≤ ρ 3 ∧ ρ 3 ≤ 4 := zRnA hr 3
  have r5 : (0 : Int) ≤ ρ 5 ∧ ρ 5 ≤ 1999 := zRnA hr 5
  obtain ⟨w_0, w_1, w_2, w_3⟩ : (ρ 5 ≥ 0) ∧ (ρ 3 ≠ 1) ∧ (ρ 3 ≠ 2) ∧ (ρ 3 ≠ 3) := ⟨by omega, by omega, by omega, by omega⟩
  have m1 : γ 0 6 0 7 = ρ 1 := zAllA hm 1
  have m3 : γ 0 10 (9 * ρ 1) 12 = ρ 3 := zAllA hm 3
  have m4 : γ 0 10 (9 * ρ 1) 14 = ρ 4 := zAllA hm 4
  have m6 : γ 0 37 0 (ρ 4) = ρ 7 := zAllA hm 6
  have l0 : sn216 [ρ 2] (γ 0) 0 (ρ 5) (γ 1) := hS216 _ _ _ _ _ (zAllA hl 0)
  have l1 : sn220 [ρ 5, ρ 7] (γ 1) 0 0 (γ 2) := hS220 _ _ _ _ _ (zAllA hl 1)
  show sn243 [ρ 0, ρ 1, ρ 2, ρ 3, ρ 4] (γ 0) 0 0 (γ 2)
  refine Eq.symm ?_
  show fn243 [] (γ 0) = _
  unfold fn243
  refine zLE m1 (zLE m3 (zLE m4 (zLE (show fn216 [] (γ 0) = (0, ρ 5, γ 1) from l0.symm) (zLV (γ 1) rfl (zLV (ρ 5) rfl (zIP w_0 (zIP w_1 ?_)))))))
  refine zLE m6 (zIP w_2 (zIP w_3 (zLE (show fn220 [ρ 5, ρ 7] (γ 1) = (0, 0, γ 2) from l1.symm) (zLV (γ 2) rfl ?_))))
  rfl
theorem vn243_1 {S : Nat → zSpc} (hS216 : zIm S 216 sn216) (hS217 : zIm S 217 sn217) (hS218 : zIm S 218 sn218) (hS219 : zIm S 219 sn219) (hS220 : zIm S 220 sn220) {a : List Int} {g : rHp} : ∀ (ρ : Nat → Int) (γ : Nat → rHp), zO 5 S a g q243_1 ρ γ → zGl (fun _ _ _ => True) (sn243 a g) q243_1 ρ γ := by
  intro ρ γ h
  obtain ⟨ha, hg, hr, hf, hm, hc, hl⟩ := h
  have ha : a = [ρ 0, ρ 1, ρ 2, ρ 3, ρ 4] := ha
  subst ha
  subst hg
  have r3 : (3 : Int) ≤ ρ 3 ∧ ρ 3 ≤ 3 := zRnA hr 3
  have r5 : (0 : Int) ≤ ρ 5 ∧ ρ 5 ≤ 1999 := zRnA hr 5
  obtain ⟨w_0, w_1, w_2, w_3⟩ : (ρ 5 ≥ 0) ∧ (ρ 3 ≠ 1) ∧ (ρ 3 ≠ 2) ∧ (¬ (ρ 3 ≠ 3)) := ⟨by omega, by omega, by omega, by omega⟩
  have m1 : γ 0 6 0 7 = ρ 1 := zAllA hm 1
  have m3 : γ 0 10 (9 * ρ 1) 12 = ρ 3 := zAllA hm 3
  have m4 : γ 0 10 (9 * ρ 1) 14 = ρ 4 := zAllA hm 4
  have m6 : γ 0 37 0 (ρ 4) = ρ 7 := zAllA hm 6
  have l0 : sn216 [ρ 2] (γ 0) 0 (ρ 5) (γ 1) := hS216 _ _ _ _ _ (zAllA hl 0)
  have l1 : sn219 [ρ 5, ρ 7] (γ 1) 0 0 (γ 2) := hS219 _ _ _ _ _ (zAllA hl 1)
  show sn243 [ρ 0, ρ 1, ρ 2, ρ 3, ρ 4] (γ 0) 0 0 (γ 2)
  refine Eq.symm ?_
  show fn243 [] (γ 0) = _
  unfold fn243
  refine zLE m1 (zLE m3 (zLE m4 (zLE (show fn216 [] (γ 0) = (0, ρ 5, γ 1) from l0.symm) (zLV (γ 1) rfl (zLV (ρ 5) rfl (zIP w_0 (zIP w_1 ?_)))))))
  refine zLE m6 (zIP w_2 (zIN w_3 (zLE (show fn219 [ρ 5, ρ 7] (γ 1) = (0, 0, γ 2) from l1.symm) (zLV (γ 2) rfl ?_))))
  rfl
theorem vn243_2 {S : Nat → zSpc} (hS216 : zIm S 216 sn216) (hS217 : zIm S 217 sn217) (hS218 : zIm S 218 sn218) (hS219 : zIm S 219 sn219) (hS220 : zIm S 220 sn220) {a : List Int} {g : rHp} : ∀ (ρ : Nat → Int) (γ : Nat → rHp), zO 5 S a g q243_2 ρ γ → zGl (fun _ _ _ => True) (sn243 a g) q243_2 ρ γ := by
  intro ρ γ h
  obtain ⟨ha, hg, hr, hf, hm, hc, hl⟩ := h
  have ha : a = [ρ 0, ρ 1, ρ 2, ρ 3, ρ 4] := ha
  subst ha
  subst hg
  have r3 : (2 : Int) ≤ ρ 3 ∧ ρ 3 ≤ 2 := zRnA hr 3
  have r5 : (0 : Int) ≤ ρ 5 ∧ ρ 5 ≤ 1999 := zRnA hr 5
  obtain ⟨w_0, w_1, w_2⟩ : (ρ 5 ≥ 0) ∧ (ρ 3 ≠ 1) ∧ (¬ (ρ 3 ≠ 2)) := ⟨by omega, by omega, by omega⟩
  have m1 : γ 0 6 0 7 = ρ 1 := zAllA hm 1
  have m3 : γ 0 10 (9 * ρ 1) 12 = ρ 3 := zAllA hm 3
  have m4 : γ 0 10 (9 * ρ 1) 14 = ρ 4 := zAllA hm 4
  have m6 : γ 0 37 0 (ρ 4) = ρ 7 := zAllA hm 6
  have l0 : sn216 [ρ 2] (γ 0) 0 (ρ 5) (γ 1) := hS216 _ _ _ _ _ (zAllA hl 0)
  have l1 : sn218 [ρ 5, ρ 7] (γ 1) 0 0 (γ 2) := hS218 _ _ _ _ _ (zAllA hl 1)
  show sn243 [ρ 0, ρ 1, ρ 2, ρ 3, ρ 4] (γ 0) 0 0 (γ 2)
  refine Eq.symm ?_
  show fn243 [] (γ 0) = _
  unfold fn243
  refine zLE m1 (zLE m3 (zLE m4 (zLE (show fn216 [] (γ 0) = (0, ρ 5, γ 1) from l0.symm) (zLV (γ 1) rfl (zLV (ρ 5) rfl (zIP w_0 (zIP w_1 ?_)))))))
  refine zLE m6 (zIN w_2 (zLE (show fn218 [ρ 5, ρ 7] (γ 1) = (0, 0, γ 2) from l1.symm) (zLV (γ 2) rfl ?_)))
  rfl
theorem vn243_3 {S : Nat → zSpc} (hS216 : zIm S 216 sn216) (hS217 : zIm S 217 sn217) (hS218 : zIm S 218 sn218) (hS219 : zIm S 219 sn219) (hS220 : zIm S 220 sn220) {a : List Int} {g : rHp} : ∀ (ρ : Nat → Int) (γ : Nat → rHp), zO 5 S a g q243_3 ρ γ → zGl (fun _ _ _ => True) (sn243 a g) q243_3 ρ γ := by
  intro ρ γ h
  obtain ⟨ha, hg, hr, hf, hm, hc, hl⟩ := h
  have ha : a = [ρ 0, ρ 1, ρ 2, ρ 3, ρ 4] := ha
  subst ha
  subst hg
  have r3 : (1 : Int) ≤ ρ 3 ∧ ρ 3 ≤ 1 := zRnA hr 3
  have r5 : (0 : Int) ≤ ρ 5 ∧ ρ 5 ≤ 1999 := zRnA hr 5
  obtain ⟨w_0, w_1⟩ : (ρ 5 ≥ 0) ∧ (¬ (ρ 3 ≠ 1)) := ⟨by omega, by omega⟩
  have m1 : γ 0 6 0 7 = ρ 1 := zAllA hm 1
  have m3 : γ 0 10 (9 * ρ 1) 12 = ρ 3 := zAllA hm 3
  have m4 : γ 0 10 (9 * ρ 1) 14 = ρ 4 := zAllA hm 4
  have l0 : sn216 [ρ 2] (γ 0) 0 (ρ 5) (γ 1) := hS216 _ _ _ _ _ (zAllA hl 0)
  have l1 : sn217 [ρ 5] (γ 1) 0 0 (γ 2) := hS217 _ _ _ _ _ (zAllA hl 1)
  show sn243 [ρ 0, ρ 1, ρ 2, ρ 3, ρ 4] (γ 0) 0 0 (γ 2)
  refine Eq.symm ?_
  show fn243 [] (γ 0) = _
  unfold fn243
  refine zLE m1 (zLE m3 (zLE m4 (zLE (show fn216 [] (γ 0) = (0, ρ 5, γ 1) from l0.symm) (zLV (γ 1) rfl (zLV (ρ 5) rfl (zIP w_0 (zIN w_1 ?_)))))))
  refine zLE (show fn217 [ρ 5] (γ 1) = (0, 0, γ 2) from l1.symm) (zLV (γ 2) rfl ?_)
  rfl
theorem vn243_4 {S : Nat → zSpc} (hS216 : zIm S 216 sn216) (hS217 : zIm S 217 sn217) (hS218 : zIm S 218 sn218) (hS219 : zIm S 219 sn219) (hS220 : zIm S 220 sn220) {a : List Int} {g : rHp} : ∀ (ρ : Nat → Int) (γ : Nat → rHp), zO 5 S a g q243_4 ρ γ → zGl (fun _ _ _ => True) (sn243 a g) q243_4 ρ γ := by
  intro ρ γ h
  obtain ⟨ha, hg, hr, hf, hm, hc, hl⟩ := h
  have ha : a = [ρ 0, ρ 1, ρ 2, ρ 3, ρ 4] := ha
  subst ha
  subst hg
  have r5 : ((-1) : Int) ≤ ρ 5 ∧ ρ 5 ≤ (-1) := zRnA hr 5
  have w_0 : ¬ (ρ 5 ≥ 0) := by omega
  have m1 : γ 0 6 0 7 = ρ 1 := zAllA hm 1
  have m3 : γ 0 10 (9 * ρ 1) 12 = ρ 3 := zAllA hm 3
  have m4 : γ 0 10 (9 * ρ 1) 14 = ρ 4 := zAllA hm 4
  have l0 : sn216 [ρ 2] (γ 0) 0 (ρ 5) (γ 1) := hS216 _ _ _ _ _ (zAllA hl 0)
  show sn243 [ρ 0, ρ 1, ρ 2, ρ 3, ρ 4] (γ 0) 1 0 (γ 1)
  refine Eq.symm ?_
  show fn243 [] (γ 0) = _
  unfold fn243
  refine zLE m1 (zLE m3 (zLE m4 (zLE (show fn216 [] (γ 0) = (0, ρ 5, γ 1) from l0.symm) (zLV (γ 1) rfl (zLV (ρ 5) rfl (zIN w_0 ?_))))))
  rfl
theorem yn243 {S : Nat → zSpc} (hS216 : zIm S 216 sn216) (hS217 : zIm S 217 sn217) (hS218 : zIm S 218 sn218) (hS219 : zIm S 219 sn219) (hS220 : zIm S 220 sn220) : ∀ x g o v gz, zSem uW uT w243_.2.2.2.1 w243_.2.2.1.1.length S q243 (fun i => q243a.getD i []) (zNA a243_) x g o v gz → sn243 x g o v gz := by
  intro a g o v gz h
  exact zSem_all (l0 := q243) (las := q243a) (S := S) (J := (fun _ _ _ => True)) (P := sn243 a g) (fun _ => (show zAll _ [q243_0, q243_1, q243_2, q243_3, q243_4] from (zAll_c (vn243_0 hS216 hS217 hS218 hS219 hS220) (zAll_c (vn243_1 hS216 hS217 hS218 hS219 hS220) (zAll_c (vn243_2 hS216 hS217 hS218 hS219 hS220) (zAll_c (vn243_3 hS216 hS217 hS218 hS219 hS220) (zAll_c (vn243_4 hS216 hS217 hS218 hS219 hS220) zAll_n))))))) (fun _ => (show zAllI _ 0 [] from trivial)) h
theorem vn244_0 {S : Nat → zSpc} (hS224 : zIm S 224 sn224) (hS233 : zIm S 233 sn233) (hS242 : zIm S 242 sn242) (hS243 : zIm S 243 sn243) {a : List Int} {g : rHp} : ∀ (ρ : Nat → Int) (γ : Nat → rHp), zO 14 S a g q244_0 ρ γ → zGl (fun i vs g1 => jn244 a g i vs g1) (sn244 a g) q244_0 ρ γ := by
  intro ρ γ h
  obtain ⟨ha, hg, hr, hf, hm, hc, hl⟩ := h
  have ha : a = [ρ 0, ρ 1, ρ 2, ρ 3, ρ 4, ρ 5, ρ 6, ρ 7, ρ 8, ρ 9, ρ 10, ρ 11, ρ 12, ρ 13] := ha
  subst ha
  subst hg
  have r1 : (0 : Int) ≤ ρ 1 ∧ ρ 1 ≤ 1 := zRnA hr 1
  have w_0 : ρ 1 ≠ 2 := by omega
  have m1 : γ 0 6 0 9 = ρ 1 := zAllA hm 1
  have m2 : γ 0 6 0 6 = ρ 2 := zAllA hm 2
  show jn244 [ρ 0, ρ 1, ρ 2, ρ 3, ρ 4, ρ 5, ρ 6, ρ 7, ρ 8, ρ 9, ρ 10, ρ 11, ρ 12, ρ 13] (γ 0) 0 [ρ 0, ρ 1, ρ 2, ρ 3, ρ 4, ρ 5, ρ 6, ρ 7, ρ 8, ρ 9, ρ 10, ρ 11, ρ 12, ρ 13, 0] (γ 0)
  have hD : dn244 [] (γ 0) = .inl (0, [0], γ 0) := by
    unfold dn244
    refine zLE m1 (zLE m2 (zIP w_0 ?_))
    rfl
  exact zGoo_to hD
theorem vn244_1 {S : Nat → zSpc} (hS224 : zIm S 224 sn224) (hS233 : zIm S 233 sn233) (hS242 : zIm S 242 sn242) (hS243 : zIm S 243 sn243) {a : List Int} {g : rHp} : ∀ (ρ : Nat → Int) (γ : Nat → rHp), zO 14 S a g q244_1 ρ γ → zGl (fun i vs g1 => jn244 a g i vs g1) (sn244 a g) q244_1 ρ γ := by
  intro ρ γ h
  obtain ⟨ha, hg, hr, hf, hm, hc, hl⟩ := h
  have ha : a = [ρ 0, ρ 1, ρ 2, ρ 3, ρ 4, ρ 5, ρ 6, ρ 7, ρ 8, ρ 9, ρ 10, ρ 11, ρ 12, ρ 13] := ha
  subst ha
  subst hg
  have r1 : (2 : Int) ≤ ρ 1 ∧ ρ 1 ≤ 2 := zRnA hr 1
  have w_0 : ¬ (ρ 1 ≠ 2) := by omega
  have m1 : γ 0 6 0 9 = ρ 1 := zAllA hm 1
  have m2 : γ 0 6 0 6 = ρ 2 := zAllA hm 2
  have l0 : sn242 [ρ 2, ρ 3] (γ 0) 0 0 (γ 1) := hS242 _ _ _ _ _ (zAllA hl 0)
  show sn244 [ρ 0, ρ 1, ρ 2, ρ 3, ρ 4, ρ 5, ρ 6, ρ 7, ρ 8, ρ 9, ρ 10, ρ 11, ρ 12, ρ 13] (γ 0) 0 0 (γ 1)
  have hD : dn244 [] (γ 0) = .inr (0, 0, γ 1) := by
    unfold dn244
    refine zLE m1 (zLE m2 (zIN w_0 (zLE (show fn242 [ρ 2] (γ 0) = (0, 0, γ 1) from l0.symm) (zLV (γ 1) rfl ?_))))
    rfl
  exact zGoo_end hD
theorem vn244a0_0 {S : Nat → zSpc} (hS224 : zIm S 224 sn224) (hS233 : zIm S 233 sn233) (hS242 : zIm S 242 sn242) (hS243 : zIm S 243 sn243) {a : List Int} {g : rHp} : ∀ (ρ : Nat → Int) (γ : Nat → rHp), jn244 a g 0 (zAg (zNA a244_ 0) ρ) (γ 1) → zO 14 S a g q244a0_0 ρ γ → zGl (fun i vs g1 => jn244 a g i vs g1) (sn244 a g) q244a0_0 ρ γ := by
  intro ρ γ hJ h
  obtain ⟨ha, hg, hr, hf, hm, hc, hl⟩ := h
  have ha : a = [ρ 0, ρ 1, ρ 2, ρ 3, ρ 4, ρ 5, ρ 6, ρ 7, ρ 8, ρ 9, ρ 10, ρ 11, ρ 12, ρ 13] := ha
  subst ha
  subst hg
  have hJ : jn244 [ρ 0, ρ 1, ρ 2, ρ 3, ρ 4, ρ 5, ρ 6, ρ 7, ρ 8, ρ 9, ρ 10, ρ 11, ρ 12, ρ 13] (γ 0) 0 [ρ 0, ρ 1, ρ 2, ρ 3, ρ 4, ρ 5, ρ 6, ρ 7, ρ 8, ρ 9, ρ 10, ρ 11, ρ 12, ρ 13, ρ 14] (γ 1) := hJ
  have r1 : (0 : Int) ≤ ρ 1 ∧ ρ 1 ≤ 0 := zRnA hr 1
  have r14 : (4 : Int) ≤ ρ 14 ∧ ρ 14 ≤ 4 := zRnA hr 14
  obtain ⟨w_0, w_1⟩ : (ρ 14 ≥ 4) ∧ (ρ 1 ≠ 1) := ⟨by omega, by omega⟩
  have m1 : γ 0 6 0 9 = ρ 1 := zAllA hm 1
  have m4 : γ 0 6 0 7 = ρ 4 := zAllA hm 4
  have m5 : γ 0 4 0 7 = ρ 5 := zAllA hm 5
  have m7 : γ 0 6 0 8 = ρ 7 := zAllA hm 7
  have m8 : γ 0 6 0 10 = ρ 8 := zAllA hm 8
  have m9 : γ 0 9 (ρ 4) 3 = ρ 9 := zAllA hm 9
  have m10 : γ 0 10 (9 * ρ 4) 5 = ρ 10 := zAllA hm 10
  have m11 : γ 0 10 (9 * ρ 4) 8 = ρ 11 := zAllA hm 11
  have l0 : sn233 [ρ 11, ρ 8, ρ 7, ρ 5] (γ 1) 0 0 (γ 2) := hS233 _ _ _ _ _ (zAllA hl 0)
  show sn244 [ρ 0, ρ 1, ρ 2, ρ 3, ρ 4, ρ 5, ρ 6, ρ 7, ρ 8, ρ 9, ρ 10, ρ 11, ρ 12, ρ 13] (γ 0) 0 0 (γ 2)
  have hD : en244 (γ 0) (0, [ρ 14], γ 1) = .inr (0, 0, γ 2) := by
    unfold en244
    refine zIP (show (0 : Nat) = 0 by decide) (zLV (γ 1) rfl (zLV (ρ 14) rfl (zLE m1 (zLE m4 (zLE m5 (zLE m7 (zLE m8 ?_)))))))
    refine zLE m9 (zLE m10 (zLE m11 (zIP w_0 (zIP w_1 (zLE (show fn233 [ρ 11, ρ 8, ρ 7] (γ 1) = (0, 0, γ 2) from l0.symm) (zLV (γ 2) rfl (zIP (show (0 : Nat) = 0 by decide) ?_)))))))
    refine zIN zQ0_ ?_
    rfl
  exact zGoo_aend hJ hD
theorem vn244a0_1 {S : Nat → zSpc} (hS224 : zIm S 224 sn224) (hS233 : zIm S 233 sn233) (hS242 : zIm S 242 sn242) (hS243 : zIm S 243 sn243) {a : List Int} {g : rHp} : ∀ (ρ : Nat → Int) (γ : Nat → rHp), jn244 a g 0 (zAg (zNA a244_ 0) ρ) (γ 1) → zO 14 S a g q244a0_1 ρ γ → zGl (fun i vs g1 => jn244 a g i vs g1) (sn244 a g) q244a0_1 ρ γ := by
  intro ρ γ hJ h
  obtain ⟨ha, hg, hr, hf, hm, hc, hl⟩ := h
  have ha : a = [ρ 0, ρ 1, ρ 2, ρ 3, ρ 4, ρ 5, ρ 6, ρ 7, ρ 8, ρ 9, ρ 10, ρ 11, ρ 12, ρ 13] := ha
  subst ha
  subst hg
  have hJ : jn244 [ρ 0, ρ 1, ρ 2, ρ 3, ρ 4, ρ 5, ρ 6, ρ 7, ρ 8, ρ 9, ρ 10, ρ 11, ρ 12, ρ 13] (γ 0) 0 [ρ 0, ρ 1, ρ 2, ρ 3, ρ 4, ρ 5, ρ 6, ρ 7, ρ 8, ρ 9, ρ 10, ρ 11, ρ 12, ρ 13, ρ 14] (γ 1) := hJ
  have r1 : (0 : Int) ≤ ρ 1 ∧ ρ 1 ≤ 0 := zRnA hr 1
  have r14 : (4 : Int) ≤ ρ 14 ∧ ρ 14 ≤ 4 := zRnA hr 14
  obtain ⟨w_0, w_1⟩ : (ρ 14 ≥ 4) ∧ (ρ 1 ≠ 1) := ⟨by omega, by omega⟩
  have m1 : γ 0 6 0 9 = ρ 1 := zAllA hm 1
  have m4 : γ 0 6 0 7 = ρ 4 := zAllA hm 4
  have m5 : γ 0 4 0 7 = ρ 5 := zAllA hm 5
  have m7 : γ 0 6 0 8 = ρ 7 := zAllA hm 7
  have m8 : γ 0 6 0 10 = ρ 8 := zAllA hm 8
  have m9 : γ 0 9 (ρ 4) 3 = ρ 9 := zAllA hm 9
  have m10 : γ 0 10 (9 * ρ 4) 5 = ρ 10 := zAllA hm 10
  have m11 : γ 0 10 (9 * ρ 4) 8 = ρ 11 := zAllA hm 11
  have c3 : γ 3 = rUp (γ 2) 32 0 (ρ 5) (ρ 9) := And.right (zChA hc 1)
  have l0 : sn233 [ρ 11, ρ 8, ρ 7, ρ 5] (γ 1) 0 1 (γ 2) := hS233 _ _ _ _ _ (zAllA hl 0)
  have l1 : γ 4 = zCpy (γ 3) 38 0 0 31 0 (8 * ρ 5) (ρ 9) := zAllA hl 1
  show sn244 [ρ 0, ρ 1, ρ 2, ρ 3, ρ 4, ρ 5, ρ 6, ρ 7, ρ 8, ρ 9, ρ 10, ρ 11, ρ 12, ρ 13] (γ 0) 0 0 (γ 4)
  have hD : en244 (γ 0) (0, [ρ 14], γ 1) = .inr (0, 0, γ 4) := by
    unfold en244
    refine zIP (show (0 : Nat) = 0 by decide) (zLV (γ 1) rfl (zLV (ρ 14) rfl (zLE m1 (zLE m4 (zLE m5 (zLE m7 (zLE m8 ?_)))))))
    refine zLE m9 (zLE m10 (zLE m11 (zIP w_0 (zIP w_1 (zLE (show fn233 [ρ 11, ρ 8, ρ 7] (γ 1) = (0, 1, γ 2) from l0.symm) (zLV (γ 2) rfl (zIP (show (0 : Nat) = 0 by decide) ?_)))))))
    refine zIP zQ1_ (zLE c3.symm (zLE l1.symm ?_))
    rfl
  exact zGoo_aend hJ hD
theorem vn244a0_2 {S : Nat → zSpc} (hS224 : zIm S 224 sn224) (hS233 : zIm S 233 sn233) (hS242 : zIm S 242 sn242) (hS243 : zIm S 243 sn243) {a : List Int} {g : rHp} : ∀ (ρ : Nat → Int) (γ : Nat → rHp), jn244 a g 0 (zAg (zNA a244_ 0) ρ) (γ 1) → zO 14 S a g q244a0_2 ρ γ → zGl (fun i vs g1 => jn244 a g i vs g1) (sn244 a g) q244a0_2 ρ γ := by
  intro ρ γ hJ h
  obtain ⟨ha, hg, hr, hf, hm, hc, hl⟩ := h
  have ha : a = [ρ 0, ρ 1, ρ 2, ρ 3, ρ 4, ρ 5, ρ 6, ρ 7, ρ 8, ρ 9, ρ 10, ρ 11, ρ 12, ρ 13] := ha
  subst ha
  subst hg
  have hJ : jn244 [ρ 0, ρ 1, ρ 2, ρ 3, ρ 4, ρ 5, ρ 6, ρ 7, ρ 8, ρ 9, ρ 10, ρ 11, ρ 12, ρ 13] (γ 0) 0 [ρ 0, ρ 1, ρ 2, ρ 3, ρ 4, ρ 5, ρ 6, ρ 7, ρ 8, ρ 9, ρ 10, ρ 11, ρ 12, ρ 13, ρ 14] (γ 1) := hJ
  have r1 : (0 : Int) ≤ ρ 1 ∧ ρ 1 ≤ 0 := zRnA hr 1
  have r14 : (4 : Int) ≤ ρ 14 ∧ ρ 14 ≤ 4 := zRnA hr 14
  obtain ⟨w_0, w_1⟩ : (ρ 14 ≥ 4) ∧ (ρ 1 ≠ 1) := ⟨by omega, by omega⟩
  have m1 : γ 0 6 0 9 = ρ 1 := zAllA hm 1
  have m4 : γ 0 6 0 7 = ρ 4 := zAllA hm 4
  have m5 : γ 0 4 0 7 = ρ 5 := zAllA hm 5
  have m7 : γ 0 6 0 8 = ρ 7 := zAllA hm 7
  have m8 : γ 0 6 0 10 = ρ 8 := zAllA hm 8
  have m9 : γ 0 9 (ρ 4) 3 = ρ 9 := zAllA hm 9
  have m10 : γ 0 10 (9 * ρ 4) 5 = ρ 10 := zAllA hm 10
  have m11 : γ 0 10 (9 * ρ 4) 8 = ρ 11 := zAllA hm 11
  have l0 : sn233 [ρ 11, ρ 8, ρ 7, ρ 5] (γ 1) 1 0 (γ 2) := hS233 _ _ _ _ _ (zAllA hl 0)
  show sn244 [ρ 0, ρ 1, ρ 2, ρ 3, ρ 4, ρ 5, ρ 6, ρ 7, ρ 8, ρ 9, ρ 10, ρ 11, ρ 12, ρ 13] (γ 0) 1 0 (γ 2)
  have hD : en244 (γ 0) (0, [ρ 14], γ 1) = .inr (1, 0, γ 2) := by
    unfold en244
    refine zIP (show (0 : Nat) = 0 by decide) (zLV (γ 1) rfl (zLV (ρ 14) rfl (zLE m1 (zLE m4 (zLE m5 (zLE m7 (zLE m8 ?_)))))))
    refine zLE m9 (zLE m10 (zLE m11 (zIP w_0 (zIP w_1 (zLE (show fn233 [ρ 11, ρ 8, ρ 7] (γ 1) = (1, 0, γ 2) from l0.symm) (zLV (γ 2) rfl (zIN (show ¬ (1 : Nat) = 0 by decide) ?_)))))))
    rfl
  exact zGoo_aend hJ hD
theorem vn244a0_3 {S : Nat → zSpc} (hS224 : zIm S 224 sn224) (hS233 : zIm S 233 sn233) (hS242 : zIm S 242 sn242) (hS243 : zIm S 243 sn243) {a : List Int} {g : rHp} : ∀ (ρ : Nat → Int) (γ : Nat → rHp), jn244 a g 0 (zAg (zNA a244_ 0) ρ) (γ 1) → zO 14 S a g q244a0_3 ρ γ → zGl (fun i vs g1 => jn244 a g i vs g1) (sn244 a g) q244a0_3 ρ γ := by
  intro ρ γ hJ h
  obtain ⟨ha, hg, hr, hf, hm, hc, hl⟩ := h
  have ha : a = [ρ 0, ρ 1, ρ 2, ρ 3, ρ 4, ρ 5, ρ 6, ρ 7, ρ 8, ρ 9, ρ 10, ρ 11, ρ 12, ρ 13] := ha
  subst ha
  subst hg
  have hJ : jn244 [ρ 0, ρ 1, ρ 2, ρ 3, ρ 4, ρ 5, ρ 6, ρ 7, ρ 8, ρ 9, ρ 10, ρ 11, ρ 12, ρ 13] (γ 0) 0 [ρ 0, ρ 1, ρ 2, ρ 3, ρ 4, ρ 5, ρ 6, ρ 7, ρ 8, ρ 9, ρ 10, ρ 11, ρ 12, ρ 13, ρ 14] (γ 1) := hJ
  have r1 : (1 : Int) ≤ ρ 1 ∧ ρ 1 ≤ 1 := zRnA hr 1
  have r14 : (4 : Int) ≤ ρ 14 ∧ ρ 14 ≤ 4 := zRnA hr 14
  obtain ⟨w_0, w_1⟩ : (ρ 14 ≥ 4) ∧ (¬ (ρ 1 ≠ 1)) := ⟨by omega, by omega⟩
  have m1 : γ 0 6 0 9 = ρ 1 := zAllA hm 1
  have m4 : γ 0 6 0 7 = ρ 4 := zAllA hm 4
  have m5 : γ 0 4 0 7 = ρ 5 := zAllA hm 5
  have m7 : γ 0 6 0 8 = ρ 7 := zAllA hm 7
  have m8 : γ 0 6 0 10 = ρ 8 := zAllA hm 8
  have m9 : γ 0 9 (ρ 4) 3 = ρ 9 := zAllA hm 9
  have m10 : γ 0 10 (9 * ρ 4) 5 = ρ 10 := zAllA hm 10
  have m11 : γ 0 10 (9 * ρ 4) 8 = ρ 11 := zAllA hm 11
  have l0 : sn243 [ρ 1, ρ 4, ρ 6, ρ 12, ρ 13] (γ 1) 0 0 (γ 2) := hS243 _ _ _ _ _ (zAllA hl 0)
  show sn244 [ρ 0, ρ 1, ρ 2, ρ 3, ρ 4, ρ 5, ρ 6, ρ 7, ρ 8, ρ 9, ρ 10, ρ 11, ρ 12, ρ 13] (γ 0) 0 0 (γ 2)
  have hD : en244 (γ 0) (0, [ρ 14], γ 1) = .inr (0, 0, γ 2) := by
    unfold en244
    refine zIP (show (0 : Nat) = 0 by decide) (zLV (γ 1) rfl (zLV (ρ 14) rfl (zLE m1 (zLE m4 (zLE m5 (zLE m7 (zLE m8 ?_)))))))
    refine zLE m9 (zLE m10 (zLE m11 (zIP w_0 (zIN w_1 (zLE (show fn243 [] (γ 1) = (0, 0, γ 2) from l0.symm) (zLV (γ 2) rfl (zIP (show (0 : Nat) = 0 by decide) ?_)))))))
    rfl
  exact zGoo_aend hJ hD
theorem vn244a0_4 {S : Nat → zSpc} (hS224 : zIm S 224 sn224) (hS233 : zIm S 233 sn233) (hS242 : zIm S 242 sn242) (hS243 : zIm S 243 sn243) {a : List Int} {g : rHp} : ∀ (ρ : Nat → Int) (γ : Nat → rHp), jn244 a g 0 (zAg (zNA a244_ 0) ρ) (γ 1) → zO 14 S a g q244a0_4 ρ γ → zGl (fun i vs g1 => jn244 a g i vs g1) (sn244 a g) q244a0_4 ρ γ := by
  intro ρ γ hJ h
  obtain ⟨ha, hg, hr, hf, hm, hc, hl⟩ := h
  have ha : a = [ρ 0, ρ 1, ρ 2, ρ 3, ρ 4, ρ 5, ρ 6, ρ 7, ρ 8, ρ 9, ρ 10, ρ 11, ρ 12, ρ 13] := ha
  subst ha
  subst hg
  have hJ : jn244 [ρ 0, ρ 1, ρ 2, ρ 3, ρ 4, ρ 5, ρ 6, ρ 7, ρ 8, ρ 9, ρ 10, ρ 11, ρ 12, ρ 13] (γ 0) 0 [ρ 0, ρ 1, ρ 2, ρ 3, ρ 4, ρ 5, ρ 6, ρ 7, ρ 8, ρ 9, ρ 10, ρ 11, ρ 12, ρ 13, ρ 14] (γ 1) := hJ
  have r1 : (1 : Int) ≤ ρ 1 ∧ ρ 1 ≤ 1 := zRnA hr 1
  have r14 : (4 : Int) ≤ ρ 14 ∧ ρ 14 ≤ 4 := zRnA hr 14
  obtain ⟨w_0, w_1⟩ : (ρ 14 ≥ 4) ∧ (¬ (ρ 1 ≠ 1)) := ⟨by omega, by omega⟩
  have m1 : γ 0 6 0 9 = ρ 1 := zAllA hm 1
  have m4 : γ 0 6 0 7 = ρ 4 := zAllA hm 4
  have m5 : γ 0 4 0 7 = ρ 5 := zAllA hm 5
  have m7 : γ 0 6 0 8 = ρ 7 := zAllA hm 7
  have m8 : γ 0 6 0 10 = ρ 8 := zAllA hm 8
  have m9 : γ 0 9 (ρ 4) 3 = ρ 9 := zAllA hm 9
  have m10 : γ 0 10 (9 * ρ 4) 5 = ρ 10 := zAllA hm 10
  have m11 : γ 0 10 (9 * ρ 4) 8 = ρ 11 := zAllA hm 11
  have l0 : sn243 [ρ 1, ρ 4, ρ 6, ρ 12, ρ 13] (γ 1) 1 0 (γ 2) := hS243 _ _ _ _ _ (zAllA hl 0)
  show sn244 [ρ 0, ρ 1, ρ 2, ρ 3, ρ 4, ρ 5, ρ 6, ρ 7, ρ 8, ρ 9, ρ 10, ρ 11, ρ 12, ρ 13] (γ 0) 1 0 (γ 2)
  have hD : en244 (γ 0) (0, [ρ 14], γ 1) = .inr (1, 0, γ 2) := by
    unfold en244
    refine zIP (show (0 : Nat) = 0 by decide) (zLV (γ 1) rfl (zLV (ρ 14) rfl (zLE m1 (zLE m4 (zLE m5 (zLE m7 (zLE m8 ?_)))))))
    refine zLE m9 (zLE m10 (zLE m11 (zIP w_0 (zIN w_1 (zLE (show fn243 [] (γ 1) = (1, 0, γ 2) from l0.symm) (zLV (γ 2) rfl (zIN (show ¬ (1 : Nat) = 0 by decide) ?_)))))))
    rfl
  exact zGoo_aend hJ hD
theorem vn244a0_5 {S : Nat → zSpc} (hS224 : zIm S 224 sn224) (hS233 : zIm S 233 sn233) (hS242 : zIm S 242 sn242) (hS243 : zIm S 243 sn243) {a : List Int} {g : rHp} : ∀ (ρ : Nat → Int) (γ : Nat → rHp), jn244 a g 0 (zAg (zNA a244_ 0) ρ) (γ 1) → zO 14 S a g q244a0_5 ρ γ → zGl (fun i vs g1 => jn244 a g i vs g1) (sn244 a g) q244a0_5 ρ γ := by
  intro ρ γ hJ h
  obtain ⟨ha, hg, hr, hf, hm, hc, hl⟩ := h
  have ha : a = [ρ 0, ρ 1, ρ 2, ρ 3, ρ 4, ρ 5, ρ 6, ρ 7, ρ 8, ρ 9, ρ 10, ρ 11, ρ 12, ρ 13] := ha
  subst ha
  subst hg
  have hJ : jn244 [ρ 0, ρ 1, ρ 2, ρ 3, ρ 4, ρ 5, ρ 6, ρ 7, ρ 8, ρ 9, ρ 10, ρ 11, ρ 12, ρ 13] (γ 0) 0 [ρ 0, ρ 1, ρ 2, ρ 3, ρ 4, ρ 5, ρ 6, ρ 7, ρ 8, ρ 9, ρ 10, ρ 11, ρ 12, ρ 13, ρ 14] (γ 1) := hJ
  have r14 : (0 : Int) ≤ ρ 14 ∧ ρ 14 ≤ 3 := zRnA hr 14
  have f0 : (0 : Int) ≤ ρ 14 + -ρ 10 := zAllA hf 0
  obtain ⟨w_0, w_1⟩ : (¬ (ρ 14 ≥ 4)) ∧ (ρ 14 ≥ ρ 10) := ⟨by omega, by omega⟩
  have m1 : γ 0 6 0 9 = ρ 1 := zAllA hm 1
  have m4 : γ 0 6 0 7 = ρ 4 := zAllA hm 4
  have m5 : γ 0 4 0 7 = ρ 5 := zAllA hm 5
  have m7 : γ 0 6 0 8 = ρ 7 := zAllA hm 7
  have m8 : γ 0 6 0 10 = ρ 8 := zAllA hm 8
  have m9 : γ 0 9 (ρ 4) 3 = ρ 9 := zAllA hm 9
  have m10 : γ 0 10 (9 * ρ 4) 5 = ρ 10 := zAllA hm 10
  have m11 : γ 0 10 (9 * ρ 4) 8 = ρ 11 := zAllA hm 11
  have c2 : γ 2 = rUp (γ 1) 33 0 (ρ 14) 0 := And.right (zChA hc 0)
  show jn244 [ρ 0, ρ 1, ρ 2, ρ 3, ρ 4, ρ 5, ρ 6, ρ 7, ρ 8, ρ 9, ρ 10, ρ 11, ρ 12, ρ 13] (γ 0) 0 [ρ 0, ρ 1, ρ 2, ρ 3, ρ 4, ρ 5, ρ 6, ρ 7, ρ 8, ρ 9, ρ 10, ρ 11, ρ 12, ρ 13, ρ 14 + 1] (γ 2)
  have hD : en244 (γ 0) (0, [ρ 14], γ 1) = .inl (0, [ρ 14 + 1], γ 2) := by
    unfold en244
    refine zIP (show (0 : Nat) = 0 by decide) (zLV (γ 1) rfl (zLV (ρ 14) rfl (zLE m1 (zLE m4 (zLE m5 (zLE m7 (zLE m8 ?_)))))))
    refine zLE m9 (zLE m10 (zLE m11 (zIN w_0 (zIP w_1 (zLE c2.symm ?_)))))
    rfl
  exact zGoo_ato hJ hD
theorem vn244a0_6 {S : Nat → zSpc} (hS224 : zIm S 224 sn224) (hS233 : zIm S 233 sn233) (hS242 : zIm S 242 sn242) (hS243 : zIm S 243 sn243) {a : List Int} {g : rHp} : ∀ (ρ : Nat → Int) (γ : Nat → rHp), jn244 a g 0 (zAg (zNA a244_ 0) ρ) (γ 1) → zO 14 S a g q244a0_6 ρ γ → zGl (fun i vs g1 => jn244 a g i vs g1) (sn244 a g) q244a0_6 ρ γ := by
  intro ρ γ hJ h
  obtain ⟨ha, hg, hr, hf, hm, hc, hl⟩ := h
  have ha : a = [ρ 0, ρ 1, ρ 2, ρ 3, ρ 4, ρ 5, ρ 6, ρ 7, ρ 8, ρ 9, ρ 10, ρ 11, ρ 12, ρ 13] := ha
  subst ha
  subst hg
  have hJ : jn244 [ρ 0, ρ 1, ρ 2, ρ 3, ρ 4, ρ 5, ρ 6, ρ 7, ρ 8, ρ 9, ρ 10, ρ 11, ρ 12, ρ 13] (γ 0) 0 [ρ 0, ρ 1, ρ 2, ρ 3, ρ 4, ρ 5, ρ 6, ρ 7, ρ 8, ρ 9, ρ 10, ρ 11, ρ 12, ρ 13, ρ 14] (γ 1) := hJ
  have r14 : (0 : Int) ≤ ρ 14 ∧ ρ 14 ≤ 3 := zRnA hr 14
  have f0 : (0 : Int) ≤ -ρ 14 + ρ 10 + (-1) := zAllA hf 0
  obtain ⟨w_0, w_1⟩ : (¬ (ρ 14 ≥ 4)) ∧ (¬ (ρ 14 ≥ ρ 10)) := ⟨by omega, by omega⟩
  have m1 : γ 0 6 0 9 = ρ 1 := zAllA hm 1
  have m4 : γ 0 6 0 7 = ρ 4 := zAllA hm 4
  have m5 : γ 0 4 0 7 = ρ 5 := zAllA hm 5
  have m7 : γ 0 6 0 8 = ρ 7 := zAllA hm 7
  have m8 : γ 0 6 0 10 = ρ 8 := zAllA hm 8
  have m9 : γ 0 9 (ρ 4) 3 = ρ 9 := zAllA hm 9
  have m10 : γ 0 10 (9 * ρ 4) 5 = ρ 10 := zAllA hm 10
  have m11 : γ 0 10 (9 * ρ 4) 8 = ρ 11 := zAllA hm 11
  have c3 : γ 3 = rUp (γ 2) 33 0 (ρ 14) (ρ 15) := And.right (zChA hc 0)
  have l0 : sn224 [9 * ρ 4, ρ 14] (γ 1) 0 (ρ 15) (γ 2) := hS224 _ _ _ _ _ (zAllA hl 0)
  show jn244 [ρ 0, ρ 1, ρ 2, ρ 3, ρ 4, ρ 5, ρ 6, ρ 7, ρ 8, ρ 9, ρ 10, ρ 11, ρ 12, ρ 13] (γ 0) 0 [ρ 0, ρ 1, ρ 2, ρ 3, ρ 4, ρ 5, ρ 6, ρ 7, ρ 8, ρ 9, ρ 10, ρ 11, ρ 12, ρ 13, ρ 14 + 1] (γ 3)
  have hD : en244 (γ 0) (0, [ρ 14], γ 1) = .inl (0, [ρ 14 + 1], γ 3) := by
    unfold en244
    refine zIP (show (0 : Nat) = 0 by decide) (zLV (γ 1) rfl (zLV (ρ 14) rfl (zLE m1 (zLE m4 (zLE m5 (zLE m7 (zLE m8 ?_)))))))
    refine zLE m9 (zLE m10 (zLE m11 (zIN w_0 (zIN w_1 (zLE (show fn224 [9 * ρ 4, ρ 14] (γ 1) = (0, ρ 15, γ 2) from l0.symm) (zLV (γ 2) rfl (zLV (ρ 15) rfl ?_)))))))
    refine zLE c3.symm ?_
    rfl
  exact zGoo_ato hJ hD
theorem yn244 {S : Nat → zSpc} (hS224 : zIm S 224 sn224) (hS233 : zIm S 233 sn233) (hS242 : zIm S 242 sn242) (hS243 : zIm S 243 sn243) : ∀ x g o v gz, zSem uW uT w244_.2.2.2.1 w244_.2.2.1.1.length S q244 (fun i => q244a.getD i []) (zNA a244_) x g o v gz → sn244 x g o v gz := by
  intro a g o v gz h
  exact zSem_all (l0 := q244) (las := q244a) (S := S) (J := (fun i vs g1 => jn244 a g i vs g1)) (P := sn244 a g) (fun _ => (show zAll _ [q244_0, q244_1] from (zAll_c (vn244_0 hS224 hS233 hS242 hS243) (zAll_c (vn244_1 hS224 hS233 hS242 hS243) zAll_n)))) (fun _ => (show zAllI _ 0 [q244a0] from ⟨(show zAll _ [q244a0_0, q244a0_1, q244a0_2, q244a0_3, q244a0_4, q244a0_5, q244a0_6] from (zAll_c (vn244a0_0 hS224 hS233 hS242 hS243) (zAll_c (vn244a0_1 hS224 hS233 hS242 hS243) (zAll_c (vn244a0_2 hS224 hS233 hS242 hS243) (zAll_c (vn244a0_3 hS224 hS233 hS242 hS243) (zAll_c (vn244a0_4 hS224 hS233 hS242 hS243) (zAll_c (vn244a0_5 hS224 hS233 hS242 hS243) (zAll_c (vn244a0_6 hS224 hS233 hS242 hS243) zAll_n)))))))), trivial⟩)) h
theorem vn245_0 {S : Nat → zSpc} (hS244 : zIm S 244 sn244) {a : List Int} {g : rHp} : ∀ (ρ : Nat → Int) (γ : Nat → rHp), zO 15 S a g q245_0 ρ γ → zGl (fun _ _ _ => True) (sn245 a g) q245_0 ρ γ := by
  intro ρ γ h
  obtain ⟨ha, hg, hr, hf, hm, hc, hl⟩ := h
  have ha : a = [ρ 0, ρ 1, ρ 2, ρ 3, ρ 4, ρ 5, ρ 6, ρ 7, ρ 8, ρ 9, ρ 10, ρ 11, ρ 12, ρ 13, ρ 14] := ha
  subst ha
  subst hg
  have l0 : sn244 [ρ 0, ρ 1, ρ 2, ρ 3, ρ 4, ρ 5, ρ 6, ρ 7, ρ 8, ρ 10, ρ 11, ρ 12, ρ 13, ρ 14] (γ 0) 0 0 (γ 1) := hS244 _ _ _ _ _ (zAllA hl 0)
  show sn245 [ρ 0, ρ 1, ρ 2, ρ 3, ρ 4, ρ 5, ρ 6, ρ 7, ρ 8, ρ 9, ρ 10, ρ 11, ρ 12, ρ 13, ρ 14] (γ 0) 0 0 (γ 1)
  refine Eq.symm ?_
  show fn245 [] (γ 0) = _
  unfold fn245
  refine zLE (show fn244 [] (γ 0) = (0, 0, γ 1) from l0.symm) (zLV (γ 1) rfl (zIP (show (0 : Nat) = 0 by decide) ?_))
  rfl
theorem vn245_1 {S : Nat → zSpc} (hS244 : zIm S 244 sn244) {a : List Int} {g : rHp} : ∀ (ρ : Nat → Int) (γ : Nat → rHp), zO 15 S a g q245_1 ρ γ → zGl (fun _ _ _ => True) (sn245 a g) q245_1 ρ γ := by
  intro ρ γ h
  obtain ⟨ha, hg, hr, hf, hm, hc, hl⟩ := h
  have ha : a = [ρ 0, ρ 1, ρ 2, ρ 3, ρ 4, ρ 5, ρ 6, ρ 7, ρ 8, ρ 9, ρ 10, ρ 11, ρ 12, ρ 13, ρ 14] := ha
  subst ha
  subst hg
  have l0 : sn244 [ρ 0, ρ 1, ρ 2, ρ 3, ρ 4, ρ 5, ρ 6, ρ 7, ρ 8, ρ 10, ρ 11, ρ 12, ρ 13, ρ 14] (γ 0) 1 0 (γ 1) := hS244 _ _ _ _ _ (zAllA hl 0)
  show sn245 [ρ 0, ρ 1, ρ 2, ρ 3, ρ 4, ρ 5, ρ 6, ρ 7, ρ 8, ρ 9, ρ 10, ρ 11, ρ 12, ρ 13, ρ 14] (γ 0) 1 0 (γ 1)
  refine Eq.symm ?_
  show fn245 [] (γ 0) = _
  unfold fn245
  refine zLE (show fn244 [] (γ 0) = (1, 0, γ 1) from l0.symm) (zLV (γ 1) rfl (zIN (show ¬ (1 : Nat) = 0 by decide) ?_))
  rfl
theorem yn245 {S : Nat → zSpc} (hS244 : zIm S 244 sn244) : ∀ x g o v gz, zSem uW uT w245_.2.2.2.1 w245_.2.2.1.1.length S q245 (fun i => q245a.getD i []) (zNA a245_) x g o v gz → sn245 x g o v gz := by
  intro a g o v gz h
  exact zSem_all (l0 := q245) (las := q245a) (S := S) (J := (fun _ _ _ => True)) (P := sn245 a g) (fun _ => (show zAll _ [q245_0, q245_1] from (zAll_c (vn245_0 hS244) (zAll_c (vn245_1 hS244) zAll_n)))) (fun _ => (show zAllI _ 0 [] from trivial)) h
theorem vn246_0 {S : Nat → zSpc} (hS225 : zIm S 225 sn225) (hS226 : zIm S 226 sn226) (hS227 : zIm S 227 sn227) (hS232 : zIm S 232 sn232) (hS245 : zIm S 245 sn245) {a : List Int} {g : rHp} : ∀ (ρ : Nat → Int) (γ : Nat → rHp), zO 22 S a g q246_0 ρ γ → zGl (fun i vs g1 => jn246 a g i vs g1) (sn246 a g) q246_0 ρ γ := by
  intro ρ γ h
  obtain ⟨ha, hg, hr, hf, hm, hc, hl⟩ := h
  have ha : a = [ρ 0, ρ 1, ρ 2, ρ 3, ρ 4, ρ 5, ρ 6, ρ 7, ρ 8, ρ 9, ρ 10, ρ 11, ρ 12, ρ 13, ρ 14, ρ 15, ρ 16, ρ 17, ρ 18, ρ 19, ρ 20, ρ 21] := ha
  subst ha
  subst hg
  have r8 : ((-2147483648) : Int) ≤ ρ 8 ∧ ρ 8 ≤ 1 := zRnA hr 8
  have w_0 : ρ 8 ≤ 1 := by omega
  have m4 : γ 0 6 0 7 = ρ 4 := zAllA hm 4
  have m8 : γ 0 6 0 10 = ρ 8 := zAllA hm 8
  have m10 : γ 0 6 0 12 = ρ 10 := zAllA hm 10
  have m11 : γ 0 6 0 13 = ρ 11 := zAllA hm 11
  have m13 : γ 0 9 (ρ 4) 3 = ρ 13 := zAllA hm 13
  have m21 : γ 0 10 (9 * ρ 4 + 8) 10 = ρ 21 := zAllA hm 21
  have l0 : sn226 [9 * ρ 4 + 8, 0, ρ 5, ρ 19, ρ 20] (γ 0) 0 (ρ 22) (γ 1) := hS226 _ _ _ _ _ (zAllA hl 0)
  show jn246 [ρ 0, ρ 1, ρ 2, ρ 3, ρ 4, ρ 5, ρ 6, ρ 7, ρ 8, ρ 9, ρ 10, ρ 11, ρ 12, ρ 13, ρ 14, ρ 15, ρ 16, ρ 17, ρ 18, ρ 19, ρ 20, ρ 21] (γ 0) 0 [ρ 0, ρ 1, ρ 2, ρ 3, ρ 4, ρ 5, ρ 6, ρ 7, ρ 8, ρ 9, ρ 10, ρ 11, ρ 12, ρ 13, ρ 14, ρ 15, ρ 16, ρ 17, ρ 18, ρ 19, ρ 20, ρ 21, 0, ρ 22, 0, 0, ρ 0, ρ 3, ρ 5, ρ 6, ρ 11] (γ 1)
  have hD : dn246 [] (γ 0) = .inl (0, [0, ρ 22, 0, 0], γ 1) := by
    unfold dn246
    refine zLE m4 (zLE m8 (zLE m10 (zLE m11 (zLE m13 (zLE m21 (zIP w_0 (zLE (show fn226 [9 * ρ 4 + 8, 0] (γ 0) = (0, ρ 22, γ 1) from l0.symm) ?_)))))))
    refine zLV (γ 1) rfl (zLV (ρ 22) rfl ?_)
    rfl
  exact zGoo_to hD
theorem vn246_1 {S : Nat → zSpc} (hS225 : zIm S 225 sn225) (hS226 : zIm S 226 sn226) (hS227 : zIm S 227 sn227) (hS232 : zIm S 232 sn232) (hS245 : zIm S 245 sn245) {a : List Int} {g : rHp} : ∀ (ρ : Nat → Int) (γ : Nat → rHp), zO 22 S a g q246_1 ρ γ → zGl (fun i vs g1 => jn246 a g i vs g1) (sn246 a g) q246_1 ρ γ := by
  intro ρ γ h
  obtain ⟨ha, hg, hr, hf, hm, hc, hl⟩ := h
  have ha : a = [ρ 0, ρ 1, ρ 2, ρ 3, ρ 4, ρ 5, ρ 6, ρ 7, ρ 8, ρ 9, ρ 10, ρ 11, ρ 12, ρ 13, ρ 14, ρ 15, ρ 16, ρ 17, ρ 18, ρ 19, ρ 20, ρ 21] := ha
  subst ha
  subst hg
  have r8 : (2 : Int) ≤ ρ 8 ∧ ρ 8 ≤ 2147483647 := zRnA hr 8
  have r11 : ((-2147483648) : Int) ≤ ρ 11 ∧ ρ 11 ≤ 2147483647 := zRnA hr 11
  have w_0 : ¬ (ρ 8 ≤ 1) := by omega
  have m4 : γ 0 6 0 7 = ρ 4 := zAllA hm 4
  have m8 : γ 0 6 0 10 = ρ 8 := zAllA hm 8
  have m10 : γ 0 6 0 12 = ρ 10 := zAllA hm 10
  have m11 : γ 0 6 0 13 = ρ 11 := zAllA hm 11
  have m13 : γ 0 9 (ρ 4) 3 = ρ 13 := zAllA hm 13
  have m21 : γ 0 10 (9 * ρ 4 + 8) 10 = ρ 21 := zAllA hm 21
  have l0 : ρ 11 ≠ 0 := zAllA hl 0
  have l1 : sn226 [9 * ρ 4 + 8, 0, ρ 5, ρ 19, ρ 20] (γ 0) 0 (ρ 22) (γ 1) := hS226 _ _ _ _ _ (zAllA hl 1)
  have wl_0 : ρ 11 ≠ 0 := by omega
  show jn246 [ρ 0, ρ 1, ρ 2, ρ 3, ρ 4, ρ 5, ρ 6, ρ 7, ρ 8, ρ 9, ρ 10, ρ 11, ρ 12, ρ 13, ρ 14, ρ 15, ρ 16, ρ 17, ρ 18, ρ 19, ρ 20, ρ 21] (γ 0) 0 [ρ 0, ρ 1, ρ 2, ρ 3, ρ 4, ρ 5, ρ 6, ρ 7, ρ 8, ρ 9, ρ 10, ρ 11, ρ 12, ρ 13, ρ 14, ρ 15, ρ 16, ρ 17, ρ 18, ρ 19, ρ 20, ρ 21, 0, ρ 22, 0, 0, ρ 0, ρ 3, ρ 5, ρ 6, ρ 11] (γ 1)
  have hD : dn246 [] (γ 0) = .inl (0, [0, ρ 22, 0, 0], γ 1) := by
    unfold dn246
    refine zLE m4 (zLE m8 (zLE m10 (zLE m11 (zLE m13 (zLE m21 (zIN w_0 (zIP wl_0 ?_)))))))
    refine zLE (show fn226 [9 * ρ 4 + 8, 0] (γ 0) = (0, ρ 22, γ 1) from l1.symm) (zLV (γ 1) rfl (zLV (ρ 22) rfl ?_))
    rfl
  exact zGoo_to hD
theorem vn246_2 {S : Nat → zSpc} (hS225 : zIm S 225 sn225) (hS226 : zIm S 226 sn226) (hS227 : zIm S 227 sn227) (hS232 : zIm S 232 sn232) (hS245 : zIm S 245 sn245) {a : List Int} {g : rHp} : ∀ (ρ : Nat → Int) (γ : Nat → rHp), zO 22 S a g q246_2 ρ γ → zGl (fun i vs g1 => jn246 a g i vs g1) (sn246 a g) q246_2 ρ γ := by
  intro ρ γ h
  obtain ⟨ha, hg, hr, hf, hm, hc, hl⟩ := h
  have ha : a = [ρ 0, ρ 1, ρ 2, ρ 3, ρ 4, ρ 5, ρ 6, ρ 7, ρ 8, ρ 9, ρ 10, ρ 11, ρ 12, ρ 13, ρ 14, ρ 15, ρ 16, ρ 17, ρ 18, ρ 19, ρ 20, ρ 21] := ha
  subst ha
  subst hg
  have r8 : (2 : Int) ≤ ρ 8 ∧ ρ 8 ≤ 2147483647 := zRnA hr 8
  have r11 : (0 : Int) ≤ ρ 11 ∧ ρ 11 ≤ 0 := zRnA hr 11
  have r13 : (0 : Int) ≤ ρ 13 ∧ ρ 13 ≤ 8 := zRnA hr 13
  have r21 : (0 : Int) ≤ ρ 21 ∧ ρ 21 ≤ 7 := zRnA hr 21
  obtain ⟨w_0, w_1⟩ : (¬ (ρ 8 ≤ 1)) ∧ (¬ (ρ 11 ≠ 0)) := ⟨by omega, by omega⟩
  have m4 : γ 0 6 0 7 = ρ 4 := zAllA hm 4
  have m8 : γ 0 6 0 10 = ρ 8 := zAllA hm 8
  have m10 : γ 0 6 0 12 = ρ 10 := zAllA hm 10
  have m11 : γ 0 6 0 13 = ρ 11 := zAllA hm 11
  have m13 : γ 0 9 (ρ 4) 3 = ρ 13 := zAllA hm 13
  have m21 : γ 0 10 (9 * ρ 4 + 8) 10 = ρ 21 := zAllA hm 21
  have l0 : ρ 21 ≠ ρ 13 + (-1) := zAllA hl 0
  have l1 : sn226 [9 * ρ 4 + 8, 0, ρ 5, ρ 19, ρ 20] (γ 0) 0 (ρ 22) (γ 1) := hS226 _ _ _ _ _ (zAllA hl 1)
  have wl_0 : ρ 21 ≠ ρ 13 + (-1) := by omega
  show jn246 [ρ 0, ρ 1, ρ 2, ρ 3, ρ 4, ρ 5, ρ 6, ρ 7, ρ 8, ρ 9, ρ 10, ρ 11, ρ 12, ρ 13, ρ 14, ρ 15, ρ 16, ρ 17, ρ 18, ρ 19, ρ 20, ρ 21] (γ 0) 0 [ρ 0, ρ 1, ρ 2, ρ 3, ρ 4, ρ 5, ρ 6, ρ 7, ρ 8, ρ 9, ρ 10, ρ 11, ρ 12, ρ 13, ρ 14, ρ 15, ρ 16, ρ 17, ρ 18, ρ 19, ρ 20, ρ 21, 0, ρ 22, 0, 0, ρ 0, ρ 3, ρ 5, ρ 6, ρ 11] (γ 1)
  have hD : dn246 [] (γ 0) = .inl (0, [0, ρ 22, 0, 0], γ 1) := by
    unfold dn246
    refine zLE m4 (zLE m8 (zLE m10 (zLE m11 (zLE m13 (zLE m21 (zIN w_0 (zIN w_1 ?_)))))))
    refine zIP wl_0 (zLE (show fn226 [9 * ρ 4 + 8, 0] (γ 0) = (0, ρ 22, γ 1) from l1.symm) (zLV (γ 1) rfl (zLV (ρ 22) rfl ?_)))
    rfl
  exact zGoo_to hD
theorem vn246_3 {S : Nat → zSpc} (hS225 : zIm S 225 sn225) (hS226 : zIm S 226 sn226) (hS227 : zIm S 227 sn227) (hS232 : zIm S 232 sn232) (hS245 : zIm S 245 sn245) {a : List Int} {g : rHp} : ∀ (ρ : Nat → Int) (γ : Nat → rHp), zO 22 S a g q246_3 ρ γ → zGl (fun i vs g1 => jn246 a g i vs g1) (sn246 a g) q246_3 ρ γ := by
  intro ρ γ h
  obtain ⟨ha, hg, hr, hf, hm, hc, hl⟩ := h
  have ha : a = [ρ 0, ρ 1, ρ 2, ρ 3, ρ 4, ρ 5, ρ 6, ρ 7, ρ 8, ρ 9, ρ 10, ρ 11, ρ 12, ρ 13, ρ 14, ρ 15, ρ 16, ρ 17, ρ 18, ρ 19, ρ 20, ρ 21] := ha
  subst ha
  subst hg
  have r8 : (2 : Int) ≤ ρ 8 ∧ ρ 8 ≤ 2147483647 := zRnA hr 8
  have r11 : (0 : Int) ≤ ρ 11 ∧ ρ 11 ≤ 0 := zRnA hr 11
  have f0 : (0 : Int) ≤ -ρ 21 + ρ 13 + (-1) := zAllA hf 0
  have f1 : (0 : Int) ≤ ρ 21 + -ρ 13 + 1 := zAllA hf 1
  obtain ⟨w_0, w_1, w_2⟩ : (¬ (ρ 8 ≤ 1)) ∧ (¬ (ρ 11 ≠ 0)) ∧ (¬ (ρ 21 ≠ ρ 13 + (-1))) := ⟨by omega, by omega, by omega⟩
  have m4 : γ 0 6 0 7 = ρ 4 := zAllA hm 4
  have m8 : γ 0 6 0 10 = ρ 8 := zAllA hm 8
  have m10 : γ 0 6 0 12 = ρ 10 := zAllA hm 10
  have m11 : γ 0 6 0 13 = ρ 11 := zAllA hm 11
  have m13 : γ 0 9 (ρ 4) 3 = ρ 13 := zAllA hm 13
  have m21 : γ 0 10 (9 * ρ 4 + 8) 10 = ρ 21 := zAllA hm 21
  have l0 : sn226 [9 * ρ 4 + 8, ρ 10, ρ 5, ρ 19, ρ 20] (γ 0) 0 (ρ 22) (γ 1) := hS226 _ _ _ _ _ (zAllA hl 0)
  show jn246 [ρ 0, ρ 1, ρ 2, ρ 3, ρ 4, ρ 5, ρ 6, ρ 7, ρ 8, ρ 9, ρ 10, ρ 11, ρ 12, ρ 13, ρ 14, ρ 15, ρ 16, ρ 17, ρ 18, ρ 19, ρ 20, ρ 21] (γ 0) 0 [ρ 0, ρ 1, ρ 2, ρ 3, ρ 4, ρ 5, ρ 6, ρ 7, ρ 8, ρ 9, ρ 10, ρ 11, ρ 12, ρ 13, ρ 14, ρ 15, ρ 16, ρ 17, ρ 18, ρ 19, ρ 20, ρ 21, 0, ρ 22, ρ 10, 1, ρ 0, ρ 3, ρ 5, ρ 6, ρ 11] (γ 1)
  have hD : dn246 [] (γ 0) = .inl (0, [0, ρ 22, ρ 10, 1], γ 1) := by
    unfold dn246
    refine zLE m4 (zLE m8 (zLE m10 (zLE m11 (zLE m13 (zLE m21 (zIN w_0 (zIN w_1 ?_)))))))
    refine zIN w_2 (zLE (show fn226 [9 * ρ 4 + 8, ρ 10] (γ 0) = (0, ρ 22, γ 1) from l0.symm) (zLV (γ 1) rfl (zLV (ρ 22) rfl ?_)))
    rfl
  exact zGoo_to hD
theorem vn246a0_0 {S : Nat → zSpc} (hS225 : zIm S 225 sn225) (hS226 : zIm S 226 sn226) (hS227 : zIm S 227 sn227) (hS232 : zIm S 232 sn232) (hS245 : zIm S 245 sn245) {a : List Int} {g : rHp} : ∀ (ρ : Nat → Int) (γ : Nat → rHp), jn246 a g 0 (zAg (zNA a246_ 0) ρ) (γ 1) → zO 22 S a g q246a0_0 ρ γ → zGl (fun i vs g1 => jn246 a g i vs g1) (sn246 a g) q246a0_0 ρ γ := by
  intro ρ γ hJ h
  obtain ⟨ha, hg, hr, hf, hm, hc, hl⟩ := h
  have ha : a = [ρ 0, ρ 1, ρ 2, ρ 3, ρ 4, ρ 5, ρ 6, ρ 7, ρ 8, ρ 9, ρ 10, ρ 11, ρ 12, ρ 13, ρ 14, ρ 15, ρ 16, ρ 17, ρ 18, ρ 19, ρ 20, ρ 21] := ha
  subst ha
  subst hg
  have hJ : jn246 [ρ 0, ρ 1, ρ 2, ρ 3, ρ 4, ρ 5, ρ 6, ρ 7, ρ 8, ρ 9, ρ 10, ρ 11, ρ 12, ρ 13, ρ 14, ρ 15, ρ 16, ρ 17, ρ 18, ρ 19, ρ 20, ρ 21] (γ 0) 0 [ρ 0, ρ 1, ρ 2, ρ 3, ρ 4, ρ 5, ρ 6, ρ 7, ρ 8, ρ 9, ρ 10, ρ 11, ρ 12, ρ 13, ρ 14, ρ 15, ρ 16, ρ 17, ρ 18, ρ 19, ρ 20, ρ 21, ρ 22, ρ 23, ρ 24, ρ 25, ρ 26, ρ 27, ρ 28, ρ 29, ρ 30] (γ 1) := hJ
  have r23 : ((-1) : Int) ≤ ρ 23 ∧ ρ 23 ≤ (-1) := zRnA hr 23
  have w_0 : ρ 23 < 0 := by omega
  have m4 : γ 0 6 0 7 = ρ 4 := zAllA hm 4
  have m9 : γ 0 6 0 11 = ρ 9 := zAllA hm 9
  have m10 : γ 0 6 0 12 = ρ 10 := zAllA hm 10
  have m26 : γ 1 6 0 13 = ρ 30 := zAllA hm 26
  show sn246 [ρ 0, ρ 1, ρ 2, ρ 3, ρ 4, ρ 5, ρ 6, ρ 7, ρ 8, ρ 9, ρ 10, ρ 11, ρ 12, ρ 13, ρ 14, ρ 15, ρ 16, ρ 17, ρ 18, ρ 19, ρ 20, ρ 21] (γ 0) 0 0 (γ 1)
  have hD : en246 (γ 0) (0, [ρ 22, ρ 23, ρ 24, ρ 25], γ 1) = .inr (0, 0, γ 1) := by
    unfold en246
    refine zIP (show (0 : Nat) = 0 by decide) (zLV (γ 1) rfl (zLV (ρ 22) rfl (zLV (ρ 23) rfl (zLV (ρ 24) rfl (zLV (ρ 25) rfl (zLE m4 (zLE m9 ?_)))))))
    refine zLE m10 (zLE m26 (zIP w_0 ?_))
    rfl
  exact zGoo_aend hJ hD
theorem vn246a0_1 {S : Nat → zSpc} (hS225 : zIm S 225 sn225) (hS226 : zIm S 226 sn226) (hS227 : zIm S 227 sn227) (hS232 : zIm S 232 sn232) (hS245 : zIm S 245 sn245) {a : List Int} {g : rHp} : ∀ (ρ : Nat → Int) (γ : Nat → rHp), jn246 a g 0 (zAg (zNA a246_ 0) ρ) (γ 1) → zO 22 S a g q246a0_1 ρ γ → zGl (fun i vs g1 => jn246 a g i vs g1) (sn246 a g) q246a0_1 ρ γ := by
  intro ρ γ hJ h
  obtain ⟨ha, hg, hr, hf, hm, hc, hl⟩ := h
  have ha : a = [ρ 0, ρ 1, ρ 2, ρ 3, ρ 4, ρ 5, ρ 6, ρ 7, ρ 8, ρ 9, ρ 10, ρ 11, ρ 12, ρ 13, ρ 14, ρ 15, ρ 16, ρ 17, ρ 18, ρ 19, ρ 20, ρ 21] := ha
  subst ha
  subst hg
  have hJ : jn246 [ρ 0, ρ 1, ρ 2, ρ 3, ρ 4, ρ 5, ρ 6, ρ 7, ρ 8, ρ 9, ρ 10, ρ 11, ρ 12, ρ 13, ρ 14, ρ 15, ρ 16, ρ 17, ρ 18, ρ 19, ρ 20, ρ 21] (γ 0) 0 [ρ 0, ρ 1, ρ 2, ρ 3, ρ 4, ρ 5, ρ 6, ρ 7, ρ 8, ρ 9, ρ 10, ρ 11, ρ 12, ρ 13, ρ 14, ρ 15, ρ 16, ρ 17, ρ 18, ρ 19, ρ 20, ρ 21, ρ 22, ρ 23, ρ 24, ρ 25, ρ 26, ρ 27, ρ 28, ρ 29, ρ 30] (γ 1) := hJ
  have r23 : (0 : Int) ≤ ρ 23 ∧ ρ 23 ≤ 2000 := zRnA hr 23
  have f0 : (0 : Int) ≤ ρ 23 + -ρ 9 := zAllA hf 0
  obtain ⟨w_0, w_1⟩ : (¬ (ρ 23 < 0)) ∧ (ρ 23 ≥ ρ 9) := ⟨by omega, by omega⟩
  have m4 : γ 0 6 0 7 = ρ 4 := zAllA hm 4
  have m9 : γ 0 6 0 11 = ρ 9 := zAllA hm 9
  have m10 : γ 0 6 0 12 = ρ 10 := zAllA hm 10
  have m26 : γ 1 6 0 13 = ρ 30 := zAllA hm 26
  show sn246 [ρ 0, ρ 1, ρ 2, ρ 3, ρ 4, ρ 5, ρ 6, ρ 7, ρ 8, ρ 9, ρ 10, ρ 11, ρ 12, ρ 13, ρ 14, ρ 15, ρ 16, ρ 17, ρ 18, ρ 19, ρ 20, ρ 21] (γ 0) 0 0 (γ 1)
  have hD : en246 (γ 0) (0, [ρ 22, ρ 23, ρ 24, ρ 25], γ 1) = .inr (0, 0, γ 1) := by
    unfold en246
    refine zIP (show (0 : Nat) = 0 by decide) (zLV (γ 1) rfl (zLV (ρ 22) rfl (zLV (ρ 23) rfl (zLV (ρ 24) rfl (zLV (ρ 25) rfl (zLE m4 (zLE m9 ?_)))))))
    refine zLE m10 (zLE m26 (zIN w_0 (zIP w_1 ?_)))
    rfl
  exact zGoo_aend hJ hD
theorem vn246a0_2 {S : Nat → zSpc} (hS225 : zIm S 225 sn225) (hS226 : zIm S 226 sn226) (hS227 : zIm S 227 sn227) (hS232 : zIm S 232 sn232) (hS245 : zIm S 245 sn245) {a : List Int} {g : rHp} : ∀ (ρ : Nat → Int) (γ : Nat → rHp), jn246 a g 0 (zAg (zNA a246_ 0) ρ) (γ 1) → zO 22 S a g q246a0_2 ρ γ → zGl (fun i vs g1 => jn246 a g i vs g1) (sn246 a g) q246a0_2 ρ γ := by
  intro ρ γ hJ h
  obtain ⟨ha, hg, hr, hf, hm, hc, hl⟩ := h
  have ha : a = [ρ 0, ρ 1, ρ 2, ρ 3, ρ 4, ρ 5, ρ 6, ρ 7, ρ 8, ρ 9, ρ 10, ρ 11, ρ 12, ρ 13, ρ 14, ρ 15, ρ 16, ρ 17, ρ 18, ρ 19, ρ 20, ρ 21] := ha
  subst ha
  subst hg
  have hJ : jn246 [ρ 0, ρ 1, ρ 2, ρ 3, ρ 4, ρ 5, ρ 6, ρ 7, ρ 8, ρ 9, ρ 10, ρ 11, ρ 12, ρ 13, ρ 14, ρ 15, ρ 16, ρ 17, ρ 18, ρ 19, ρ 20, ρ 21] (γ 0) 0 [ρ 0, ρ 1, ρ 2, ρ 3, ρ 4, ρ 5, ρ 6, ρ 7, ρ 8, ρ 9, ρ 10, ρ 11, ρ 12, ρ 13, ρ 14, ρ 15, ρ 16, ρ 17, ρ 18, ρ 19, ρ 20, ρ 21, ρ 22, ρ 23, ρ 24, ρ 25, ρ 26, ρ 27, ρ 28, ρ 29, ρ 30] (γ 1) := hJ
  have r22 : (2000 : Int) ≤ ρ 22 ∧ ρ 22 ≤ 2000 := zRnA hr 22
  have r23 : (0 : Int) ≤ ρ 23 ∧ ρ 23 ≤ 2000 := zRnA hr 23
  have f0 : (0 : Int) ≤ -ρ 23 + ρ 9 + (-1) := zAllA hf 0
  obtain ⟨w_0, w_1, w_2⟩ : (¬ (ρ 23 < 0)) ∧ (¬ (ρ 23 ≥ ρ 9)) ∧ (ρ 22 ≥ 2000) := ⟨by omega, by omega, by omega⟩
  have m4 : γ 0 6 0 7 = ρ 4 := zAllA hm 4
  have m9 : γ 0 6 0 11 = ρ 9 := zAllA hm 9
  have m10 : γ 0 6 0 12 = ρ 10 := zAllA hm 10
  have m26 : γ 1 6 0 13 = ρ 30 := zAllA hm 26
  show sn246 [ρ 0, ρ 1, ρ 2, ρ 3, ρ 4, ρ 5, ρ 6, ρ 7, ρ 8, ρ 9, ρ 10, ρ 11, ρ 12, ρ 13, ρ 14, ρ 15, ρ 16, ρ 17, ρ 18, ρ 19, ρ 20, ρ 21] (γ 0) 0 0 (γ 1)
  have hD : en246 (γ 0) (0, [ρ 22, ρ 23, ρ 24, ρ 25], γ 1) = .inr (0, 0, γ 1) := by
    unfold en246
    refine zIP (show (0 : Nat) = 0 by decide) (zLV (γ 1) rfl (zLV (ρ 22) rfl (zLV (ρ 23) rfl (zLV (ρ 24) rfl (zLV (ρ 25) rfl (zLE m4 (zLE m9 ?_)))))))
    refine zLE m10 (zLE m26 (zIN w_0 (zIN w_1 (zIP w_2 ?_))))
    rfl
  exact zGoo_aend hJ hD
theorem vn246a0_3 {S : Nat → zSpc} (hS225 : zIm S 225 sn225) (hS226 : zIm S 226 sn226) (hS227 : zIm S 227 sn227) (hS232 : zIm S 232 sn232) (hS245 : zIm S 245 sn245) {a : List Int} {g : rHp} : ∀ (ρ : Nat → Int) (γ : Nat → rHp), jn246 a g 0 (zAg (zNA a246_ 0) ρ) (γ 1) → zO 22 S a g q246a0_3 ρ γ → zGl (fun i vs g1 => jn246 a g i vs g1) (sn246 a g) q246a0_3 ρ γ := by
  intro ρ γ hJ h
  obtain ⟨ha, hg, hr, hf, hm, hc, hl⟩ := h
  have ha : a = [ρ 0, ρ 1, ρ 2, ρ 3, ρ 4, ρ 5, ρ 6, ρ 7, ρ 8, ρ 9, ρ 10, ρ 11, ρ 12, ρ 13, ρ 14, ρ 15, ρ 16, ρ 17, ρ 18, ρ 19, ρ 20, ρ 21] := ha
  subst ha
  subst hg
  have hJ : jn246 [ρ 0, ρ 1, ρ 2, ρ 3, ρ 4, ρ 5, ρ 6, ρ 7, ρ 8, ρ 9, ρ 10, ρ 11, ρ 12, ρ 13, ρ 14, ρ 15, ρ 16, ρ 17, ρ 18, ρ 19, ρ 20, ρ 21] (γ 0) 0 [ρ 0, ρ 1, ρ 2, ρ 3, ρ 4, ρ 5, ρ 6, ρ 7, ρ 8, ρ 9, ρ 10, ρ 11, ρ 12, ρ 13, ρ 14, ρ 15, ρ 16, ρ 17, ρ 18, ρ 19, ρ 20, ρ 21, ρ 22, ρ 23, ρ 24, ρ 25, ρ 26, ρ 27, ρ 28, ρ 29, ρ 30] (γ 1) := hJ
  have r22 : (0 : Int) ≤ ρ 22 ∧ ρ 22 ≤ 1999 := zRnA hr 22
  have r23 : (0 : Int) ≤ ρ 23 ∧ ρ 23 ≤ 2000 := zRnA hr 23
  have f0 : (0 : Int) ≤ ρ 24 + -ρ 23 + (-1) := zAllA hf 0
  have f1 : (0 : Int) ≤ -ρ 23 + ρ 9 + (-1) := zAllA hf 1
  obtain ⟨w_0, w_1, w_2, w_3⟩ : (¬ (ρ 23 < 0)) ∧ (¬ (ρ 23 ≥ ρ 9)) ∧ (¬ (ρ 22 ≥ 2000)) ∧ (ρ 23 < ρ 24) := ⟨by omega, by omega, by omega, by omega⟩
  have m4 : γ 0 6 0 7 = ρ 4 := zAllA hm 4
  have m9 : γ 0 6 0 11 = ρ 9 := zAllA hm 9
  have m10 : γ 0 6 0 12 = ρ 10 := zAllA hm 10
  have m26 : γ 1 6 0 13 = ρ 30 := zAllA hm 26
  have l0 : sn227 [9 * ρ 4 + 8, ρ 23, ρ 20] (γ 1) 0 (ρ 31) (γ 2) := hS227 _ _ _ _ _ (zAllA hl 0)
  show jn246 [ρ 0, ρ 1, ρ 2, ρ 3, ρ 4, ρ 5, ρ 6, ρ 7, ρ 8, ρ 9, ρ 10, ρ 11, ρ 12, ρ 13, ρ 14, ρ 15, ρ 16, ρ 17, ρ 18, ρ 19, ρ 20, ρ 21] (γ 0) 0 [ρ 0, ρ 1, ρ 2, ρ 3, ρ 4, ρ 5, ρ 6, ρ 7, ρ 8, ρ 9, ρ 10, ρ 11, ρ 12, ρ 13, ρ 14, ρ 15, ρ 16, ρ 17, ρ 18, ρ 19, ρ 20, ρ 21, ρ 22 + 1, ρ 31, ρ 24, ρ 25, ρ 26, ρ 27, ρ 28, ρ 29, ρ 30] (γ 2)
  have hD : en246 (γ 0) (0, [ρ 22, ρ 23, ρ 24, ρ 25], γ 1) = .inl (0, [ρ 22 + 1, ρ 31, ρ 24, ρ 25], γ 2) := by
    unfold en246
    refine zIP (show (0 : Nat) = 0 by decide) (zLV (γ 1) rfl (zLV (ρ 22) rfl (zLV (ρ 23) rfl (zLV (ρ 24) rfl (zLV (ρ 25) rfl (zLE m4 (zLE m9 ?_)))))))
    refine zLE m10 (zLE m26 (zIN w_0 (zIN w_1 (zIN w_2 (zIP w_3 (zLE (show fn227 [9 * ρ 4 + 8, ρ 23] (γ 1) = (0, ρ 31, γ 2) from l0.symm) (zLV (γ 2) rfl ?_)))))))
    refine zLV (ρ 31) rfl ?_
    rfl
  exact zGoo_ato hJ hD
theorem vn246a0_4 {S : Nat → zSpc} (hS225 : zIm S 225 sn225) (hS226 : zIm S 226 sn226) (hS227 : zIm S 227 sn227) (hS232 : zIm S 232 sn232) (hS245 : zIm S 245 sn245) {a : List Int} {g : rHp} : ∀ (ρ : Nat → Int) (γ : Nat → rHp), jn246 a g 0 (zAg (zNA a246_ 0) ρ) (γ 1) → zO 22 S a g q246a0_4 ρ γ → zGl (fun i vs g1 => jn246 a g i vs g1) (sn246 a g) q246a0_4 ρ γ := by
  intro ρ γ hJ h
  obtain ⟨ha, hg, hr, hf, hm, hc, hl⟩ := h
  have ha : a = [ρ 0, ρ 1, ρ 2, ρ 3, ρ 4, ρ 5, ρ 6, ρ 7, ρ 8, ρ 9, ρ 10, ρ 11, ρ 12, ρ 13, ρ 14, ρ 15, ρ 16, ρ 17, ρ 18, ρ 19, ρ 20, ρ 21] := ha
  subst ha
  subst hg
  have hJ : jn246 [ρ 0, ρ 1, ρ 2, ρ 3, ρ 4, ρ 5, ρ 6, ρ 7, ρ 8, ρ 9, ρ 10, ρ 11, ρ 12, ρ 13, ρ 14, ρ 15, ρ 16, ρ 17, ρ 18, ρ 19, ρ 20, ρ 21] (γ 0) 0 [ρ 0, ρ 1, ρ 2, ρ 3, ρ 4, ρ 5, ρ 6, ρ 7, ρ 8, ρ 9, ρ 10, ρ 11, ρ 12, ρ 13, ρ 14, ρ 15, ρ 16, ρ 17, ρ 18, ρ 19, ρ 20, ρ 21, ρ 22, ρ 23, ρ 24, ρ 25, ρ 26, ρ 27, ρ 28, ρ 29, ρ 30] (γ 1) := hJ
  have r22 : (0 : Int) ≤ ρ 22 ∧ ρ 22 ≤ 1999 := zRnA hr 22
  have r23 : (0 : Int) ≤ ρ 23 ∧ ρ 23 ≤ 2000 := zRnA hr 23
  have f0 : (0 : Int) ≤ -ρ 24 + ρ 23 := zAllA hf 0
  have f1 : (0 : Int) ≤ -ρ 23 + ρ 9 + (-1) := zAllA hf 1
  obtain ⟨w_0, w_1, w_2, w_3⟩ : (¬ (ρ 23 < 0)) ∧ (¬ (ρ 23 ≥ ρ 9)) ∧ (¬ (ρ 22 ≥ 2000)) ∧ (¬ (ρ 23 < ρ 24)) := ⟨by omega, by omega, by omega, by omega⟩
  have m4 : γ 0 6 0 7 = ρ 4 := zAllA hm 4
  have m9 : γ 0 6 0 11 = ρ 9 := zAllA hm 9
  have m10 : γ 0 6 0 12 = ρ 10 := zAllA hm 10
  have m26 : γ 1 6 0 13 = ρ 30 := zAllA hm 26
  have l0 : sn225 [9 * ρ 4 + 8, ρ 23, ρ 18, ρ 19] (γ 1) 0 0 (γ 2) := hS225 _ _ _ _ _ (zAllA hl 0)
  have l1 : sn227 [9 * ρ 4 + 8, ρ 23, ρ 20] (γ 2) 0 (ρ 31) (γ 3) := hS227 _ _ _ _ _ (zAllA hl 1)
  show jn246 [ρ 0, ρ 1, ρ 2, ρ 3, ρ 4, ρ 5, ρ 6, ρ 7, ρ 8, ρ 9, ρ 10, ρ 11, ρ 12, ρ 13, ρ 14, ρ 15, ρ 16, ρ 17, ρ 18, ρ 19, ρ 20, ρ 21] (γ 0) 0 [ρ 0, ρ 1, ρ 2, ρ 3, ρ 4, ρ 5, ρ 6, ρ 7, ρ 8, ρ 9, ρ 10, ρ 11, ρ 12, ρ 13, ρ 14, ρ 15, ρ 16, ρ 17, ρ 18, ρ 19, ρ 20, ρ 21, ρ 22 + 1, ρ 31, ρ 24, ρ 25, ρ 26, ρ 27, ρ 28, ρ 29, ρ 30] (γ 3)
  have hD : en246 (γ 0) (0, [ρ 22, ρ 23, ρ 24, ρ 25], γ 1) = .inl (0, [ρ 22 + 1, ρ 31, ρ 24, ρ 25], γ 3) := by
    unfold en246
    refine zIP (show (0 : Nat) = 0 by decide) (zLV (γ 1) rfl (zLV (ρ 22) rfl (zLV (ρ 23) rfl (zLV (ρ 24) rfl (zLV (ρ 25) rfl (zLE m4 (zLE m9 ?_)))))))
    refine zLE m10 (zLE m26 (zIN w_0 (zIN w_1 (zIN w_2 (zIN w_3 (zLE (show fn225 [9 * ρ 4 + 8, ρ 23] (γ 1) = (0, 0, γ 2) from l0.symm) (zLV (γ 2) rfl ?_)))))))
    refine zIN zQ0_ (zLE (show fn227 [9 * ρ 4 + 8, ρ 23] (γ 2) = (0, ρ 31, γ 3) from l1.symm) (zLV (γ 3) rfl (zLV (ρ 31) rfl ?_)))
    rfl
  exact zGoo_ato hJ hD
theorem vn246a0_5 {S : Nat → zSpc} (hS225 : zIm S 225 sn225) (hS226 : zIm S 226 sn226) (hS227 : zIm S 227 sn227) (hS232 : zIm S 232 sn232) (hS245 : zIm S 245 sn245) {a : List Int} {g : rHp} : ∀ (ρ : Nat → Int) (γ : Nat → rHp), jn246 a g 0 (zAg (zNA a246_ 0) ρ) (γ 1) → zO 22 S a g q246a0_5 ρ γ → zGl (fun i vs g1 => jn246 a g i vs g1) (sn246 a g) q246a0_5 ρ γ := by
  intro ρ γ hJ h
  obtain ⟨ha, hg, hr, hf, hm, hc, hl⟩ := h
  have ha : a = [ρ 0, ρ 1, ρ 2, ρ 3, ρ 4, ρ 5, ρ 6, ρ 7, ρ 8, ρ 9, ρ 10, ρ 11, ρ 12, ρ 13, ρ 14, ρ 15, ρ 16, ρ 17, ρ 18, ρ 19, ρ 20, ρ 21] := ha
  subst ha
  subst hg
  have hJ : jn246 [ρ 0, ρ 1, ρ 2, ρ 3, ρ 4, ρ 5, ρ 6, ρ 7, ρ 8, ρ 9, ρ 10, ρ 11, ρ 12, ρ 13, ρ 14, ρ 15, ρ 16, ρ 17, ρ 18, ρ 19, ρ 20, ρ 21] (γ 0) 0 [ρ 0, ρ 1, ρ 2, ρ 3, ρ 4, ρ 5, ρ 6, ρ 7, ρ 8, ρ 9, ρ 10, ρ 11, ρ 12, ρ 13, ρ 14, ρ 15, ρ 16, ρ 17, ρ 18, ρ 19, ρ 20, ρ 21, ρ 22, ρ 23, ρ 24, ρ 25, ρ 26, ρ 27, ρ 28, ρ 29, ρ 30] (γ 1) := hJ
  have r22 : (0 : Int) ≤ ρ 22 ∧ ρ 22 ≤ 1999 := zRnA hr 22
  have r23 : (0 : Int) ≤ ρ 23 ∧ ρ 23 ≤ 2000 := zRnA hr 23
  have f5 : (0 : Int) ≤ -ρ 23 + ρ 10 + (-1) := zAllA hf 5
  have f6 : (0 : Int) ≤ -ρ 24 + ρ 23 := zAllA hf 6
  have f7 : (0 : Int) ≤ -ρ 23 + ρ 9 + (-1) := zAllA hf 7
  obtain ⟨w_0, w_1, w_2, w_3, w_4⟩ : (¬ (ρ 23 < 0)) ∧ (¬ (ρ 23 ≥ ρ 9)) ∧ (¬ (ρ 22 ≥ 2000)) ∧ (¬ (ρ 23 < ρ 24)) ∧ (ρ 23 < ρ 10) := ⟨by omega, by omega, by omega, by omega, by omega⟩
  have m4 : γ 0 6 0 7 = ρ 4 := zAllA hm 4
  have m9 : γ 0 6 0 11 = ρ 9 := zAllA hm 9
  have m10 : γ 0 6 0 12 = ρ 10 := zAllA hm 10
  have m26 : γ 1 6 0 13 = ρ 30 := zAllA hm 26
  have c4 : γ 4 = rUp (γ 3) 6 0 13 (ρ 30) := And.right (zChA hc 3)
  have c6 : γ 6 = rUp (γ 5) 6 0 13 (ρ 30) := And.right (zChA hc 1)
  have l0 : sn225 [9 * ρ 4 + 8, ρ 23, ρ 18, ρ 19] (γ 1) 0 1 (γ 2) := hS225 _ _ _ _ _ (zAllA hl 0)
  have l1 : sn232 [9 * ρ 4 + 8, ρ 23, ρ 26, ρ 21] (γ 2) 0 0 (γ 3) := hS232 _ _ _ _ _ (zAllA hl 1)
  have l2 : sn245 [ρ 26 + 1, ρ 1, ρ 2, ρ 27, ρ 4, ρ 28, ρ 29, ρ 7, ρ 8, ρ 12, ρ 13, ρ 14, ρ 15, ρ 16, ρ 17] (γ 4) 0 0 (γ 5) := hS245 _ _ _ _ _ (zAllA hl 2)
  have l3 : sn227 [9 * ρ 4 + 8, ρ 23, ρ 20] (γ 6) 0 (ρ 34) (γ 7) := hS227 _ _ _ _ _ (zAllA hl 3)
  show jn246 [ρ 0, ρ 1, ρ 2, ρ 3, ρ 4, ρ 5, ρ 6, ρ 7, ρ 8, ρ 9, ρ 10, ρ 11, ρ 12, ρ 13, ρ 14, ρ 15, ρ 16, ρ 17, ρ 18, ρ 19, ρ 20, ρ 21] (γ 0) 0 [ρ 0, ρ 1, ρ 2, ρ 3, ρ 4, ρ 5, ρ 6, ρ 7, ρ 8, ρ 9, ρ 10, ρ 11, ρ 12, ρ 13, ρ 14, ρ 15, ρ 16, ρ 17, ρ 18, ρ 19, ρ 20, ρ 21, ρ 22 + 1, ρ 34, ρ 24, ρ 25, ρ 26 + 1, ρ 31, ρ 32, ρ 33, ρ 30] (γ 7)
  have hD : en246 (γ 0) (0, [ρ 22, ρ 23, ρ 24, ρ 25], γ 1) = .inl (0, [ρ 22 + 1, ρ 34, ρ 24, ρ 25], γ 7) := by
    unfold en246
    refine zIP (show (0 : Nat) = 0 by decide) (zLV (γ 1) rfl (zLV (ρ 22) rfl (zLV (ρ 23) rfl (zLV (ρ 24) rfl (zLV (ρ 25) rfl (zLE m4 (zLE m9 ?_)))))))
    refine zLE m10 (zLE m26 (zIN w_0 (zIN w_1 (zIN w_2 (zIN w_3 (zLE (show fn225 [9 * ρ 4 + 8, ρ 23] (γ 1) = (0, 1, γ 2) from l0.symm) (zLV (γ 2) rfl ?_)))))))
    refine zIP zQ1_ (zLE (show fn232 [9 * ρ 4 + 8, ρ 23] (γ 2) = (0, 0, γ 3) from l1.symm) (zLV (γ 3) rfl (zIP (show (0 : Nat) = 0 by decide) (zIP w_4 (zLE c4.symm (zLE (show fn245 [] (γ 4) = (0, 0, γ 5) from l2.symm) (zLV (γ 5) rfl ?_)))))))
    refine zIP (show (0 : Nat) = 0 by decide) (zLE c6.symm (zLE (show fn227 [9 * ρ 4 + 8, ρ 23] (γ 6) = (0, ρ 34, γ 7) from l3.symm) (zLV (γ 7) rfl (zLV (ρ 34) rfl ?_))))
    rfl
  exact zGoo_ato hJ hD
theorem vn246a0_6 {S : Nat → zSpc} (hS225 : zIm S 225 sn225) (hS226 : zIm S 226 sn226) (hS227 : zIm S 227 sn227) (hS232 : zIm S 232 sn232) (hS245 : zIm S 245 sn245) {a : List Int} {g : rHp} : ∀ (ρ : Nat → Int) (γ : Nat → rHp), jn246 a g 0 (zAg (zNA a246_ 0) ρ) (γ 1) → zO 22 S a g q246a0_6 ρ γ → zGl (fun i vs g1 => jn246 a g i vs g1) (sn246 a g) q246a0_6 ρ γ := by
  intro ρ γ hJ h
  obtain ⟨ha, hg, hr, hf, hm, hc, hl⟩ := h
  have ha : a = [ρ 0, ρ 1, ρ 2, ρ 3, ρ 4, ρ 5, ρ 6, ρ 7, ρ 8, ρ 9, ρ 10, ρ 11, ρ 12, ρ 13, ρ 14, ρ 15, ρ 16, ρ 17, ρ 18, ρ 19, ρ 20, ρ 21] := ha
  subst ha
  subst hg
  have hJ : jn246 [ρ 0, ρ 1, ρ 2, ρ 3, ρ 4, ρ 5, ρ 6, ρ 7, ρ 8, ρ 9, ρ 10, ρ 11, ρ 12, ρ 13, ρ 14, ρ 15, ρ 16, ρ 17, ρ 18, ρ 19, ρ 20, ρ 21] (γ 0) 0 [ρ 0, ρ 1, ρ 2, ρ 3, ρ 4, ρ 5, ρ 6, ρ 7, ρ 8, ρ 9, ρ 10, ρ 11, ρ 12, ρ 13, ρ 14, ρ 15, ρ 16, ρ 17, ρ 18, ρ 19, ρ 20, ρ 21, ρ 22, ρ 23, ρ 24, ρ 25, ρ 26, ρ 27, ρ 28, ρ 29, ρ 30] (γ 1) := hJ
  have r22 : (0 : Int) ≤ ρ 22 ∧ ρ 22 ≤ 1999 := zRnA hr 22
  have r23 : (0 : Int) ≤ ρ 23 ∧ ρ 23 ≤ 2000 := zRnA hr 23
  have f1 : (0 : Int) ≤ -ρ 23 + ρ 10 + (-1) := zAllA hf 1
  have f2 : (0 : Int) ≤ -ρ 24 + ρ 23 := zAllA hf 2
  have f3 : (0 : Int) ≤ -ρ 23 + ρ 9 + (-1) := zAllA hf 3
  obtain ⟨w_0, w_1, w_2, w_3, w_4⟩ : (¬ (ρ 23 < 0)) ∧ (¬ (ρ 23 ≥ ρ 9)) ∧ (¬ (ρ 22 ≥ 2000)) ∧ (¬ (ρ 23 < ρ 24)) ∧ (ρ 23 < ρ 10) := ⟨by omega, by omega, by omega, by omega, by omega⟩
  have m4 : γ 0 6 0 7 = ρ 4 := zAllA hm 4
  have m9 : γ 0 6 0 11 = ρ 9 := zAllA hm 9
  have m10 : γ 0 6 0 12 = ρ 10 := zAllA hm 10
  have m26 : γ 1 6 0 13 = ρ 30 := zAllA hm 26
  have c4 : γ 4 = rUp (γ 3) 6 0 13 (ρ 30) := And.right (zChA hc 1)
  have l0 : sn225 [9 * ρ 4 + 8, ρ 23, ρ 18, ρ 19] (γ 1) 0 1 (γ 2) := hS225 _ _ _ _ _ (zAllA hl 0)
  have l1 : sn232 [9 * ρ 4 + 8, ρ 23, ρ 26, ρ 21] (γ 2) 0 0 (γ 3) := hS232 _ _ _ _ _ (zAllA hl 1)
  have l2 : sn245 [ρ 26 + 1, ρ 1, ρ 2, ρ 27, ρ 4, ρ 28, ρ 29, ρ 7, ρ 8, ρ 12, ρ 13, ρ 14, ρ 15, ρ 16, ρ 17] (γ 4) 1 0 (γ 5) := hS245 _ _ _ _ _ (zAllA hl 2)
  show sn246 [ρ 0, ρ 1, ρ 2, ρ 3, ρ 4, ρ 5, ρ 6, ρ 7, ρ 8, ρ 9, ρ 10, ρ 11, ρ 12, ρ 13, ρ 14, ρ 15, ρ 16, ρ 17, ρ 18, ρ 19, ρ 20, ρ 21] (γ 0) 1 0 (γ 5)
  have hD : en246 (γ 0) (0, [ρ 22, ρ 23, ρ 24, ρ 25], γ 1) = .inr (1, 0, γ 5) := by
    unfold en246
    refine zIP (show (0 : Nat) = 0 by decide) (zLV (γ 1) rfl (zLV (ρ 22) rfl (zLV (ρ 23) rfl (zLV (ρ 24) rfl (zLV (ρ 25) rfl (zLE m4 (zLE m9 ?_)))))))
    refine zLE m10 (zLE m26 (zIN w_0 (zIN w_1 (zIN w_2 (zIN w_3 (zLE (show fn225 [9 * ρ 4 + 8, ρ 23] (γ 1) = (0, 1, γ 2) from l0.symm) (zLV (γ 2) rfl ?_)))))))
    refine zIP zQ1_ (zLE (show fn232 [9 * ρ 4 + 8, ρ 23] (γ 2) = (0, 0, γ 3) from l1.symm) (zLV (γ 3) rfl (zIP (show (0 : Nat) = 0 by decide) (zIP w_4 (zLE c4.symm (zLE (show fn245 [] (γ 4) = (1, 0, γ 5) from l2.symm) (zLV (γ 5) rfl ?_)))))))
    refine zIN (show ¬ (1 : Nat) = 0 by decide) ?_
    rfl
  exact zGoo_aend hJ hD
theorem vn246a0_7 {S : Nat → zSpc} (hS225 : zIm S 225 sn225) (hS226 : zIm S 226 sn226) (hS227 : zIm S 227 sn227) (hS232 : zIm S 232 sn232) (hS245 : zIm S 245 sn245) {a : List Int} {g : rHp} : ∀ (ρ : Nat → Int) (γ : Nat → rHp), jn246 a g 0 (zAg (zNA a246_ 0) ρ) (γ 1) → zO 22 S a g q246a0_7 ρ γ → zGl (fun i vs g1 => jn246 a g i vs g1) (sn246 a g) q246a0_7 ρ γ := by
  intro ρ γ hJ h
  obtain ⟨ha, hg, hr, hf, hm, hc, hl⟩ := h
  have ha : a = [ρ 0, ρ 1, ρ 2, ρ 3, ρ 4, ρ 5, ρ 6, ρ 7, ρ 8, ρ 9, ρ 10, ρ 11, ρ 12, ρ 13, ρ 14, ρ 15, ρ 16, ρ 17, ρ 18, ρ 19, ρ 20, ρ 21] := ha
  subst ha
  subst hg
  have hJ : jn246 [ρ 0, ρ 1, ρ 2, ρ 3, ρ 4, ρ 5, ρ 6, ρ 7, ρ 8, ρ 9, ρ 10, ρ 11, ρ 12, ρ 13, ρ 14, ρ 15, ρ 16, ρ 17, ρ 18, ρ 19, ρ 20, ρ 21] (γ 0) 0 [ρ 0, ρ 1, ρ 2, ρ 3, ρ 4, ρ 5, ρ 6, ρ 7, ρ 8, ρ 9, ρ 10, ρ 11, ρ 12, ρ 13, ρ 14, ρ 15, ρ 16, ρ 17, ρ 18, ρ 19, ρ 20, ρ 21, ρ 22, ρ 23, ρ 24, ρ 25, ρ 26, ρ 27, ρ 28, ρ 29, ρ 30] (γ 1) := hJ
  have r22 : (0 : Int) ≤ ρ 22 ∧ ρ 22 ≤ 1999 := zRnA hr 22
  have r23 : (0 : Int) ≤ ρ 23 ∧ ρ 23 ≤ 2000 := zRnA hr 23
  have f5 : (0 : Int) ≤ ρ 23 + -ρ 10 := zAllA hf 5
  have f6 : (0 : Int) ≤ -ρ 24 + ρ 23 := zAllA hf 6
  have f7 : (0 : Int) ≤ -ρ 23 + ρ 9 + (-1) := zAllA hf 7
  obtain ⟨w_0, w_1, w_2, w_3, w_4⟩ : (¬ (ρ 23 < 0)) ∧ (¬ (ρ 23 ≥ ρ 9)) ∧ (¬ (ρ 22 ≥ 2000)) ∧ (¬ (ρ 23 < ρ 24)) ∧ (¬ (ρ 23 < ρ 10)) := ⟨by omega, by omega, by omega, by omega, by omega⟩
  have m4 : γ 0 6 0 7 = ρ 4 := zAllA hm 4
  have m9 : γ 0 6 0 11 = ρ 9 := zAllA hm 9
  have m10 : γ 0 6 0 12 = ρ 10 := zAllA hm 10
  have m26 : γ 1 6 0 13 = ρ 30 := zAllA hm 26
  have c4 : γ 4 = rUp (γ 3) 6 0 13 (ρ 31) := And.right (zChA hc 3)
  have c6 : γ 6 = rUp (γ 5) 6 0 13 (ρ 35) := And.right (zChA hc 1)
  have l0 : sn225 [9 * ρ 4 + 8, ρ 23, ρ 18, ρ 19] (γ 1) 0 1 (γ 2) := hS225 _ _ _ _ _ (zAllA hl 0)
  have l1 : sn232 [9 * ρ 4 + 8, ρ 23, ρ 26, ρ 21] (γ 2) 0 0 (γ 3) := hS232 _ _ _ _ _ (zAllA hl 1)
  have l2 : zOpP (.iadd) (γ 0) (γ 1) [ρ 30, 1] (ρ 31) := zAllA hl 2
  have l3 : sn245 [ρ 26 + 1, ρ 1, ρ 2, ρ 27, ρ 4, ρ 28, ρ 29, ρ 7, ρ 8, ρ 12, ρ 13, ρ 14, ρ 15, ρ 16, ρ 17] (γ 4) 0 0 (γ 5) := hS245 _ _ _ _ _ (zAllA hl 3)
  have l4 : zOpP (.isub) (γ 0) (γ 1) [ρ 31, 1] (ρ 35) := zAllA hl 4
  have l5 : sn227 [9 * ρ 4 + 8, ρ 23, ρ 20] (γ 6) 0 (ρ 36) (γ 7) := hS227 _ _ _ _ _ (zAllA hl 5)
  show jn246 [ρ 0, ρ 1, ρ 2, ρ 3, ρ 4, ρ 5, ρ 6, ρ 7, ρ 8, ρ 9, ρ 10, ρ 11, ρ 12, ρ 13, ρ 14, ρ 15, ρ 16, ρ 17, ρ 18, ρ 19, ρ 20, ρ 21] (γ 0) 0 [ρ 0, ρ 1, ρ 2, ρ 3, ρ 4, ρ 5, ρ 6, ρ 7, ρ 8, ρ 9, ρ 10, ρ 11, ρ 12, ρ 13, ρ 14, ρ 15, ρ 16, ρ 17, ρ 18, ρ 19, ρ 20, ρ 21, ρ 22 + 1, ρ 36, ρ 24, ρ 25, ρ 26 + 1, ρ 32, ρ 33, ρ 34, ρ 35] (γ 7)
  have hD : en246 (γ 0) (0, [ρ 22, ρ 23, ρ 24, ρ 25], γ 1) = .inl (0, [ρ 22 + 1, ρ 36, ρ 24, ρ 25], γ 7) := by
    unfold en246
    refine zIP (show (0 : Nat) = 0 by decide) (zLV (γ 1) rfl (zLV (ρ 22) rfl (zLV (ρ 23) rfl (zLV (ρ 24) rfl (zLV (ρ 25) rfl (zLE m4 (zLE m9 ?_)))))))
    refine zLE m10 (zLE m26 (zIN w_0 (zIN w_1 (zIN w_2 (zIN w_3 (zLE (show fn225 [9 * ρ 4 + 8, ρ 23] (γ 1) = (0, 1, γ 2) from l0.symm) (zLV (γ 2) rfl ?_)))))))
    refine zIP zQ1_ (zLE (show fn232 [9 * ρ 4 + 8, ρ 23] (γ 2) = (0, 0, γ 3) from l1.symm) (zLV (γ 3) rfl (zIP (show (0 : Nat) = 0 by decide) (zIN w_4 (zLE (zF2_ok l2) (zLE c4.symm (zLE (show fn245 [] (γ 4) = (0, 0, γ 5) from l3.symm) ?_)))))))
    refine zLV (γ 5) rfl (zIP (show (0 : Nat) = 0 by decide) (zLE (zF2_ok l4) (zLE c6.symm (zLE (show fn227 [9 * ρ 4 + 8, ρ 23] (γ 6) = (0, ρ 36, γ 7) from l5.symm) (zLV (γ 7) rfl (zLV (ρ 36) rfl ?_))))))
    rfl
  exact zGoo_ato hJ hD
theorem vn246a0_8 {S : Nat → zSpc} (hS225 : zIm S 225 sn225) (hS226 : zIm S 226 sn226) (hS227 : zIm S 227 sn227) (hS232 : zIm S 232 sn232) (hS245 : zIm S 245 sn245) {a : List Int} {g : rHp} : ∀ (ρ : Nat → Int) (γ : Nat → rHp), jn246 a g 0 (zAg (zNA a246_ 0) ρ) (γ 1) → zO 22 S a g q246a0_8 ρ γ → zGl (fun i vs g1 => jn246 a g i vs g1) (sn246 a g) q246a0_8 ρ γ := by
  intro ρ γ hJ h
  obtain ⟨ha, hg, hr, hf, hm, hc, hl⟩ := h
  have ha : a = [ρ 0, ρ 1, ρ 2, ρ 3, ρ 4, ρ 5, ρ 6, ρ 7, ρ 8, ρ 9, ρ 10, ρ 11, ρ 12, ρ 13, ρ 14, ρ 15, ρ 16, ρ 17, ρ 18, ρ 19, ρ 20, ρ 21] := ha
  subst ha
  subst hg
  have hJ : jn246 [ρ 0, ρ 1, ρ 2, ρ 3, ρ 4, ρ 5, ρ 6, ρ 7, ρ 8, ρ 9, ρ 10, ρ 11, ρ 12, ρ 13, ρ 14, ρ 15, ρ 16, ρ 17, ρ 18, ρ 19, ρ 20, ρ 21] (γ 0) 0 [ρ 0, ρ 1, ρ 2, ρ 3, ρ 4, ρ 5, ρ 6, ρ 7, ρ 8, ρ 9, ρ 10, ρ 11, ρ 12, ρ 13, ρ 14, ρ 15, ρ 16, ρ 17, ρ 18, ρ 19, ρ 20, ρ 21, ρ 22, ρ 23, ρ 24, ρ 25, ρ 26, ρ 27, ρ 28, ρ 29, ρ 30] (γ 1) := hJ
  have r22 : (0 : Int) ≤ ρ 22 ∧ ρ 22 ≤ 1999 := zRnA hr 22
  have r23 : (0 : Int) ≤ ρ 23 ∧ ρ 23 ≤ 2000 := zRnA hr 23
  have f1 : (0 : Int) ≤ ρ 23 + -ρ 10 := zAllA hf 1
  have f2 : (0 : Int) ≤ -ρ 24 + ρ 23 := zAllA hf 2
  have f3 : (0 : Int) ≤ -ρ 23 + ρ 9 + (-1) := zAllA hf 3
  obtain ⟨w_0, w_1, w_2, w_3, w_4⟩ : (¬ (ρ 23 < 0)) ∧ (¬ (ρ 23 ≥ ρ 9)) ∧ (¬ (ρ 22 ≥ 2000)) ∧ (¬ (ρ 23 < ρ 24)) ∧ (¬ (ρ 23 < ρ 10)) := ⟨by omega, by omega, by omega, by omega, by omega⟩
  have m4 : γ 0 6 0 7 = ρ 4 := zAllA hm 4
  have m9 : γ 0 6 0 11 = ρ 9 := zAllA hm 9
  have m10 : γ 0 6 0 12 = ρ 10 := zAllA hm 10
  have m26 : γ 1 6 0 13 = ρ 30 := zAllA hm 26
  have c4 : γ 4 = rUp (γ 3) 6 0 13 (ρ 31) := And.right (zChA hc 1)
  have l0 : sn225 [9 * ρ 4 + 8, ρ 23, ρ 18, ρ 19] (γ 1) 0 1 (γ 2) := hS225 _ _ _ _ _ (zAllA hl 0)
  have l1 : sn232 [9 * ρ 4 + 8, ρ 23, ρ 26, ρ 21] (γ 2) 0 0 (γ 3) := hS232 _ _ _ _ _ (zAllA hl 1)
  have l2 : zOpP (.iadd) (γ 0) (γ 1) [ρ 30, 1] (ρ 31) := zAllA hl 2
  have l3 : sn245 [ρ 26 + 1, ρ 1, ρ 2, ρ 27, ρ 4, ρ 28, ρ 29, ρ 7, ρ 8, ρ 12, ρ 13, ρ 14, ρ 15, ρ 16, ρ 17] (γ 4) 1 0 (γ 5) := hS245 _ _ _ _ _ (zAllA hl 3)
  show sn246 [ρ 0, ρ 1, ρ 2, ρ 3, ρ 4, ρ 5, ρ 6, ρ 7, ρ 8, ρ 9, ρ 10, ρ 11, ρ 12, ρ 13, ρ 14, ρ 15, ρ 16, ρ 17, ρ 18, ρ 19, ρ 20, ρ 21] (γ 0) 1 0 (γ 5)
  have hD : en246 (γ 0) (0, [ρ 22, ρ 23, ρ 24, ρ 25], γ 1) = .inr (1, 0, γ 5) := by
    unfold en246
    refine zIP (show (0 : Nat) = 0 by decide) (zLV (γ 1) rfl (zLV (ρ 22) rfl (zLV (ρ 23) rfl (zLV (ρ 24) rfl (zLV (ρ 25) rfl (zLE m4 (zLE m9 ?_)))))))
    refine zLE m10 (zLE m26 (zIN w_0 (zIN w_1 (zIN w_2 (zIN w_3 (zLE (show fn225 [9 * ρ 4 + 8, ρ 23] (γ 1) = (0, 1, γ 2) from l0.symm) (zLV (γ 2) rfl ?_)))))))
    refine zIP zQ1_ (zLE (show fn232 [9 * ρ 4 + 8, ρ 23] (γ 2) = (0, 0, γ 3) from l1.symm) (zLV (γ 3) rfl (zIP (show (0 : Nat) = 0 by decide) (zIN w_4 (zLE (zF2_ok l2) (zLE c4.symm (zLE (show fn245 [] (γ 4) = (1, 0, γ 5) from l3.symm) ?_)))))))
    refine zLV (γ 5) rfl (zIN (show ¬ (1 : Nat) = 0 by decide) ?_)
    rfl
  exact zGoo_aend hJ hD
theorem vn246a0_9 {S : Nat → zSpc} (hS225 : zIm S 225 sn225) (hS226 : zIm S 226 sn226) (hS227 : zIm S 227 sn227) (hS232 : zIm S 232 sn232) (hS245 : zIm S 245 sn245) {a : List Int} {g : rHp} : ∀ (ρ : Nat → Int) (γ : Nat → rHp), jn246 a g 0 (zAg (zNA a246_ 0) ρ) (γ 1) → zO 22 S a g q246a0_9 ρ γ → zGl (fun i vs g1 => jn246 a g i vs g1) (sn246 a g) q246a0_9 ρ γ := by
  intro ρ γ hJ h
  obtain ⟨ha, hg, hr, hf, hm, hc, hl⟩ := h
  have ha : a = [ρ 0, ρ 1, ρ 2, ρ 3, ρ 4, ρ 5, ρ 6, ρ 7, ρ 8, ρ 9, ρ 10, ρ 11, ρ 12, ρ 13, ρ 14, ρ 15, ρ 16, ρ 17, ρ 18, ρ 19, ρ 20, ρ 21] := ha
  subst ha
  subst hg
  have hJ : jn246 [ρ 0, ρ 1, ρ 2, ρ 3, ρ 4, ρ 5, ρ 6, ρ 7, ρ 8, ρ 9, ρ 10, ρ 11, ρ 12, ρ 13, ρ 14, ρ 15, ρ 16, ρ 17, ρ 18, ρ 19, ρ 20, ρ 21] (γ 0) 0 [ρ 0, ρ 1, ρ 2, ρ 3, ρ 4, ρ 5, ρ 6, ρ 7, ρ 8, ρ 9, ρ 10, ρ 11, ρ 12, ρ 13, ρ 14, ρ 15, ρ 16, ρ 17, ρ 18, ρ 19, ρ 20, ρ 21, ρ 22, ρ 23, ρ 24, ρ 25, ρ 26, ρ 27, ρ 28, ρ 29, ρ 30] (γ 1) := hJ
  have r22 : (0 : Int) ≤ ρ 22 ∧ ρ 22 ≤ 1999 := zRnA hr 22
  have r23 : (0 : Int) ≤ ρ 23 ∧ ρ 23 ≤ 2000 := zRnA hr 23
  have f0 : (0 : Int) ≤ -ρ 24 + ρ 23 := zAllA hf 0
  have f1 : (0 : Int) ≤ -ρ 23 + ρ 9 + (-1) := zAllA hf 1
  obtain ⟨w_0, w_1, w_2, w_3⟩ : (¬ (ρ 23 < 0)) ∧ (¬ (ρ 23 ≥ ρ 9)) ∧ (¬ (ρ 22 ≥ 2000)) ∧ (¬ (ρ 23 < ρ 24)) := ⟨by omega, by omega, by omega, by omega⟩
  have m4 : γ 0 6 0 7 = ρ 4 := zAllA hm 4
  have m9 : γ 0 6 0 11 = ρ 9 := zAllA hm 9
  have m10 : γ 0 6 0 12 = ρ 10 := zAllA hm 10
  have m26 : γ 1 6 0 13 = ρ 30 := zAllA hm 26
  have l0 : sn225 [9 * ρ 4 + 8, ρ 23, ρ 18, ρ 19] (γ 1) 0 1 (γ 2) := hS225 _ _ _ _ _ (zAllA hl 0)
  have l1 : sn232 [9 * ρ 4 + 8, ρ 23, ρ 26, ρ 21] (γ 2) 4 0 (γ 3) := hS232 _ _ _ _ _ (zAllA hl 1)
  show sn246 [ρ 0, ρ 1, ρ 2, ρ 3, ρ 4, ρ 5, ρ 6, ρ 7, ρ 8, ρ 9, ρ 10, ρ 11, ρ 12, ρ 13, ρ 14, ρ 15, ρ 16, ρ 17, ρ 18, ρ 19, ρ 20, ρ 21] (γ 0) 4 0 (γ 3)
  have hD : en246 (γ 0) (0, [ρ 22, ρ 23, ρ 24, ρ 25], γ 1) = .inr (4, 0, γ 3) := by
    unfold en246
    refine zIP (show (0 : Nat) = 0 by decide) (zLV (γ 1) rfl (zLV (ρ 22) rfl (zLV (ρ 23) rfl (zLV (ρ 24) rfl (zLV (ρ 25) rfl (zLE m4 (zLE m9 ?_)))))))
    refine zLE m10 (zLE m26 (zIN w_0 (zIN w_1 (zIN w_2 (zIN w_3 (zLE (show fn225 [9 * ρ 4 + 8, ρ 23] (γ 1) = (0, 1, γ 2) from l0.symm) (zLV (γ 2) rfl ?_)))))))
    refine zIP zQ1_ (zLE (show fn232 [9 * ρ 4 + 8, ρ 23] (γ 2) = (4, 0, γ 3) from l1.symm) (zLV (γ 3) rfl (zIN (show ¬ (4 : Nat) = 0 by decide) ?_)))
    rfl
  exact zGoo_aend hJ hD
theorem yn246 {S : Nat → zSpc} (hS225 : zIm S 225 sn225) (hS226 : zIm S 226 sn226) (hS227 : zIm S 227 sn227) (hS232 : zIm S 232 sn232) (hS245 : zIm S 245 sn245) : ∀ x g o v gz, zSem uW uT w246_.2.2.2.1 w246_.2.2.1.1.length S q246 (fun i => q246a.getD i []) (zNA a246_) x g o v gz → sn246 x g o v gz := by
  intro a g o v gz h
  exact zSem_all (l0 := q246) (las := q246a) (S := S) (J := (fun i vs g1 => jn246 a g i vs g1)) (P := sn246 a g) (fun _ => (show zAll _ [q246_0, q246_1, q246_2, q246_3] from (zAll_c (vn246_0 hS225 hS226 hS227 hS232 hS245) (zAll_c (vn246_1 hS225 hS226 hS227 hS232 hS245) (zAll_c (vn246_2 hS225 hS226 hS227 hS232 hS245) (zAll_c (vn246_3 hS225 hS226 hS227 hS232 hS245) zAll_n)))))) (fun _ => (show zAllI _ 0 [q246a0] from ⟨(show zAll _ [q246a0_0, q246a0_1, q246a0_2, q246a0_3, q246a0_4, q246a0_5, q246a0_6, q246a0_7, q246a0_8, q246a0_9] from (zAll_c (vn246a0_0 hS225 hS226 hS227 hS232 hS245) (zAll_c (vn246a0_1 hS225 hS226 hS227 hS232 hS245) (zAll_c (vn246a0_2 hS225 hS226 hS227 hS232 hS245) (zAll_c (vn246a0_3 hS225 hS226 hS227 hS232 hS245) (zAll_c (vn246a0_4 hS225 hS226 hS227 hS232 hS245) (zAll_c (vn246a0_5 hS225 hS226 hS227 hS232 hS245) (zAll_c (vn246a0_6 hS225 hS226 hS227 hS232 hS245) (zAll_c (vn246a0_7 hS225 hS226 hS227 hS232 hS245) (zAll_c (vn246a0_8 hS225 hS226 hS227 hS232 hS245) (zAll_c (vn246a0_9 hS225 hS226 hS227 hS232 hS245) zAll_n))))))))))), trivial⟩)) h
