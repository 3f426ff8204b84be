/-! ===== the runs are the functions ===== -/
theorem vn77_0 {S : Nat → zSpc}  {a : List Int} {g : rHp} : ∀ (ρ : Nat → Int) (γ : Nat → rHp), zO 24 S a g q77_0 ρ γ → zGl (fun i vs g1 => jn77 a g i vs g1) (sn77 a g) q77_0 ρ γ := by
  intro ρ γ h
  obtain ⟨ha, hg, hr, hf, hm, hc, hl⟩ := h
  have ha : a = [ρ 0, ρ 1, ρ 2, ρ 3, ρ 4, ρ 5, ρ 6, ρ 7, ρ 8, ρ 9, ρ 10, ρ 11, ρ 12, ρ 13, ρ 14, ρ 15, ρ 16, ρ 17, ρ 18, ρ 19, ρ 20, ρ 21, ρ 22, ρ 23] := ha
  subst ha
  subst hg
  show jn77 [ρ 0, ρ 1, ρ 2, ρ 3, ρ 4, ρ 5, ρ 6, ρ 7, ρ 8, ρ 9, ρ 10, ρ 11, ρ 12, ρ 13, ρ 14, ρ 15, ρ 16, ρ 17, ρ 18, ρ 19, ρ 20, ρ 21, ρ 22, ρ 23] (γ 0) 0 [ρ 0, ρ 1, ρ 2, ρ 3, ρ 4, ρ 5, ρ 6, ρ 7, ρ 8, ρ 9, ρ 10, ρ 11, ρ 12, ρ 13, ρ 14, ρ 15, ρ 16, ρ 17, ρ 18, ρ 19, ρ 20, ρ 21, ρ 22, ρ 23, 0, ρ 3, ρ 4, ρ 5, ρ 6, ρ 7, ρ 8, ρ 9, ρ 10, ρ 11, ρ 12, ρ 13, ρ 14, ρ 15, ρ 16, ρ 17, ρ 18, ρ 19, ρ 20, ρ 21, ρ 22, ρ 23] (γ 0)
  have hD : dn77 [] (γ 0) = .inl (0, [0], γ 0) := by
    unfold dn77
    rfl
  exact zGoo_to hD
theorem vn77a0_0 {S : Nat → zSpc}  {a : List Int} {g : rHp} : ∀ (ρ : Nat → Int) (γ : Nat → rHp), jn77 a g 0 (zAg (zNA a77_ 0) ρ) (γ 1) → zO 24 S a g q77a0_0 ρ γ → zGl (fun i vs g1 => jn77 a g i vs g1) (sn77 a g) q77a0_0 ρ γ := by
  intro ρ γ hJ h
  obtain ⟨ha, hg, hr, hf, hm, hc, hl⟩ := h
  have ha : a = [ρ 0, ρ 1, ρ 2, ρ 3, ρ 4, ρ 5, ρ 6, ρ 7, ρ 8, ρ 9, ρ 10, ρ 11, ρ 12, ρ 13, ρ 14, ρ 15, ρ 16, ρ 17, ρ 18, ρ 19, ρ 20, ρ 21, ρ 22, ρ 23] := ha
  subst ha
  subst hg
  have hJ : jn77 [ρ 0, ρ 1, ρ 2, ρ 3, ρ 4, ρ 5, ρ 6, ρ 7, ρ 8, ρ 9, ρ 10, ρ 11, ρ 12, ρ 13, ρ 14, ρ 15, ρ 16, ρ 17, ρ 18, ρ 19, ρ 20, ρ 21, ρ 22, ρ 23] (γ 0) 0 [ρ 0, ρ 1, ρ 2, ρ 3, ρ 4, ρ 5, ρ 6, ρ 7, ρ 8, ρ 9, ρ 10, ρ 11, ρ 12, ρ 13, ρ 14, ρ 15, ρ 16, ρ 17, ρ 18, ρ 19, ρ 20, ρ 21, ρ 22, ρ 23, ρ 24, ρ 25, ρ 26, ρ 27, ρ 28, ρ 29, ρ 30, ρ 31, ρ 32, ρ 33, ρ 34, ρ 35, ρ 36, ρ 37, ρ 38, ρ 39, ρ 40, ρ 41, ρ 42, ρ 43, ρ 44, ρ 45] (γ 1) := hJ
  have f0 : (0 : Int) ≤ ρ 24 + -ρ 1 := zAllA hf 0
  have w_0 : ρ 24 ≥ ρ 1 := by omega
  have m1 : γ 0 15 0 13 = ρ 1 := zAllA hm 1
  show jn77 [ρ 0, ρ 1, ρ 2, ρ 3, ρ 4, ρ 5, ρ 6, ρ 7, ρ 8, ρ 9, ρ 10, ρ 11, ρ 12, ρ 13, ρ 14, ρ 15, ρ 16, ρ 17, ρ 18, ρ 19, ρ 20, ρ 21, ρ 22, ρ 23] (γ 0) 1 [ρ 0, ρ 1, ρ 2, ρ 3, ρ 4, ρ 5, ρ 6, ρ 7, ρ 8, ρ 9, ρ 10, ρ 11, ρ 12, ρ 13, ρ 14, ρ 15, ρ 16, ρ 17, ρ 18, ρ 19, ρ 20, ρ 21, ρ 22, ρ 23, 1, ρ 25, ρ 26, ρ 27, ρ 28, ρ 29, ρ 30, ρ 31, ρ 32, ρ 33, ρ 34, ρ 35, ρ 36, ρ 37, ρ 38, ρ 39, ρ 40, ρ 41, ρ 42, ρ 43, ρ 44, ρ 45] (γ 1)
  have hD : en77 (γ 0) (0, [ρ 24], γ 1) = .inl (1, [1], γ 1) := by
    unfold en77
    refine zIP (show (0 : Nat) = 0 by decide) (zLV (γ 1) rfl (zLV (ρ 24) rfl (zLE m1 (zIP w_0 ?_))))
    rfl
  exact zGoo_ato hJ hD
theorem vn77a0_1 {S : Nat → zSpc}  {a : List Int} {g : rHp} : ∀ (ρ : Nat → Int) (γ : Nat → rHp), jn77 a g 0 (zAg (zNA a77_ 0) ρ) (γ 1) → zO 24 S a g q77a0_1 ρ γ → zGl (fun i vs g1 => jn77 a g i vs g1) (sn77 a g) q77a0_1 ρ γ := by
  intro ρ γ hJ h
  obtain ⟨ha, hg, hr, hf, hm, hc, hl⟩ := h
  have ha : a = [ρ 0, ρ 1, ρ 2, ρ 3, ρ 4, ρ 5, ρ 6, ρ 7, ρ 8, ρ 9, ρ 10, ρ 11, ρ 12, ρ 13, ρ 14, ρ 15, ρ 16, ρ 17, ρ 18, ρ 19, ρ 20, ρ 21, ρ 22, ρ 23] := ha
  subst ha
  subst hg
  have hJ : jn77 [ρ 0, ρ 1, ρ 2, ρ 3, ρ 4, ρ 5, ρ 6, ρ 7, ρ 8, ρ 9, ρ 10, ρ 11, ρ 12, ρ 13, ρ 14, ρ 15, ρ 16, ρ 17, ρ 18, ρ 19, ρ 20, ρ 21, ρ 22, ρ 23] (γ 0) 0 [ρ 0, ρ 1, ρ 2, ρ 3, ρ 4, ρ 5, ρ 6, ρ 7, ρ 8, ρ 9, ρ 10, ρ 11, ρ 12, ρ 13, ρ 14, ρ 15, ρ 16, ρ 17, ρ 18, ρ 19, ρ 20, ρ 21, ρ 22, ρ 23, ρ 24, ρ 25, ρ 26, ρ 27, ρ 28, ρ 29, ρ 30, ρ 31, ρ 32, ρ 33, ρ 34, ρ 35, ρ 36, ρ 37, ρ 38, ρ 39, ρ 40, ρ 41, ρ 42, ρ 43, ρ 44, ρ 45] (γ 1) := hJ
  have f0 : (0 : Int) ≤ -ρ 24 + ρ 1 + (-1) := zAllA hf 0
  have w_0 : ¬ (ρ 24 ≥ ρ 1) := by omega
  have m1 : γ 0 15 0 13 = ρ 1 := zAllA hm 1
  have c2 : γ 2 = rUp (γ 1) 92 0 (ρ 24) 0 := And.right (zChA hc 0)
  show jn77 [ρ 0, ρ 1, ρ 2, ρ 3, ρ 4, ρ 5, ρ 6, ρ 7, ρ 8, ρ 9, ρ 10, ρ 11, ρ 12, ρ 13, ρ 14, ρ 15, ρ 16, ρ 17, ρ 18, ρ 19, ρ 20, ρ 21, ρ 22, ρ 23] (γ 0) 0 [ρ 0, ρ 1, ρ 2, ρ 3, ρ 4, ρ 5, ρ 6, ρ 7, ρ 8, ρ 9, ρ 10, ρ 11, ρ 12, ρ 13, ρ 14, ρ 15, ρ 16, ρ 17, ρ 18, ρ 19, ρ 20, ρ 21, ρ 22, ρ 23, ρ 24 + 1, ρ 46, ρ 47, ρ 48, ρ 49, ρ 50, ρ 51, ρ 52, ρ 53, ρ 54, ρ 55, ρ 56, ρ 57, ρ 58, ρ 59, ρ 60, ρ 61, ρ 62, ρ 63, ρ 64, ρ 65, ρ 45] (γ 2)
  have hD : en77 (γ 0) (0, [ρ 24], γ 1) = .inl (0, [ρ 24 + 1], γ 2) := by
    unfold en77
    refine zIP (show (0 : Nat) = 0 by decide) (zLV (γ 1) rfl (zLV (ρ 24) rfl (zLE m1 (zIN w_0 (zLE c2.symm ?_)))))
    rfl
  exact zGoo_ato hJ hD
theorem vn77a1_0 {S : Nat → zSpc}  {a : List Int} {g : rHp} : ∀ (ρ : Nat → Int) (γ : Nat → rHp), jn77 a g 1 (zAg (zNA a77_ 1) ρ) (γ 1) → zO 24 S a g q77a1_0 ρ γ → zGl (fun i vs g1 => jn77 a g i vs g1) (sn77 a g) q77a1_0 ρ γ := by
  intro ρ γ hJ h
  obtain ⟨ha, hg, hr, hf, hm, hc, hl⟩ := h
  have ha : a = [ρ 0, ρ 1, ρ 2, ρ 3, ρ 4, ρ 5, ρ 6, ρ 7, ρ 8, ρ 9, ρ 10, ρ 11, ρ 12, ρ 13, ρ 14, ρ 15, ρ 16, ρ 17, ρ 18, ρ 19, ρ 20, ρ 21, ρ 22, ρ 23] := ha
  subst ha
  subst hg
  have hJ : jn77 [ρ 0, ρ 1, ρ 2, ρ 3, ρ 4, ρ 5, ρ 6, ρ 7, ρ 8, ρ 9, ρ 10, ρ 11, ρ 12, ρ 13, ρ 14, ρ 15, ρ 16, ρ 17, ρ 18, ρ 19, ρ 20, ρ 21, ρ 22, ρ 23] (γ 0) 1 [ρ 0, ρ 1, ρ 2, ρ 3, ρ 4, ρ 5, ρ 6, ρ 7, ρ 8, ρ 9, ρ 10, ρ 11, ρ 12, ρ 13, ρ 14, ρ 15, ρ 16, ρ 17, ρ 18, ρ 19, ρ 20, ρ 21, ρ 22, ρ 23, ρ 24, ρ 25, ρ 26, ρ 27, ρ 28, ρ 29, ρ 30, ρ 31, ρ 32, ρ 33, ρ 34, ρ 35, ρ 36, ρ 37, ρ 38, ρ 39, ρ 40, ρ 41, ρ 42, ρ 43, ρ 44, ρ 45] (γ 1) := hJ
  have r24 : (0 : Int) ≤ ρ 24 ∧ ρ 24 ≤ 0 := zRnA hr 24
  have w_0 : ρ 24 = 0 := by omega
  have c2 : γ 2 = rUp (γ 1) 15 0 61 0 := And.right (zChA hc 0)
  show jn77 [ρ 0, ρ 1, ρ 2, ρ 3, ρ 4, ρ 5, ρ 6, ρ 7, ρ 8, ρ 9, ρ 10, ρ 11, ρ 12, ρ 13, ρ 14, ρ 15, ρ 16, ρ 17, ρ 18, ρ 19, ρ 20, ρ 21, ρ 22, ρ 23] (γ 0) 4 [ρ 0, ρ 1, ρ 2, ρ 3, ρ 4, ρ 5, ρ 6, ρ 7, ρ 8, ρ 9, ρ 10, ρ 11, ρ 12, ρ 13, ρ 14, ρ 15, ρ 16, ρ 17, ρ 18, ρ 19, ρ 20, ρ 21, ρ 22, ρ 23, 0, ρ 24, 0, ρ 25, ρ 26, ρ 27, ρ 28, ρ 29, ρ 30, ρ 31, ρ 32, ρ 33, ρ 34, ρ 35, ρ 36, ρ 37, ρ 38, ρ 39, ρ 40, ρ 41, ρ 42, ρ 43, ρ 44, ρ 45] (γ 2)
  have hD : en77 (γ 0) (1, [ρ 24], γ 1) = .inl (4, [0, ρ 24], γ 2) := by
    unfold en77
    refine zIN (show ¬ (1 : Nat) = 0 by decide) (zIP (show (1 : Nat) = 1 by decide) (zLV (γ 1) rfl (zLV (ρ 24) rfl (zIP w_0 (zLE c2.symm ?_)))))
    rfl
  exact zGoo_ato hJ hD
theorem vn77a1_1 {S : Nat → zSpc}  {a : List Int} {g : rHp} : ∀ (ρ : Nat → Int) (γ : Nat → rHp), jn77 a g 1 (zAg (zNA a77_ 1) ρ) (γ 1) → zO 24 S a g q77a1_1 ρ γ → zGl (fun i vs g1 => jn77 a g i vs g1) (sn77 a g) q77a1_1 ρ γ := by
  intro ρ γ hJ h
  obtain ⟨ha, hg, hr, hf, hm, hc, hl⟩ := h
  have ha : a = [ρ 0, ρ 1, ρ 2, ρ 3, ρ 4, ρ 5, ρ 6, ρ 7, ρ 8, ρ 9, ρ 10, ρ 11, ρ 12, ρ 13, ρ 14, ρ 15, ρ 16, ρ 17, ρ 18, ρ 19, ρ 20, ρ 21, ρ 22, ρ 23] := ha
  subst ha
  subst hg
  have hJ : jn77 [ρ 0, ρ 1, ρ 2, ρ 3, ρ 4, ρ 5, ρ 6, ρ 7, ρ 8, ρ 9, ρ 10, ρ 11, ρ 12, ρ 13, ρ 14, ρ 15, ρ 16, ρ 17, ρ 18, ρ 19, ρ 20, ρ 21, ρ 22, ρ 23] (γ 0) 1 [ρ 0, ρ 1, ρ 2, ρ 3, ρ 4, ρ 5, ρ 6, ρ 7, ρ 8, ρ 9, ρ 10, ρ 11, ρ 12, ρ 13, ρ 14, ρ 15, ρ 16, ρ 17, ρ 18, ρ 19, ρ 20, ρ 21, ρ 22, ρ 23, ρ 24, ρ 25, ρ 26, ρ 27, ρ 28, ρ 29, ρ 30, ρ 31, ρ 32, ρ 33, ρ 34, ρ 35, ρ 36, ρ 37, ρ 38, ρ 39, ρ 40, ρ 41, ρ 42, ρ 43, ρ 44, ρ 45] (γ 1) := hJ
  have r24 : (1 : Int) ≤ ρ 24 ∧ ρ 24 ≤ 1 := zRnA hr 24
  have w_0 : ¬ (ρ 24 = 0) := by omega
  show jn77 [ρ 0, ρ 1, ρ 2, ρ 3, ρ 4, ρ 5, ρ 6, ρ 7, ρ 8, ρ 9, ρ 10, ρ 11, ρ 12, ρ 13, ρ 14, ρ 15, ρ 16, ρ 17, ρ 18, ρ 19, ρ 20, ρ 21, ρ 22, ρ 23] (γ 0) 2 [ρ 0, ρ 1, ρ 2, ρ 3, ρ 4, ρ 5, ρ 6, ρ 7, ρ 8, ρ 9, ρ 10, ρ 11, ρ 12, ρ 13, ρ 14, ρ 15, ρ 16, ρ 17, ρ 18, ρ 19, ρ 20, ρ 21, ρ 22, ρ 23, 0, 0, ρ 25, ρ 26, ρ 27, ρ 28, ρ 29, ρ 30, ρ 31, ρ 32, ρ 33, ρ 34, ρ 35, ρ 36, ρ 37, ρ 38, ρ 39, ρ 40, ρ 41, ρ 42, ρ 43, ρ 44, ρ 45] (γ 1)
  have hD : en77 (γ 0) (1, [ρ 24], γ 1) = .inl (2, [0, 0], γ 1) := by
    unfold en77
    refine zIN (show ¬ (1 : Nat) = 0 by decide) (zIP (show (1 : Nat) = 1 by decide) (zLV (γ 1) rfl (zLV (ρ 24) rfl (zIN w_0 ?_))))
    rfl
  exact zGoo_ato hJ hD
theorem vn77a2_0 {S : Nat → zSpc}  {a : List Int} {g : rHp} : ∀ (ρ : Nat → Int) (γ : Nat → rHp), jn77 a g 2 (zAg (zNA a77_ 2) ρ) (γ 1) → zO 24 S a g q77a2_0 ρ γ → zGl (fun i vs g1 => jn77 a g i vs g1) (sn77 a g) q77a2_0 ρ γ := by
  intro ρ γ hJ h
  obtain ⟨ha, hg, hr, hf, hm, hc, hl⟩ := h
  have ha : a = [ρ 0, ρ 1, ρ 2, ρ 3, ρ 4, ρ 5, ρ 6, ρ 7, ρ 8, ρ 9, ρ 10, ρ 11, ρ 12, ρ 13, ρ 14, ρ 15, ρ 16, ρ 17, ρ 18, ρ 19, ρ 20, ρ 21, ρ 22, ρ 23] := ha
  subst ha
  subst hg
  have hJ : jn77 [ρ 0, ρ 1, ρ 2, ρ 3, ρ 4, ρ 5, ρ 6, ρ 7, ρ 8, ρ 9, ρ 10, ρ 11, ρ 12, ρ 13, ρ 14, ρ 15, ρ 16, ρ 17, ρ 18, ρ 19, ρ 20, ρ 21, ρ 22, ρ 23] (γ 0) 2 [ρ 0, ρ 1, ρ 2, ρ 3, ρ 4, ρ 5, ρ 6, ρ 7, ρ 8, ρ 9, ρ 10, ρ 11, ρ 12, ρ 13, ρ 14, ρ 15, ρ 16, ρ 17, ρ 18, ρ 19, ρ 20, ρ 21, ρ 22, ρ 23, ρ 24, ρ 25, ρ 26, ρ 27, ρ 28, ρ 29, ρ 30, ρ 31, ρ 32, ρ 33, ρ 34, ρ 35, ρ 36, ρ 37, ρ 38, ρ 39, ρ 40, ρ 41, ρ 42, ρ 43, ρ 44, ρ 45, ρ 46] (γ 1) := hJ
  have f0 : (0 : Int) ≤ ρ 24 + -ρ 0 := zAllA hf 0
  have w_0 : ρ 24 ≥ ρ 0 := by omega
  have m0 : γ 0 15 0 32 = ρ 0 := zAllA hm 0
  show jn77 [ρ 0, ρ 1, ρ 2, ρ 3, ρ 4, ρ 5, ρ 6, ρ 7, ρ 8, ρ 9, ρ 10, ρ 11, ρ 12, ρ 13, ρ 14, ρ 15, ρ 16, ρ 17, ρ 18, ρ 19, ρ 20, ρ 21, ρ 22, ρ 23] (γ 0) 1 [ρ 0, ρ 1, ρ 2, ρ 3, ρ 4, ρ 5, ρ 6, ρ 7, ρ 8, ρ 9, ρ 10, ρ 11, ρ 12, ρ 13, ρ 14, ρ 15, ρ 16, ρ 17, ρ 18, ρ 19, ρ 20, ρ 21, ρ 22, ρ 23, ρ 25, ρ 26, ρ 27, ρ 28, ρ 29, ρ 30, ρ 31, ρ 32, ρ 33, ρ 34, ρ 35, ρ 36, ρ 37, ρ 38, ρ 39, ρ 40, ρ 41, ρ 42, ρ 43, ρ 44, ρ 45, ρ 46] (γ 1)
  have hD : en77 (γ 0) (2, [ρ 24, ρ 25], γ 1) = .inl (1, [ρ 25], γ 1) := by
    unfold en77
    refine zIN (show ¬ (2 : Nat) = 0 by decide) (zIN (show ¬ (2 : Nat) = 1 by decide) (zIP (show (2 : Nat) = 2 by decide) (zLV (γ 1) rfl (zLV (ρ 24) rfl (zLV (ρ 25) rfl (zLE m0 (zIP w_0 ?_)))))))
    rfl
  exact zGoo_ato hJ hD
theorem vn77a2_1 {S : Nat → zSpc}  {a : List Int} {g : rHp} : ∀ (ρ : Nat → Int) (γ : Nat → rHp), jn77 a g 2 (zAg (zNA a77_ 2) ρ) (γ 1) → zO 24 S a g q77a2_1 ρ γ → zGl (fun i vs g1 => jn77 a g i vs g1) (sn77 a g) q77a2_1 ρ γ := by
  intro ρ γ hJ h
  obtain ⟨ha, hg, hr, hf, hm, hc, hl⟩ := h
  have ha : a = [ρ 0, ρ 1, ρ 2, ρ 3, ρ 4, ρ 5, ρ 6, ρ 7, ρ 8, ρ 9, ρ 10, ρ 11, ρ 12, ρ 13, ρ 14, ρ 15, ρ 16, ρ 17, ρ 18, ρ 19, ρ 20, ρ 21, ρ 22, ρ 23] := ha
  subst ha
  subst hg
  have hJ : jn77 [ρ 0, ρ 1, ρ 2, ρ 3, ρ 4, ρ 5, ρ 6, ρ 7, ρ 8, ρ 9, ρ 10, ρ 11, ρ 12, ρ 13, ρ 14, ρ 15, ρ 16, ρ 17, ρ 18, ρ 19, ρ 20, ρ 21, ρ 22, ρ 23] (γ 0) 2 [ρ 0, ρ 1, ρ 2, ρ 3, ρ 4, ρ 5, ρ 6, ρ 7, ρ 8, ρ 9, ρ 10, ρ 11, ρ 12, ρ 13, ρ 14, ρ 15, ρ 16, ρ 17, ρ 18, ρ 19, ρ 20, ρ 21, ρ 22, ρ 23, ρ 24, ρ 25, ρ 26, ρ 27, ρ 28, ρ 29, ρ 30, ρ 31, ρ 32, ρ 33, ρ 34, ρ 35, ρ 36, ρ 37, ρ 38, ρ 39, ρ 40, ρ 41, ρ 42, ρ 43, ρ 44, ρ 45, ρ 46] (γ 1) := hJ
  have f0 : (0 : Int) ≤ -ρ 24 + ρ 0 + (-1) := zAllA hf 0
  have w_0 : ¬ (ρ 24 ≥ ρ 0) := by omega
  have m0 : γ 0 15 0 32 = ρ 0 := zAllA hm 0
  have m45 : γ 0 69 0 (ρ 24) = ρ 47 := zAllA hm 45
  have m46 : γ 1 92 0 (ρ 47) = ρ 48 := zAllA hm 46
  show jn77 [ρ 0, ρ 1, ρ 2, ρ 3, ρ 4, ρ 5, ρ 6, ρ 7, ρ 8, ρ 9, ρ 10, ρ 11, ρ 12, ρ 13, ρ 14, ρ 15, ρ 16, ρ 17, ρ 18, ρ 19, ρ 20, ρ 21, ρ 22, ρ 23] (γ 0) 3 [ρ 0, ρ 1, ρ 2, ρ 3, ρ 4, ρ 5, ρ 6, ρ 7, ρ 8, ρ 9, ρ 10, ρ 11, ρ 12, ρ 13, ρ 14, ρ 15, ρ 16, ρ 17, ρ 18, ρ 19, ρ 20, ρ 21, ρ 22, ρ 23, 8 * ρ 24, ρ 48, ρ 24, ρ 25, ρ 26, ρ 27, ρ 28, ρ 29, ρ 30, ρ 31, ρ 32, ρ 33, ρ 34, ρ 35, ρ 36, ρ 37, ρ 38, ρ 39, ρ 40, ρ 41, ρ 42, ρ 43, ρ 44, ρ 45, ρ 46] (γ 1)
  have hD : en77 (γ 0) (2, [ρ 24, ρ 25], γ 1) = .inl (3, [8 * ρ 24, ρ 48, ρ 24, ρ 25], γ 1) := by
    unfold en77
    refine zIN (show ¬ (2 : Nat) = 0 by decide) (zIN (show ¬ (2 : Nat) = 1 by decide) (zIP (show (2 : Nat) = 2 by decide) (zLV (γ 1) rfl (zLV (ρ 24) rfl (zLV (ρ 25) rfl (zLE m0 (zIN w_0 ?_)))))))
    refine zLE m45 (zLE m46 ?_)
    rfl
  exact zGoo_ato hJ hD
theorem vn77a3_0 {S : Nat → zSpc}  {a : List Int} {g : rHp} : ∀ (ρ : Nat → Int) (γ : Nat → rHp), jn77 a g 3 (zAg (zNA a77_ 3) ρ) (γ 1) → zO 24 S a g q77a3_0 ρ γ → zGl (fun i vs g1 => jn77 a g i vs g1) (sn77 a g) q77a3_0 ρ γ := by
  intro ρ γ hJ h
  obtain ⟨ha, hg, hr, hf, hm, hc, hl⟩ := h
  have ha : a = [ρ 0, ρ 1, ρ 2, ρ 3, ρ 4, ρ 5, ρ 6, ρ 7, ρ 8, ρ 9, ρ 10, ρ 11, ρ 12, ρ 13, ρ 14, ρ 15, ρ 16, ρ 17, ρ 18, ρ 19, ρ 20, ρ 21, ρ 22, ρ 23] := ha
  subst ha
  subst hg
  have hJ : jn77 [ρ 0, ρ 1, ρ 2, ρ 3, ρ 4, ρ 5, ρ 6, ρ 7, ρ 8, ρ 9, ρ 10, ρ 11, ρ 12, ρ 13, ρ 14, ρ 15, ρ 16, ρ 17, ρ 18, ρ 19, ρ 20, ρ 21, ρ 22, ρ 23] (γ 0) 3 [ρ 0, ρ 1, ρ 2, ρ 3, ρ 4, ρ 5, ρ 6, ρ 7, ρ 8, ρ 9, ρ 10, ρ 11, ρ 12, ρ 13, ρ 14, ρ 15, ρ 16, ρ 17, ρ 18, ρ 19, ρ 20, ρ 21, ρ 22, ρ 23, ρ 24, ρ 25, ρ 26, ρ 27, ρ 28, ρ 29, ρ 30, ρ 31, ρ 32, ρ 33, ρ 34, ρ 35, ρ 36, ρ 37, ρ 38, ρ 39, ρ 40, ρ 41, ρ 42, ρ 43, ρ 44, ρ 45, ρ 46, ρ 47, ρ 48] (γ 1) := hJ
  have r25 : (0 : Int) ≤ ρ 25 ∧ ρ 25 ≤ 20 := zRnA hr 25
  have r50 : (0 : Int) ≤ ρ 50 ∧ ρ 50 ≤ 0 := zRnA hr 50
  have f0 : (0 : Int) ≤ ρ 28 + -ρ 25 := zAllA hf 0
  have f1 : (0 : Int) ≤ -ρ 49 + ((-8) * ρ 26 + ρ 24) := zAllA hf 1
  obtain ⟨w_0, w_1, w_2, w_3⟩ : (ρ 24 ≥ ρ 49 + 8 * ρ 26) ∧ (ρ 25 ≤ 20) ∧ (0 ≤ -ρ 50) ∧ (ρ 25 ≤ ρ 28) := ⟨by omega, by omega, by omega, by omega⟩
  have m24 : γ 1 92 0 0 = ρ 28 := zAllA hm 24
  have m25 : γ 1 92 0 1 = ρ 29 := zAllA hm 25
  have m26 : γ 1 92 0 2 = ρ 30 := zAllA hm 26
  have m27 : γ 1 92 0 3 = ρ 31 := zAllA hm 27
  have m28 : γ 1 92 0 4 = ρ 32 := zAllA hm 28
  have m29 : γ 1 92 0 5 = ρ 33 := zAllA hm 29
  have m30 : γ 1 92 0 6 = ρ 34 := zAllA hm 30
  have m31 : γ 1 92 0 7 = ρ 35 := zAllA hm 31
  have m32 : γ 1 92 0 8 = ρ 36 := zAllA hm 32
  have m33 : γ 1 92 0 9 = ρ 37 := zAllA hm 33
  have m34 : γ 1 92 0 10 = ρ 38 := zAllA hm 34
  have m35 : γ 1 92 0 11 = ρ 39 := zAllA hm 35
  have m36 : γ 1 92 0 12 = ρ 40 := zAllA hm 36
  have m37 : γ 1 92 0 13 = ρ 41 := zAllA hm 37
  have m38 : γ 1 92 0 14 = ρ 42 := zAllA hm 38
  have m39 : γ 1 92 0 15 = ρ 43 := zAllA hm 39
  have m40 : γ 1 92 0 16 = ρ 44 := zAllA hm 40
  have m41 : γ 1 92 0 17 = ρ 45 := zAllA hm 41
  have m42 : γ 1 92 0 18 = ρ 46 := zAllA hm 42
  have m43 : γ 1 92 0 19 = ρ 47 := zAllA hm 43
  have m45 : γ 0 73 0 (ρ 26) = ρ 49 := zAllA hm 45
  have m46 : γ 0 69 0 (ρ 26) = ρ 50 := zAllA hm 46
  show jn77 [ρ 0, ρ 1, ρ 2, ρ 3, ρ 4, ρ 5, ρ 6, ρ 7, ρ 8, ρ 9, ρ 10, ρ 11, ρ 12, ρ 13, ρ 14, ρ 15, ρ 16, ρ 17, ρ 18, ρ 19, ρ 20, ρ 21, ρ 22, ρ 23] (γ 0) 2 [ρ 0, ρ 1, ρ 2, ρ 3, ρ 4, ρ 5, ρ 6, ρ 7, ρ 8, ρ 9, ρ 10, ρ 11, ρ 12, ρ 13, ρ 14, ρ 15, ρ 16, ρ 17, ρ 18, ρ 19, ρ 20, ρ 21, ρ 22, ρ 23, ρ 26 + 1, ρ 27, ρ 28, ρ 29, ρ 30, ρ 31, ρ 32, ρ 33, ρ 34, ρ 35, ρ 36, ρ 37, ρ 38, ρ 39, ρ 40, ρ 41, ρ 42, ρ 43, ρ 44, ρ 45, ρ 46, ρ 47, ρ 48] (γ 1)
  have hD : en77 (γ 0) (3, [ρ 24, ρ 25, ρ 26, ρ 27], γ 1) = .inl (2, [ρ 26 + 1, ρ 27], γ 1) := by
    unfold en77
    refine zIN (show ¬ (3 : Nat) = 0 by decide) (zIN (show ¬ (3 : Nat) = 1 by decide) (zIN (show ¬ (3 : Nat) = 2 by decide) (zIP (show (3 : Nat) = 3 by decide) (zLV (γ 1) rfl (zLV (ρ 24) rfl (zLV (ρ 25) rfl (zLV (ρ 26) rfl ?_)))))))
    refine zLV (ρ 27) rfl (zLE m24 (zLE m25 (zLE m26 (zLE m27 (zLE m28 (zLE m29 (zLE m30 ?_)))))))
    refine zLE m31 (zLE m32 (zLE m33 (zLE m34 (zLE m35 (zLE m36 (zLE m37 (zLE m38 ?_)))))))
    refine zLE m39 (zLE m40 (zLE m41 (zLE m42 (zLE m43 (zLE m45 (zIP w_0 (zIP w_1 ?_)))))))
    refine zLE m46 (zIP w_2 (zIP w_3 ?_))
    rfl
  exact zGoo_ato hJ hD
theorem vn77a3_1 {S : Nat → zSpc}  {a : List Int} {g : rHp} : ∀ (ρ : Nat → Int) (γ : Nat → rHp), jn77 a g 3 (zAg (zNA a77_ 3) ρ) (γ 1) → zO 24 S a g q77a3_1 ρ γ → zGl (fun i vs g1 => jn77 a g i vs g1) (sn77 a g) q77a3_1 ρ γ := by
  intro ρ γ hJ h
  obtain ⟨ha, hg, hr, hf, hm, hc, hl⟩ := h
  have ha : a = [ρ 0, ρ 1, ρ 2, ρ 3, ρ 4, ρ 5, ρ 6, ρ 7, ρ 8, ρ 9, ρ 10, ρ 11, ρ 12, ρ 13, ρ 14, ρ 15, ρ 16, ρ 17, ρ 18, ρ 19, ρ 20, ρ 21, ρ 22, ρ 23] := ha
  subst ha
  subst hg
  have hJ : jn77 [ρ 0, ρ 1, ρ 2, ρ 3, ρ 4, ρ 5, ρ 6, ρ 7, ρ 8, ρ 9, ρ 10, ρ 11, ρ 12, ρ 13, ρ 14, ρ 15, ρ 16, ρ 17, ρ 18, ρ 19, ρ 20, ρ 21, ρ 22, ρ 23] (γ 0) 3 [ρ 0, ρ 1, ρ 2, ρ 3, ρ 4, ρ 5, ρ 6, ρ 7, ρ 8, ρ 9, ρ 10, ρ 11, ρ 12, ρ 13, ρ 14, ρ 15, ρ 16, ρ 17, ρ 18, ρ 19, ρ 20, ρ 21, ρ 22, ρ 23, ρ 24, ρ 25, ρ 26, ρ 27, ρ 28, ρ 29, ρ 30, ρ 31, ρ 32, ρ 33, ρ 34, ρ 35, ρ 36, ρ 37, ρ 38, ρ 39, ρ 40, ρ 41, ρ 42, ρ 43, ρ 44, ρ 45, ρ 46, ρ 47, ρ 48] (γ 1) := hJ
  have r25 : (0 : Int) ≤ ρ 25 ∧ ρ 25 ≤ 20 := zRnA hr 25
  have r50 : (0 : Int) ≤ ρ 50 ∧ ρ 50 ≤ 0 := zRnA hr 50
  have f0 : (0 : Int) ≤ -ρ 28 + ρ 25 + (-1) := zAllA hf 0
  have f1 : (0 : Int) ≤ -ρ 49 + ((-8) * ρ 26 + ρ 24) := zAllA hf 1
  obtain ⟨w_0, w_1, w_2, w_3⟩ : (ρ 24 ≥ ρ 49 + 8 * ρ 26) ∧ (ρ 25 ≤ 20) ∧ (0 ≤ -ρ 50) ∧ (¬ (ρ 25 ≤ ρ 28)) := ⟨by omega, by omega, by omega, by omega⟩
  have m24 : γ 1 92 0 0 = ρ 28 := zAllA hm 24
  have m25 : γ 1 92 0 1 = ρ 29 := zAllA hm 25
  have m26 : γ 1 92 0 2 = ρ 30 := zAllA hm 26
  have m27 : γ 1 92 0 3 = ρ 31 := zAllA hm 27
  have m28 : γ 1 92 0 4 = ρ 32 := zAllA hm 28
  have m29 : γ 1 92 0 5 = ρ 33 := zAllA hm 29
  have m30 : γ 1 92 0 6 = ρ 34 := zAllA hm 30
  have m31 : γ 1 92 0 7 = ρ 35 := zAllA hm 31
  have m32 : γ 1 92 0 8 = ρ 36 := zAllA hm 32
  have m33 : γ 1 92 0 9 = ρ 37 := zAllA hm 33
  have m34 : γ 1 92 0 10 = ρ 38 := zAllA hm 34
  have m35 : γ 1 92 0 11 = ρ 39 := zAllA hm 35
  have m36 : γ 1 92 0 12 = ρ 40 := zAllA hm 36
  have m37 : γ 1 92 0 13 = ρ 41 := zAllA hm 37
  have m38 : γ 1 92 0 14 = ρ 42 := zAllA hm 38
  have m39 : γ 1 92 0 15 = ρ 43 := zAllA hm 39
  have m40 : γ 1 92 0 16 = ρ 44 := zAllA hm 40
  have m41 : γ 1 92 0 17 = ρ 45 := zAllA hm 41
  have m42 : γ 1 92 0 18 = ρ 46 := zAllA hm 42
  have m43 : γ 1 92 0 19 = ρ 47 := zAllA hm 43
  have m45 : γ 0 73 0 (ρ 26) = ρ 49 := zAllA hm 45
  have m46 : γ 0 69 0 (ρ 26) = ρ 50 := zAllA hm 46
  have c2 : γ 2 = rUp (γ 1) 92 0 (ρ 50) (ρ 25) := And.right (zChA hc 0)
  show jn77 [ρ 0, ρ 1, ρ 2, ρ 3, ρ 4, ρ 5, ρ 6, ρ 7, ρ 8, ρ 9, ρ 10, ρ 11, ρ 12, ρ 13, ρ 14, ρ 15, ρ 16, ρ 17, ρ 18, ρ 19, ρ 20, ρ 21, ρ 22, ρ 23] (γ 0) 2 [ρ 0, ρ 1, ρ 2, ρ 3, ρ 4, ρ 5, ρ 6, ρ 7, ρ 8, ρ 9, ρ 10, ρ 11, ρ 12, ρ 13, ρ 14, ρ 15, ρ 16, ρ 17, ρ 18, ρ 19, ρ 20, ρ 21, ρ 22, ρ 23, ρ 26 + 1, 1, ρ 25, ρ 29, ρ 30, ρ 31, ρ 32, ρ 33, ρ 34, ρ 35, ρ 36, ρ 37, ρ 38, ρ 39, ρ 40, ρ 41, ρ 42, ρ 43, ρ 44, ρ 45, ρ 46, ρ 47, ρ 48] (γ 2)
  have hD : en77 (γ 0) (3, [ρ 24, ρ 25, ρ 26, ρ 27], γ 1) = .inl (2, [ρ 26 + 1, 1], γ 2) := by
    unfold en77
    refine zIN (show ¬ (3 : Nat) = 0 by decide) (zIN (show ¬ (3 : Nat) = 1 by decide) (zIN (show ¬ (3 : Nat) = 2 by decide) (zIP (show (3 : Nat) = 3 by decide) (zLV (γ 1) rfl (zLV (ρ 24) rfl (zLV (ρ 25) rfl (zLV (ρ 26) rfl ?_)))))))
    refine zLV (ρ 27) rfl (zLE m24 (zLE m25 (zLE m26 (zLE m27 (zLE m28 (zLE m29 (zLE m30 ?_)))))))
    refine zLE m31 (zLE m32 (zLE m33 (zLE m34 (zLE m35 (zLE m36 (zLE m37 (zLE m38 ?_)))))))
    refine zLE m39 (zLE m40 (zLE m41 (zLE m42 (zLE m43 (zLE m45 (zIP w_0 (zIP w_1 ?_)))))))
    refine zLE m46 (zIP w_2 (zIN w_3 (zLE c2.symm ?_)))
    rfl
  exact zGoo_ato hJ hD
theorem vn77a3_2 {S : Nat → zSpc}  {a : List Int} {g : rHp} : ∀ (ρ : Nat → Int) (γ : Nat → rHp), jn77 a g 3 (zAg (zNA a77_ 3) ρ) (γ 1) → zO 24 S a g q77a3_2 ρ γ → zGl (fun i vs g1 => jn77 a g i vs g1) (sn77 a g) q77a3_2 ρ γ := by
  intro ρ γ hJ h
  obtain ⟨ha, hg, hr, hf, hm, hc, hl⟩ := h
  have ha : a = [ρ 0, ρ 1, ρ 2, ρ 3, ρ 4, ρ 5, ρ 6, ρ 7, ρ 8, ρ 9, ρ 10, ρ 11, ρ 12, ρ 13, ρ 14, ρ 15, ρ 16, ρ 17, ρ 18, ρ 19, ρ 20, ρ 21, ρ 22, ρ 23] := ha
  subst ha
  subst hg
  have hJ : jn77 [ρ 0, ρ 1, ρ 2, ρ 3, ρ 4, ρ 5, ρ 6, ρ 7, ρ 8, ρ 9, ρ 10, ρ 11, ρ 12, ρ 13, ρ 14, ρ 15, ρ 16, ρ 17, ρ 18, ρ 19, ρ 20, ρ 21, ρ 22, ρ 23] (γ 0) 3 [ρ 0, ρ 1, ρ 2, ρ 3, ρ 4, ρ 5, ρ 6, ρ 7, ρ 8, ρ 9, ρ 10, ρ 11, ρ 12, ρ 13, ρ 14, ρ 15, ρ 16, ρ 17, ρ 18, ρ 19, ρ 20, ρ 21, ρ 22, ρ 23, ρ 24, ρ 25, ρ 26, ρ 27, ρ 28, ρ 29, ρ 30, ρ 31, ρ 32, ρ 33, ρ 34, ρ 35, ρ 36, ρ 37, ρ 38, ρ 39, ρ 40, ρ 41, ρ 42, ρ 43, ρ 44, ρ 45, ρ 46, ρ 47, ρ 48] (γ 1) := hJ
  have r25 : (0 : Int) ≤ ρ 25 ∧ ρ 25 ≤ 20 := zRnA hr 25
  have r50 : (1 : Int) ≤ ρ 50 ∧ ρ 50 ≤ 1 := zRnA hr 50
  have f0 : (0 : Int) ≤ ρ 29 + -ρ 25 := zAllA hf 0
  have f1 : (0 : Int) ≤ -ρ 49 + ((-8) * ρ 26 + ρ 24) := zAllA hf 1
  obtain ⟨w_0, w_1, w_2, w_3, w_4⟩ : (ρ 24 ≥ ρ 49 + 8 * ρ 26) ∧ (ρ 25 ≤ 20) ∧ (¬ (0 ≤ -ρ 50)) ∧ (0 ≤ -ρ 50 + 1) ∧ (ρ 25 ≤ ρ 29) := ⟨by omega, by omega, by omega, by omega, by omega⟩
  have m24 : γ 1 92 0 0 = ρ 28 := zAllA hm 24
  have m25 : γ 1 92 0 1 = ρ 29 := zAllA hm 25
  have m26 : γ 1 92 0 2 = ρ 30 := zAllA hm 26
  have m27 : γ 1 92 0 3 = ρ 31 := zAllA hm 27
  have m28 : γ 1 92 0 4 = ρ 32 := zAllA hm 28
  have m29 : γ 1 92 0 5 = ρ 33 := zAllA hm 29
  have m30 : γ 1 92 0 6 = ρ 34 := zAllA hm 30
  have m31 : γ 1 92 0 7 = ρ 35 := zAllA hm 31
  have m32 : γ 1 92 0 8 = ρ 36 := zAllA hm 32
  have m33 : γ 1 92 0 9 = ρ 37 := zAllA hm 33
  have m34 : γ 1 92 0 10 = ρ 38 := zAllA hm 34
  have m35 : γ 1 92 0 11 = ρ 39 := zAllA hm 35
  have m36 : γ 1 92 0 12 = ρ 40 := zAllA hm 36
  have m37 : γ 1 92 0 13 = ρ 41 := zAllA hm 37
  have m38 : γ 1 92 0 14 = ρ 42 := zAllA hm 38
  have m39 : γ 1 92 0 15 = ρ 43 := zAllA hm 39
  have m40 : γ 1 92 0 16 = ρ 44 := zAllA hm 40
  have m41 : γ 1 92 0 17 = ρ 45 := zAllA hm 41
  have m42 : γ 1 92 0 18 = ρ 46 := zAllA hm 42
  have m43 : γ 1 92 0 19 = ρ 47 := zAllA hm 43
  have m45 : γ 0 73 0 (ρ 26) = ρ 49 := zAllA hm 45
  have m46 : γ 0 69 0 (ρ 26) = ρ 50 := zAllA hm 46
  show jn77 [ρ 0, ρ 1, ρ 2, ρ 3, ρ 4, ρ 5, ρ 6, ρ 7, ρ 8, ρ 9, ρ 10, ρ 11, ρ 12, ρ 13, ρ 14, ρ 15, ρ 16, ρ 17, ρ 18, ρ 19, ρ 20, ρ 21, ρ 22, ρ 23] (γ 0) 2 [ρ 0, ρ 1, ρ 2, ρ 3, ρ 4, ρ 5, ρ 6, ρ 7, ρ 8, ρ 9, ρ 10, ρ 11, ρ 12, ρ 13, ρ 14, ρ 15, ρ 16, ρ 17, ρ 18, ρ 19, ρ 20, ρ 21, ρ 22, ρ 23, ρ 26 + 1, ρ 27, ρ 28, ρ 29, ρ 30, ρ 31, ρ 32, ρ 33, ρ 34, ρ 35, ρ 36, ρ 37, ρ 38, ρ 39, ρ 40, ρ 41, ρ 42, ρ 43, ρ 44, ρ 45, ρ 46, ρ 47, ρ 48] (γ 1)
  have hD : en77 (γ 0) (3, [ρ 24, ρ 25, ρ 26, ρ 27], γ 1) = .inl (2, [ρ 26 + 1, ρ 27], γ 1) := by
    unfold en77
    refine zIN (show ¬ (3 : Nat) = 0 by decide) (zIN (show ¬ (3 : Nat) = 1 by decide) (zIN (show ¬ (3 : Nat) = 2 by decide) (zIP (show (3 : Nat) = 3 by decide) (zLV (γ 1) rfl (zLV (ρ 24) rfl (zLV (ρ 25) rfl (zLV (ρ 26) rfl ?_)))))))
    refine zLV (ρ 27) rfl (zLE m24 (zLE m25 (zLE m26 (zLE m27 (zLE m28 (zLE m29 (zLE m30 ?_)))))))
    refine zLE m31 (zLE m32 (zLE m33 (zLE m34 (zLE m35 (zLE m36 (zLE m37 (zLE m38 ?_)))))))
    refine zLE m39 (zLE m40 (zLE m41 (zLE m42 (zLE m43 (zLE m45 (zIP w_0 (zIP w_1 ?_)))))))
    refine zLE m46 (zIN w_2 (zIP w_3 (zIP w_4 ?_)))
    rfl
  exact zGoo_ato hJ hD
theorem vn77a3_3 {S : Nat → zSpc}  {a : List Int} {g : rHp} : ∀ (ρ : Nat → Int) (γ : Nat → rHp), jn77 a g 3 (zAg (zNA a77_ 3) ρ) (γ 1) → zO 24 S a g q77a3_3 ρ γ → zGl (fun i vs g1 => jn77 a g i vs g1) (sn77 a g) q77a3_3 ρ γ := by
  intro ρ γ hJ h
  obtain ⟨ha, hg, hr, hf, hm, hc, hl⟩ := h
  have ha : a = [ρ 0, ρ 1, ρ 2, ρ 3, ρ 4, ρ 5, ρ 6, ρ 7, ρ 8, ρ 9, ρ 10, ρ 11, ρ 12, ρ 13, ρ 14, ρ 15, ρ 16, ρ 17, ρ 18, ρ 19, ρ 20, ρ 21, ρ 22, ρ 23] := ha
  subst ha
  subst hg
  have hJ : jn77 [ρ 0, ρ 1, ρ 2, ρ 3, ρ 4, ρ 5, ρ 6, ρ 7, ρ 8, ρ 9, ρ 10, ρ 11, ρ 12, ρ 13, ρ 14, ρ 15, ρ 16, ρ 17, ρ 18, ρ 19, ρ 20, ρ 21, ρ 22, ρ 23] (γ 0) 3 [ρ 0, ρ 1, ρ 2, ρ 3, ρ 4, ρ 5, ρ 6, ρ 7, ρ 8, ρ 9, ρ 10, ρ 11, ρ 12, ρ 13, ρ 14, ρ 15, ρ 16, ρ 17, ρ 18, ρ 19, ρ 20, ρ 21, ρ 22, ρ 23, ρ 24, ρ 25, ρ 26, ρ 27, ρ 28, ρ 29, ρ 30, ρ 31, ρ 32, ρ 33, ρ 34, ρ 35, ρ 36, ρ 37, ρ 38, ρ 39, ρ 40, ρ 41, ρ 42, ρ 43, ρ 44, ρ 45, ρ 46, ρ 47, ρ 48] (γ 1) := hJ
  have r25 : (0 : Int) ≤ ρ 25 ∧ ρ 25 ≤ 20 := zRnA hr 25
  have r50 : (1 : Int) ≤ ρ 50 ∧ ρ 50 ≤ 1 := zRnA hr 50
  have f0 : (0 : Int) ≤ -ρ 29 + ρ 25 + (-1) := zAllA hf 0
  have f1 : (0 : Int) ≤ -ρ 49 + ((-8) * ρ 26 + ρ 24) := zAllA hf 1
  obtain ⟨w_0, w_1, w_2, w_3, w_4⟩ : (ρ 24 ≥ ρ 49 + 8 * ρ 26) ∧ (ρ 25 ≤ 20) ∧ (¬ (0 ≤ -ρ 50)) ∧ (0 ≤ -ρ 50 + 1) ∧ (¬ (ρ 25 ≤ ρ 29)) := ⟨by omega, by omega, by omega, by omega, by omega⟩
  have m24 : γ 1 92 0 0 = ρ 28 := zAllA hm 24
  have m25 : γ 1 92 0 1 = ρ 29 := zAllA hm 25
  have m26 : γ 1 92 0 2 = ρ 30 := zAllA hm 26
  have m27 : γ 1 92 0 3 = ρ 31 := zAllA hm 27
  have m28 : γ 1 92 0 4 = ρ 32 := zAllA hm 28
  have m29 : γ 1 92 0 5 = ρ 33 := zAllA hm 29
  have m30 : γ 1 92 0 6 = ρ 34 := zAllA hm 30
  have m31 : γ 1 92 0 7 = ρ 35 := zAllA hm 31
  have m32 : γ 1 92 0 8 = ρ 36 := zAllA hm 32
  have m33 : γ 1 92 0 9 = ρ 37 := zAllA hm 33
  have m34 : γ 1 92 0 10 = ρ 38 := zAllA hm 34
  have m35 : γ 1 92 0 11 = ρ 39 := zAllA hm 35
  have m36 : γ 1 92 0 12 = ρ 40 := zAllA hm 36
  have m37 : γ 1 92 0 13 = ρ 41 := zAllA hm 37
  have m38 : γ 1 92 0 14 = ρ 42 := zAllA hm 38
  have m39 : γ 1 92 0 15 = ρ 43 := zAllA hm 39
  have m40 : γ 1 92 0 16 = ρ 44 := zAllA hm 40
  have m41 : γ 1 92 0 17 = ρ 45 := zAllA hm 41
  have m42 : γ 1 92 0 18 = ρ 46 := zAllA hm 42
  have m43 : γ 1 92 0 19 = ρ 47 := zAllA hm 43
  have m45 : γ 0 73 0 (ρ 26) = ρ 49 := zAllA hm 45
  have m46 : γ 0 69 0 (ρ 26) = ρ 50 := zAllA hm 46
  have c2 : γ 2 = rUp (γ 1) 92 0 (ρ 50) (ρ 25) := And.right (zChA hc 0)
  show jn77 [ρ 0, ρ 1, ρ 2, ρ 3, ρ 4, ρ 5, ρ 6, ρ 7, ρ 8, ρ 9, ρ 10, ρ 11, ρ 12, ρ 13, ρ 14, ρ 15, ρ 16, ρ 17, ρ 18, ρ 19, ρ 20, ρ 21, ρ 22, ρ 23] (γ 0) 2 [ρ 0, ρ 1, ρ 2, ρ 3, ρ 4, ρ 5, ρ 6, ρ 7, ρ 8, ρ 9, ρ 10, ρ 11, ρ 12, ρ 13, ρ 14, ρ 15, ρ 16, ρ 17, ρ 18, ρ 19, ρ 20, ρ 21, ρ 22, ρ 23, ρ 26 + 1, 1, ρ 28, ρ 25, ρ 30, ρ 31, ρ 32, ρ 33, ρ 34, ρ 35, ρ 36, ρ 37, ρ 38, ρ 39, ρ 40, ρ 41, ρ 42, ρ 43, ρ 44, ρ 45, ρ 46, ρ 47, ρ 48] (γ 2)
  have hD : en77 (γ 0) (3, [ρ 24, ρ 25, ρ 26, ρ 27], γ 1) = .inl (2, [ρ 26 + 1, 1], γ 2) := by
    unfold en77
    refine zIN (show ¬ (3 : Nat) = 0 by decide) (zIN (show ¬ (3 : Nat) = 1 by decide) (zIN (show ¬ (3 : Nat) = 2 by decide) (zIP (show (3 : Nat) = 3 by decide) (zLV (γ 1) rfl (zLV (ρ 24) rfl (zLV (ρ 25) rfl (zLV (ρ 26) rfl ?_)))))))
    refine zLV (ρ 27) rfl (zLE m24 (zLE m25 (zLE m26 (zLE m27 (zLE m28 (zLE m29 (zLE m30 ?_)))))))
    refine zLE m31 (zLE m32 (zLE m33 (zLE m34 (zLE m35 (zLE m36 (zLE m37 (zLE m38 ?_)))))))
    refine zLE m39 (zLE m40 (zLE m41 (zLE m42 (zLE m43 (zLE m45 (zIP w_0 (zIP w_1 ?_)))))))
    refine zLE m46 (zIN w_2 (zIP w_3 (zIN w_4 (zLE c2.symm ?_))))
    rfl
  exact zGoo_ato hJ hD
theorem vn77a3_4 {S : Nat → zSpc}  {a : List Int} {g : rHp} : ∀ (ρ : Nat → Int) (γ : Nat → rHp), jn77 a g 3 (zAg (zNA a77_ 3) ρ) (γ 1) → zO 24 S a g q77a3_4 ρ γ → zGl (fun i vs g1 => jn77 a g i vs g1) (sn77 a g) q77a3_4 ρ γ := by
  intro ρ γ hJ h
  obtain ⟨ha, hg, hr, hf, hm, hc, hl⟩ := h
  have ha : a = [ρ 0, ρ 1, ρ 2, ρ 3, ρ 4, ρ 5, ρ 6, ρ 7, ρ 8, ρ 9, ρ 10, ρ 11, ρ 12, ρ 13, ρ 14, ρ 15, ρ 16, ρ 17, ρ 18, ρ 19, ρ 20, ρ 21, ρ 22, ρ 23] := ha
  subst ha
  subst hg
  have hJ : jn77 [ρ 0, ρ 1, ρ 2, ρ 3, ρ 4, ρ 5, ρ 6, ρ 7, ρ 8, ρ 9, ρ 10, ρ 11, ρ 12, ρ 13, ρ 14, ρ 15, ρ 16, ρ 17, ρ 18, ρ 19, ρ 20, ρ 21, ρ 22, ρ 23] (γ 0) 3 [ρ 0, ρ 1, ρ 2, ρ 3, ρ 4, ρ 5, ρ 6, ρ 7, ρ 8, ρ 9, ρ 10, ρ 11, ρ 12, ρ 13, ρ 14, ρ 15, ρ 16, ρ 17, ρ 18, ρ 19, ρ 20, ρ 21, ρ 22, ρ 23, ρ 24, ρ 25, ρ 26, ρ 27, ρ 28, ρ 29, ρ 30, ρ 31, ρ 32, ρ 33, ρ 34, ρ 35, ρ 36, ρ 37, ρ 38, ρ 39, ρ 40, ρ 41, ρ 42, ρ 43, ρ 44, ρ 45, ρ 46, ρ 47, ρ 48] (γ 1) := hJ
  have r25 : (0 : Int) ≤ ρ 25 ∧ ρ 25 ≤ 20 := zRnA hr 25
  have r50 : (2 : Int) ≤ ρ 50 ∧ ρ 50 ≤ 2 := zRnA hr 50
  have f0 : (0 : Int) ≤ ρ 30 + -ρ 25 := zAllA hf 0
  have f1 : (0 : Int) ≤ -ρ 49 + ((-8) * ρ 26 + ρ 24) := zAllA hf 1
  obtain ⟨w_0, w_1, w_2, w_3, w_4, w_5⟩ : (ρ 24 ≥ ρ 49 + 8 * ρ 26) ∧ (ρ 25 ≤ 20) ∧ (¬ (0 ≤ -ρ 50)) ∧ (¬ (0 ≤ -ρ 50 + 1)) ∧ (0 ≤ -ρ 50 + 2) ∧ (ρ 25 ≤ ρ 30) := ⟨by omega, by omega, by omega, by omega, by omega, by omega⟩
  have m24 : γ 1 92 0 0 = ρ 28 := zAllA hm 24
  have m25 : γ 1 92 0 1 = ρ 29 := zAllA hm 25
  have m26 : γ 1 92 0 2 = ρ 30 := zAllA hm 26
  have m27 : γ 1 92 0 3 = ρ 31 := zAllA hm 27
  have m28 : γ 1 92 0 4 = ρ 32 := zAllA hm 28
  have m29 : γ 1 92 0 5 = ρ 33 := zAllA hm 29
  have m30 : γ 1 92 0 6 = ρ 34 := zAllA hm 30
  have m31 : γ 1 92 0 7 = ρ 35 := zAllA hm 31
  have m32 : γ 1 92 0 8 = ρ 36 := zAllA hm 32
  have m33 : γ 1 92 0 9 = ρ 37 := zAllA hm 33
  have m34 : γ 1 92 0 10 = ρ 38 := zAllA hm 34
  have m35 : γ 1 92 0 11 = ρ 39 := zAllA hm 35
  have m36 : γ 1 92 0 12 = ρ 40 := zAllA hm 36
  have m37 : γ 1 92 0 13 = ρ 41 := zAllA hm 37
  have m38 : γ 1 92 0 14 = ρ 42 := zAllA hm 38
  have m39 : γ 1 92 0 15 = ρ 43 := zAllA hm 39
  have m40 : γ 1 92 0 16 = ρ 44 := zAllA hm 40
  have m41 : γ 1 92 0 17 = ρ 45 := zAllA hm 41
  have m42 : γ 1 92 0 18 = ρ 46 := zAllA hm 42
  have m43 : γ 1 92 0 19 = ρ 47 := zAllA hm 43
  have m45 : γ 0 73 0 (ρ 26) = ρ 49 := zAllA hm 45
  have m46 : γ 0 69 0 (ρ 26) = ρ 50 := zAllA hm 46
  show jn77 [ρ 0, ρ 1, ρ 2, ρ 3, ρ 4, ρ 5, ρ 6, ρ 7, ρ 8, ρ 9, ρ 10, ρ 11, ρ 12, ρ 13, ρ 14, ρ 15, ρ 16, ρ 17, ρ 18, ρ 19, ρ 20, ρ 21, ρ 22, ρ 23] (γ 0) 2 [ρ 0, ρ 1, ρ 2, ρ 3, ρ 4, ρ 5, ρ 6, ρ 7, ρ 8, ρ 9, ρ 10, ρ 11, ρ 12, ρ 13, ρ 14, ρ 15, ρ 16, ρ 17, ρ 18, ρ 19, ρ 20, ρ 21, ρ 22, ρ 23, ρ 26 + 1, ρ 27, ρ 28, ρ 29, ρ 30, ρ 31, ρ 32, ρ 33, ρ 34, ρ 35, ρ 36, ρ 37, ρ 38, ρ 39, ρ 40, ρ 41, ρ 42, ρ 43, ρ 44, ρ 45, ρ 46, ρ 47, ρ 48] (γ 1)
  have hD : en77 (γ 0) (3, [ρ 24, ρ 25, ρ 26, ρ 27], γ 1) = .inl (2, [ρ 26 + 1, ρ 27], γ 1) := by
    unfold en77
    refine zIN (show ¬ (3 : Nat) = 0 by decide) (zIN (show ¬ (3 : Nat) = 1 by decide) (zIN (show ¬ (3 : Nat) = 2 by decide) (zIP (show (3 : Nat) = 3 by decide) (zLV (γ 1) rfl (zLV (ρ 24) rfl (zLV (ρ 25) rfl (zLV (ρ 26) rfl ?_)))))))
    refine zLV (ρ 27) rfl (zLE m24 (zLE m25 (zLE m26 (zLE m27 (zLE m28 (zLE m29 (zLE m30 ?_)))))))
    refine zLE m31 (zLE m32 (zLE m33 (zLE m34 (zLE m35 (zLE m36 (zLE m37 (zLE m38 ?_)))))))
    refine zLE m39 (zLE m40 (zLE m41 (zLE m42 (zLE m43 (zLE m45 (zIP w_0 (zIP w_1 ?_)))))))
    refine zLE m46 (zIN w_2 (zIN w_3 (zIP w_4 (zIP w_5 ?_))))
    rfl
  exact zGoo_ato hJ hD
theorem vn77a3_5 {S : Nat → zSpc}  {a : List Int} {g : rHp} : ∀ (ρ : Nat → Int) (γ : Nat → rHp), jn77 a g 3 (zAg (zNA a77_ 3) ρ) (γ 1) → zO 24 S a g q77a3_5 ρ γ → zGl (fun i vs g1 => jn77 a g i vs g1) (sn77 a g) q77a3_5 ρ γ := by
  intro ρ γ hJ h
  obtain ⟨ha, hg, hr, hf, hm, hc, hl⟩ := h
  have ha : a = [ρ 0, ρ 1, ρ 2, ρ 3, ρ 4, ρ 5, ρ 6, ρ 7, ρ 8, ρ 9, ρ 10, ρ 11, ρ 12, ρ 13, ρ 14, ρ 15, ρ 16, ρ 17, ρ 18, ρ 19, ρ 20, ρ 21, ρ 22, ρ 23] := ha
  subst ha
  subst hg
  have hJ : jn77 [ρ 0, ρ 1, ρ 2, ρ 3, ρ 4, ρ 5, ρ 6, ρ 7, ρ 8, ρ 9, ρ 10, ρ 11, ρ 12, ρ 13, ρ 14, ρ 15, ρ 16, ρ 17, ρ 18, ρ 19, ρ 20, ρ 21, ρ 22, ρ 23] (γ 0) 3 [ρ 0, ρ 1, ρ 2, ρ 3, ρ 4, ρ 5, ρ 6, ρ 7, ρ 8, ρ 9, ρ 10, ρ 11, ρ 12, ρ 13, ρ 14, ρ 15, ρ 16, ρ 17, ρ 18, ρ 19, ρ 20, ρ 21, ρ 22, ρ 23, ρ 24, ρ 25, ρ 26, ρ 27, ρ 28, ρ 29, ρ 30, ρ 31, ρ 32, ρ 33, ρ 34, ρ 35, ρ 36, ρ 37, ρ 38, ρ 39, ρ 40, ρ 41, ρ 42, ρ 43, ρ 44, ρ 45, ρ 46, ρ 47, ρ 48] (γ 1) := hJ
  have r25 : (0 : Int) ≤ ρ 25 ∧ ρ 25 ≤ 20 := zRnA hr 25
  have r50 : (2 : Int) ≤ ρ 50 ∧ ρ 50 ≤ 2 := zRnA hr 50
  have f0 : (0 : Int) ≤ -ρ 30 + ρ 25 + (-1) := zAllA hf 0
  have f1 : (0 : Int) ≤ -ρ 49 + ((-8) * ρ 26 + ρ 24) := zAllA hf 1
  obtain ⟨w_0, w_1, w_2, w_3, w_4, w_5⟩ : (ρ 24 ≥ ρ 49 + 8 * ρ 26) ∧ (ρ 25 ≤ 20) ∧ (¬ (0 ≤ -ρ 50)) ∧ (¬ (0 ≤ -ρ 50 + 1)) ∧ (0 ≤ -ρ 50 + 2) ∧ (¬ (ρ 25 ≤ ρ 30)) := ⟨by omega, by omega, by omega, by omega, by omega, by omega⟩
  have m24 : γ 1 92 0 0 = ρ 28 := zAllA hm 24
  have m25 : γ 1 92 0 1 = ρ 29 := zAllA hm 25
  have m26 : γ 1 92 0 2 = ρ 30 := zAllA hm 26
  have m27 : γ 1 92 0 3 = ρ 31 := zAllA hm 27
  have m28 : γ 1 92 0 4 = ρ 32 := zAllA hm 28
  have m29 : γ 1 92 0 5 = ρ 33 := zAllA hm 29
  have m30 : γ 1 92 0 6 = ρ 34 := zAllA hm 30
  have m31 : γ 1 92 0 7 = ρ 35 := zAllA hm 31
  have m32 : γ 1 92 0 8 = ρ 36 := zAllA hm 32
  have m33 : γ 1 92 0 9 = ρ 37 := zAllA hm 33
  have m34 : γ 1 92 0 10 = ρ 38 := zAllA hm 34
  have m35 : γ 1 92 0 11 = ρ 39 := zAllA hm 35
  have m36 : γ 1 92 0 12 = ρ 40 := zAllA hm 36
  have m37 : γ 1 92 0 13 = ρ 41 := zAllA hm 37
  have m38 : γ 1 92 0 14 = ρ 42 := zAllA hm 38
  have m39 : γ 1 92 0 15 = ρ 43 := zAllA hm 39
  have m40 : γ 1 92 0 16 = ρ 44 := zAllA hm 40
  have m41 : γ 1 92 0 17 = ρ 45 := zAllA hm 41
  have m42 : γ 1 92 0 18 = ρ 46 := zAllA hm 42
  have m43 : γ 1 92 0 19 = ρ 47 := zAllA hm 43
  have m45 : γ 0 73 0 (ρ 26) = ρ 49 := zAllA hm 45
  have m46 : γ 0 69 0 (ρ 26) = ρ 50 := zAllA hm 46
  have c2 : γ 2 = rUp (γ 1) 92 0 (ρ 50) (ρ 25) := And.right (zChA hc 0)
  show jn77 [ρ 0, ρ 1, ρ 2, ρ 3, ρ 4, ρ 5, ρ 6, ρ 7, ρ 8, ρ 9, ρ 10, ρ 11, ρ 12, ρ 13, ρ 14, ρ 15, ρ 16, ρ 17, ρ 18, ρ 19, ρ 20, ρ 21, ρ 22, ρ 23] (γ 0) 2 [ρ 0, ρ 1, ρ 2, ρ 3, ρ 4, ρ 5, ρ 6, ρ 7, ρ 8, ρ 9, ρ 10, ρ 11, ρ 12, ρ 13, ρ 14, ρ 15, ρ 16, ρ 17, ρ 18, ρ 19, ρ 20, ρ 21, ρ 22, ρ 23, ρ 26 + 1, 1, ρ 28, ρ 29, ρ 25, ρ 31, ρ 32, ρ 33, ρ 34, ρ 35, ρ 36, ρ 37, ρ 38, ρ 39, ρ 40, ρ 41, ρ 42, ρ 43, ρ 44, ρ 45, ρ 46, ρ 47, ρ 48] (γ 2)
  have hD : en77 (γ 0) (3, [ρ 24, ρ 25, ρ 26, ρ 27], γ 1) = .inl (2, [ρ 26 + 1, 1], γ 2) := by
    unfold en77
    refine zIN (show ¬ (3 : Nat) = 0 by decide) (zIN (show ¬ (3 : Nat) = 1 by decide) (zIN (show ¬ (3 : Nat) = 2 by decide) (zIP (show (3 : Nat) = 3 by decide) (zLV (γ 1) rfl (zLV (ρ 24) rfl (zLV (ρ 25) rfl (zLV (ρ 26) rfl ?_)))))))
    refine zLV (ρ 27) rfl (zLE m24 (zLE m25 (zLE m26 (zLE m27 (zLE m28 (zLE m29 (zLE m30 ?_)))))))
    refine zLE m31 (zLE m32 (zLE m33 (zLE m34 (zLE m35 (zLE m36 (zLE m37 (zLE m38 ?_)))))))
    refine zLE m39 (zLE m40 (zLE m41 (zLE m42 (zLE m43 (zLE m45 (zIP w_0 (zIP w_1 ?_)))))))
    refine zLE m46 (zIN w_2 (zIN w_3 (zIP w_4 (zIN w_5 (zLE c2.symm ?_)))))
    rfl
  exact zGoo_ato hJ hD
theorem vn77a3_6 {S : Nat → zSpc}  {a : List Int} {g : rHp} : ∀ (ρ : Nat → Int) (γ : Nat → rHp), jn77 a g 3 (zAg (zNA a77_ 3) ρ) (γ 1) → zO 24 S a g q77a3_6 ρ γ → zGl (fun i vs g1 => jn77 a g i vs g1) (sn77 a g) q77a3_6 ρ γ := by
  intro ρ γ hJ h
  obtain ⟨ha, hg, hr, hf, hm, hc, hl⟩ := h
  have ha : a = [ρ 0, ρ 1, ρ 2, ρ 3, ρ 4, ρ 5, ρ 6, ρ 7, ρ 8, ρ 9, ρ 10, ρ 11, ρ 12, ρ 13, ρ 14, ρ 15, ρ 16, ρ 17, ρ 18, ρ 19, ρ 20, ρ 21, ρ 22, ρ 23] := ha
  subst ha
  subst hg
  have hJ : jn77 [ρ 0, ρ 1, ρ 2, ρ 3, ρ 4, ρ 5, ρ 6, ρ 7, ρ 8, ρ 9, ρ 10, ρ 11, ρ 12, ρ 13, ρ 14, ρ 15, ρ 16, ρ 17, ρ 18, ρ 19, ρ 20, ρ 21, ρ 22, ρ 23] (γ 0) 3 [ρ 0, ρ 1, ρ 2, ρ 3, ρ 4, ρ 5, ρ 6, ρ 7, ρ 8, ρ 9, ρ 10, ρ 11, ρ 12, ρ 13, ρ 14, ρ 15, ρ 16, ρ 17, ρ 18, ρ 19, ρ 20, ρ 21, ρ 22, ρ 23, ρ 24, ρ 25, ρ 26, ρ 27, ρ 28, ρ 29, ρ 30, ρ 31, ρ 32, ρ 33, ρ 34, ρ 35, ρ 36, ρ 37, ρ 38, ρ 39, ρ 40, ρ 41, ρ 42, ρ 43, ρ 44, ρ 45, ρ 46, ρ 47, ρ 48] (γ 1) := hJ
  have r25 : (0 : Int) ≤ ρ 25 ∧ ρ 25 ≤ 20 := zRnA hr 25
  have r50 : (3 : Int) ≤ ρ 50 ∧ ρ 50 ≤ 3 := zRnA hr 50
  have f0 : (0 : Int) ≤ ρ 31 + -ρ 25 := zAllA hf 0
  have f1 : (0 : Int) ≤ -ρ 49 + ((-8) * ρ 26 + ρ 24) := zAllA hf 1
  obtain ⟨w_0, w_1, w_2, w_3, w_4, w_5, w_6⟩ : (ρ 24 ≥ ρ 49 + 8 * ρ 26) ∧ (ρ 25 ≤ 20) ∧ (¬ (0 ≤ -ρ 50)) ∧ (¬ (0 ≤ -ρ 50 + 1)) ∧ (¬ (0 ≤ -ρ 50 + 2)) ∧ (0 ≤ -ρ 50 + 3) ∧ (ρ 25 ≤ ρ 31) := ⟨by omega, by omega, by omega, by omega, by omega, by omega, by omega⟩
  have m24 : γ 1 92 0 0 = ρ 28 := zAllA hm 24
  have m25 : γ 1 92 0 1 = ρ 29 := zAllA hm 25
  have m26 : γ 1 92 0 2 = ρ 30 := zAllA hm 26
  have m27 : γ 1 92 0 3 = ρ 31 := zAllA hm 27
  have m28 : γ 1 92 0 4 = ρ 32 := zAllA hm 28
  have m29 : γ 1 92 0 5 = ρ 33 := zAllA hm 29
  have m30 : γ 1 92 0 6 = ρ 34 := zAllA hm 30
  have m31 : γ 1 92 0 7 = ρ 35 := zAllA hm 31
  have m32 : γ 1 92 0 8 = ρ 36 := zAllA hm 32
  have m33 : γ 1 92 0 9 = ρ 37 := zAllA hm 33
  have m34 : γ 1 92 0 10 = ρ 38 := zAllA hm 34
  have m35 : γ 1 92 0 11 = ρ 39 := zAllA hm 35
  have m36 : γ 1 92 0 12 = ρ 40 := zAllA hm 36
  have m37 : γ 1 92 0 13 = ρ 41 := zAllA hm 37
  have m38 : γ 1 92 0 14 = ρ 42 := zAllA hm 38
  have m39 : γ 1 92 0 15 = ρ 43 := zAllA hm 39
  have m40 : γ 1 92 0 16 = ρ 44 := zAllA hm 40
  have m41 : γ 1 92 0 17 = ρ 45 := zAllA hm 41
  have m42 : γ 1 92 0 18 = ρ 46 := zAllA hm 42
  have m43 : γ 1 92 0 19 = ρ 47 := zAllA hm 43
  have m45 : γ 0 73 0 (ρ 26) = ρ 49 := zAllA hm 45
  have m46 : γ 0 69 0 (ρ 26) = ρ 50 := zAllA hm 46
  show jn77 [ρ 0, ρ 1, ρ 2, ρ 3, ρ 4, ρ 5, ρ 6, ρ 7, ρ 8, ρ 9, ρ 10, ρ 11, ρ 12, ρ 13, ρ 14, ρ 15, ρ 16, ρ 17, ρ 18, ρ 19, ρ 20, ρ 21, ρ 22, ρ 23] (γ 0) 2 [ρ 0, ρ 1, ρ 2, ρ 3, ρ 4, ρ 5, ρ 6, ρ 7, ρ 8, ρ 9, ρ 10, ρ 11, ρ 12, ρ 13, ρ 14, ρ 15, ρ 16, ρ 17, ρ 18, ρ 19, ρ 20, ρ 21, ρ 22, ρ 23, ρ 26 + 1, ρ 27, ρ 28, ρ 29, ρ 30, ρ 31, ρ 32, ρ 33, ρ 34, ρ 35, ρ 36, ρ 37, ρ 38, ρ 39, ρ 40, ρ 41, ρ 42, ρ 43, ρ 44, ρ 45, ρ 46, ρ 47, ρ 48] (γ 1)
  have hD : en77 (γ 0) (3, [ρ 24, ρ 25, ρ 26, ρ 27], γ 1) = .inl (2, [ρ 26 + 1, ρ 27], γ 1) := by
    unfold en77
    refine zIN (show ¬ (3 : Nat) = 0 by decide) (zIN (show ¬ (3 : Nat) = 1 by decide) (zIN (show ¬ (3 : Nat) = 2 by decide) (zIP (show (3 : Nat) = 3 by decide) (zLV (γ 1) rfl (zLV (ρ 24) rfl (zLV (ρ 25) rfl (zLV (ρ 26) rfl ?_)))))))
    refine zLV (ρ 27) rfl (zLE m24 (zLE m25 (zLE m26 (zLE m27 (zLE m28 (zLE m29 (zLE m30 ?_)))))))
    refine zLE m31 (zLE m32 (zLE m33 (zLE m34 (zLE m35 (zLE m36 (zLE m37 (zLE m38 ?_)))))))
    refine zLE m39 (zLE m40 (zLE m41 (zLE m42 (zLE m43 (zLE m45 (zIP w_0 (zIP w_1 ?_)))))))
    refine zLE m46 (zIN w_2 (zIN w_3 (zIN w_4 (zIP w_5 (zIP w_6 ?_)))))
    rfl
  exact zGoo_ato hJ hD
theorem vn77a3_7 {S : Nat → zSpc}  {a : List Int} {g : rHp} : ∀ (ρ : Nat → Int) (γ : Nat → rHp), jn77 a g 3 (zAg (zNA a77_ 3) ρ) (γ 1) → zO 24 S a g q77a3_7 ρ γ → zGl (fun i vs g1 => jn77 a g i vs g1) (sn77 a g) q77a3_7 ρ γ := by
  intro ρ γ hJ h
  obtain ⟨ha, hg, hr, hf, hm, hc, hl⟩ := h
  have ha : a = [ρ 0, ρ 1, ρ 2, ρ 3, ρ 4, ρ 5, ρ 6, ρ 7, ρ 8, ρ 9, ρ 10, ρ 11, ρ 12, ρ 13, ρ 14, ρ 15, ρ 16, ρ 17, ρ 18, ρ 19, ρ 20, ρ 21, ρ 22, ρ 23] := ha
  subst ha
  subst hg
  have hJ : jn77 [ρ 0, ρ 1, ρ 2, ρ 3, ρ 4, ρ 5, ρ 6, ρ 7, ρ 8, ρ 9, ρ 10, ρ 11, ρ 12, ρ 13, ρ 14, ρ 15, ρ 16, ρ 17, ρ 18, ρ 19, ρ 20, ρ 21, ρ 22, ρ 23] (γ 0) 3 [ρ 0, ρ 1, ρ 2, ρ 3, ρ 4, ρ 5, ρ 6, ρ 7, ρ 8, ρ 9, ρ 10, ρ 11, ρ 12, ρ 13, ρ 14, ρ 15, ρ 16, ρ 17, ρ 18, ρ 19, ρ 20, ρ 21, ρ 22, ρ 23, ρ 24, ρ 25, ρ 26, ρ 27, ρ 28, ρ 29, ρ 30, ρ 31, ρ 32, ρ 33, ρ 34, ρ 35, ρ 36, ρ 37, ρ 38, ρ 39, ρ 40, ρ 41, ρ 42, ρ 43, ρ 44, ρ 45, ρ 46, ρ 47, ρ 48] (γ 1) := hJ
  have r25 : (0 : Int) ≤ ρ 25 ∧ ρ 25 ≤ 20 := zRnA hr 25
  have r50 : (3 : Int) ≤ ρ 50 ∧ ρ 50 ≤ 3 := zRnA hr 50
  have f0 : (0 : Int) ≤ -ρ 31 + ρ 25 + (-1) := zAllA hf 0
  have f1 : (0 : Int) ≤ -ρ 49 + ((-8) * ρ 26 + ρ 24) := zAllA hf 1
  obtain ⟨w_0, w_1, w_2, w_3, w_4, w_5, w_6⟩ : (ρ 24 ≥ ρ 49 + 8 * ρ 26) ∧ (ρ 25 ≤ 20) ∧ (¬ (0 ≤ -ρ 50)) ∧ (¬ (0 ≤ -ρ 50 + 1)) ∧ (¬ (0 ≤ -ρ 50 + 2)) ∧ (0 ≤ -ρ 50 + 3) ∧ (¬ (ρ 25 ≤ ρ 31)) := ⟨by omega, by omega, by omega, by omega, by omega, by omega, by omega⟩
  have m24 : γ 1 92 0 0 = ρ 28 := zAllA hm 24
  have m25 : γ 1 92 0 1 = ρ 29 := zAllA hm 25
  have m26 : γ 1 92 0 2 = ρ 30 := zAllA hm 26
  have m27 : γ 1 92 0 3 = ρ 31 := zAllA hm 27
  have m28 : γ 1 92 0 4 = ρ 32 := zAllA hm 28
  have m29 : γ 1 92 0 5 = ρ 33 := zAllA hm 29
  have m30 : γ 1 92 0 6 = ρ 34 := zAllA hm 30
  have m31 : γ 1 92 0 7 = ρ 35 := zAllA hm 31
  have m32 : γ 1 92 0 8 = ρ 36 := zAllA hm 32
  have m33 : γ 1 92 0 9 = ρ 37 := zAllA hm 33
  have m34 : γ 1 92 0 10 = ρ 38 := zAllA hm 34
  have m35 : γ 1 92 0 11 = ρ 39 := zAllA hm 35
  have m36 : γ 1 92 0 12 = ρ 40 := zAllA hm 36
  have m37 : γ 1 92 0 13 = ρ 41 := zAllA hm 37
  have m38 : γ 1 92 0 14 = ρ 42 := zAllA hm 38
  have m39 : γ 1 92 0 15 = ρ 43 := zAllA hm 39
  have m40 : γ 1 92 0 16 = ρ 44 := zAllA hm 40
  have m41 : γ 1 92 0 17 = ρ 45 := zAllA hm 41
  have m42 : γ 1 92 0 18 = ρ 46 := zAllA hm 42
  have m43 : γ 1 92 0 19 = ρ 47 := zAllA hm 43
  have m45 : γ 0 73 0 (ρ 26) = ρ 49 := zAllA hm 45
  have m46 : γ 0 69 0 (ρ 26) = ρ 50 := zAllA hm 46
  have c2 : γ 2 = rUp (γ 1) 92 0 (ρ 50) (ρ 25) := And.right (zChA hc 0)
  show jn77 [ρ 0, ρ 1, ρ 2, ρ 3, ρ 4, ρ 5, ρ 6, ρ 7, ρ 8, ρ 9, ρ 10, ρ 11, ρ 12, ρ 13, ρ 14, ρ 15, ρ 16, ρ 17, ρ 18, ρ 19, ρ 20, ρ 21, ρ 22, ρ 23] (γ 0) 2 [ρ 0, ρ 1, ρ 2, ρ 3, ρ 4, ρ 5, ρ 6, ρ 7, ρ 8, ρ 9, ρ 10, ρ 11, ρ 12, ρ 13, ρ 14, ρ 15, ρ 16, ρ 17, ρ 18, ρ 19, ρ 20, ρ 21, ρ 22, ρ 23, ρ 26 + 1, 1, ρ 28, ρ 29, ρ 30, ρ 25, ρ 32, ρ 33, ρ 34, ρ 35, ρ 36, ρ 37, ρ 38, ρ 39, ρ 40, ρ 41, ρ 42, ρ 43, ρ 44, ρ 45, ρ 46, ρ 47, ρ 48] (γ 2)
  have hD : en77 (γ 0) (3, [ρ 24, ρ 25, ρ 26, ρ 27], γ 1) = .inl (2, [ρ 26 + 1, 1], γ 2) := by
    unfold en77
    refine zIN (show ¬ (3 : Nat) = 0 by decide) (zIN (show ¬ (3 : Nat) = 1 by decide) (zIN (show ¬ (3 : Nat) = 2 by decide) (zIP (show (3 : Nat) = 3 by decide) (zLV (γ 1) rfl (zLV (ρ 24) rfl (zLV (ρ 25) rfl (zLV (ρ 26) rfl ?_)))))))
    refine zLV (ρ 27) rfl (zLE m24 (zLE m25 (zLE m26 (zLE m27 (zLE m28 (zLE m29 (zLE m30 ?_)))))))
    refine zLE m31 (zLE m32 (zLE m33 (zLE m34 (zLE m35 (zLE m36 (zLE m37 (zLE m38 ?_)))))))
    refine zLE m39 (zLE m40 (zLE m41 (zLE m42 (zLE m43 (zLE m45 (zIP w_0 (zIP w_1 ?_)))))))
    refine zLE m46 (zIN w_2 (zIN w_3 (zIN w_4 (zIP w_5 (zIN w_6 (zLE c2.symm ?_))))))
    rfl
  exact zGoo_ato hJ hD
theorem vn77a3_8 {S : Nat → zSpc}  {a : List Int} {g : rHp} : ∀ (ρ : Nat → Int) (γ : Nat → rHp), jn77 a g 3 (zAg (zNA a77_ 3) ρ) (γ 1) → zO 24 S a g q77a3_8 ρ γ → zGl (fun i vs g1 => jn77 a g i vs g1) (sn77 a g) q77a3_8 ρ γ := by
  intro ρ γ hJ h
  obtain ⟨ha, hg, hr, hf, hm, hc, hl⟩ := h
  have ha : a = [ρ 0, ρ 1, ρ 2, ρ 3, ρ 4, ρ 5, ρ 6, ρ 7, ρ 8, ρ 9, ρ 10, ρ 11, ρ 12, ρ 13, ρ 14, ρ 15, ρ 16, ρ 17, ρ 18, ρ 19, ρ 20, ρ 21, ρ 22, ρ 23] := ha
  subst ha
  subst hg
  have hJ : jn77 [ρ 0, ρ 1, ρ 2, ρ 3, ρ 4, ρ 5, ρ 6, ρ 7, ρ 8, ρ 9, ρ 10, ρ 11, ρ 12, ρ 13, ρ 14, ρ 15, ρ 16, ρ 17, ρ 18, ρ 19, ρ 20, ρ 21, ρ 22, ρ 23] (γ 0) 3 [ρ 0, ρ 1, ρ 2, ρ 3, ρ 4, ρ 5, ρ 6, ρ 7, ρ 8, ρ 9, ρ 10, ρ 11, ρ 12, ρ 13, ρ 14, ρ 15, ρ 16, ρ 17, ρ 18, ρ 19, ρ 20, ρ 21, ρ 22, ρ 23, ρ 24, ρ 25, ρ 26, ρ 27, ρ 28, ρ 29, ρ 30, ρ 31, ρ 32, ρ 33, ρ 34, ρ 35, ρ 36, ρ 37, ρ 38, ρ 39, ρ 40, ρ 41, ρ 42, ρ 43, ρ 44, ρ 45, ρ 46, ρ 47, ρ 48] (γ 1) := hJ
  have r25 : (0 : Int) ≤ ρ 25 ∧ ρ 25 ≤ 20 := zRnA hr 25
  have r50 : (4 : Int) ≤ ρ 50 ∧ ρ 50 ≤ 4 := zRnA hr 50
  have f0 : (0 : Int) ≤ ρ 32 + -ρ 25 := zAllA hf 0
  have f1 : (0 : Int) ≤ -ρ 49 + ((-8) * ρ 26 + ρ 24) := zAllA hf 1
  obtain ⟨w_0, w_1, w_2, w_3, w_4, w_5, w_6, w_7⟩ : (ρ 24 ≥ ρ 49 + 8 * ρ 26) ∧ (ρ 25 ≤ 20) ∧ (¬ (0 ≤ -ρ 50)) ∧ (¬ (0 ≤ -ρ 50 + 1)) ∧ (¬ (0 ≤ -ρ 50 + 2)) ∧ (¬ (0 ≤ -ρ 50 + 3)) ∧ (0 ≤ -ρ 50 + 4) ∧ (ρ 25 ≤ ρ 32) := ⟨by omega, by omega, by omega, by omega, by omega, by omega, by omega, by omega⟩
  have m24 : γ 1 92 0 0 = ρ 28 := zAllA hm 24
  have m25 : γ 1 92 0 1 = ρ 29 := zAllA hm 25
  have m26 : γ 1 92 0 2 = ρ 30 := zAllA hm 26
  have m27 : γ 1 92 0 3 = ρ 31 := zAllA hm 27
  have m28 : γ 1 92 0 4 = ρ 32 := zAllA hm 28
  have m29 : γ 1 92 0 5 = ρ 33 := zAllA hm 29
  have m30 : γ 1 92 0 6 = ρ 34 := zAllA hm 30
  have m31 : γ 1 92 0 7 = ρ 35 := zAllA hm 31
  have m32 : γ 1 92 0 8 = ρ 36 := zAllA hm 32
  have m33 : γ 1 92 0 9 = ρ 37 := zAllA hm 33
  have m34 : γ 1 92 0 10 = ρ 38 := zAllA hm 34
  have m35 : γ 1 92 0 11 = ρ 39 := zAllA hm 35
  have m36 : γ 1 92 0 12 = ρ 40 := zAllA hm 36
  have m37 : γ 1 92 0 13 = ρ 41 := zAllA hm 37
  have m38 : γ 1 92 0 14 = ρ 42 := zAllA hm 38
  have m39 : γ 1 92 0 15 = ρ 43 := zAllA hm 39
  have m40 : γ 1 92 0 16 = ρ 44 := zAllA hm 40
  have m41 : γ 1 92 0 17 = ρ 45 := zAllA hm 41
  have m42 : γ 1 92 0 18 = ρ 46 := zAllA hm 42
  have m43 : γ 1 92 0 19 = ρ 47 := zAllA hm 43
  have m45 : γ 0 73 0 (ρ 26) = ρ 49 := zAllA hm 45
  have m46 : γ 0 69 0 (ρ 26) = ρ 50 := zAllA hm 46
  show jn77 [ρ 0, ρ 1, ρ 2, ρ 3, ρ 4, ρ 5, ρ 6, ρ 7, ρ 8, ρ 9, ρ 10, ρ 11, ρ 12, ρ 13, ρ 14, ρ 15, ρ 16, ρ 17, ρ 18, ρ 19, ρ 20, ρ 21, ρ 22, ρ 23] (γ 0) 2 [ρ 0, ρ 1, ρ 2, ρ 3, ρ 4, ρ 5, ρ 6, ρ 7, ρ 8, ρ 9, ρ 10, ρ 11, ρ 12, ρ 13, ρ 14, ρ 15, ρ 16, ρ 17, ρ 18, ρ 19, ρ 20, ρ 21, ρ 22, ρ 23, ρ 26 + 1, ρ 27, ρ 28, ρ 29, ρ 30, ρ 31, ρ 32, ρ 33, ρ 34, ρ 35, ρ 36, ρ 37, ρ 38, ρ 39, ρ 40, ρ 41, ρ 42, ρ 43, ρ 44, ρ 45, ρ 46, ρ 47, ρ 48] (γ 1)
  have hD : en77 (γ 0) (3, [ρ 24, ρ 25, ρ 26, ρ 27], γ 1) = .inl (2, [ρ 26 + 1, ρ 27], γ 1) := by
    unfold en77
    refine zIN (show ¬ (3 : Nat) = 0 by decide) (zIN (show ¬ (3 : Nat) = 1 by decide) (zIN (show ¬ (3 : Nat) = 2 by decide) (zIP (show (3 : Nat) = 3 by decide) (zLV (γ 1) rfl (zLV (ρ 24) rfl (zLV (ρ 25) rfl (zLV (ρ 26) rfl ?_)))))))
    refine zLV (ρ 27) rfl (zLE m24 (zLE m25 (zLE m26 (zLE m27 (zLE m28 (zLE m29 (zLE m30 ?_)))))))
    refine zLE m31 (zLE m32 (zLE m33 (zLE m34 (zLE m35 (zLE m36 (zLE m37 (zLE m38 ?_)))))))
    refine zLE m39 (zLE m40 (zLE m41 (zLE m42 (zLE m43 (zLE m45 (zIP w_0 (zIP w_1 ?_)))))))
    refine zLE m46 (zIN w_2 (zIN w_3 (zIN w_4 (zIN w_5 (zIP w_6 (zIP w_7 ?_))))))
    rfl
  exact zGoo_ato hJ hD
theorem vn77a3_9 {S : Nat → zSpc}  {a : List Int} {g : rHp} : ∀ (ρ : Nat → Int) (γ : Nat → rHp), jn77 a g 3 (zAg (zNA a77_ 3) ρ) (γ 1) → zO 24 S a g q77a3_9 ρ γ → zGl (fun i vs g1 => jn77 a g i vs g1) (sn77 a g) q77a3_9 ρ γ := by
  intro ρ γ hJ h
  obtain ⟨ha, hg, hr, hf, hm, hc, hl⟩ := h
  have ha : a = [ρ 0, ρ 1, ρ 2, ρ 3, ρ 4, ρ 5, ρ 6, ρ 7, ρ 8, ρ 9, ρ 10, ρ 11, ρ 12, ρ 13, ρ 14, ρ 15, ρ 16, ρ 17, ρ 18, ρ 19, ρ 20, ρ 21, ρ 22, ρ 23] := ha
  subst ha
  subst hg
  have hJ : jn77 [ρ 0, ρ 1, ρ 2, ρ 3, ρ 4, ρ 5, ρ 6, ρ 7, ρ 8, ρ 9, ρ 10, ρ 11, ρ 12, ρ 13, ρ 14, ρ 15, ρ 16, ρ 17, ρ 18, ρ 19, ρ 20, ρ 21, ρ 22, ρ 23] (γ 0) 3 [ρ 0, ρ 1, ρ 2, ρ 3, ρ 4, ρ 5, ρ 6, ρ 7, ρ 8, ρ 9, ρ 10, ρ 11, ρ 12, ρ 13, ρ 14, ρ 15, ρ 16, ρ 17, ρ 18, ρ 19, ρ 20, ρ 21, ρ 22, ρ 23, ρ 24, ρ 25, ρ 26, ρ 27, ρ 28, ρ 29, ρ 30, ρ 31, ρ 32, ρ 33, ρ 34, ρ 35, ρ 36, ρ 37, ρ 38, ρ 39, ρ 40, ρ 41, ρ 42, ρ 43, ρ 44, ρ 45, ρ 46, ρ 47, ρ 48] (γ 1) := hJ
  have r25 : (0 : Int) ≤ ρ 25 ∧ ρ 25 ≤ 20 := zRnA hr 25
  have r50 : (4 : Int) ≤ ρ 50 ∧ ρ 50 ≤ 4 := zRnA hr 50
  have f0 : (0 : Int) ≤ -ρ 32 + ρ 25 + (-1) := zAllA hf 0
  have f1 : (0 : Int) ≤ -ρ 49 + ((-8) * ρ 26 + ρ 24) := zAllA hf 1
  obtain ⟨w_0, w_1, w_2, w_3, w_4, w_5, w_6, w_7⟩ : (ρ 24 ≥ ρ 49 + 8 * ρ 26) ∧ (ρ 25 ≤ 20) ∧ (¬ (0 ≤ -ρ 50)) ∧ (¬ (0 ≤ -ρ 50 + 1)) ∧ (¬ (0 ≤ -ρ 50 + 2)) ∧ (¬ (0 ≤ -ρ 50 + 3)) ∧ (0 ≤ -ρ 50 + 4) ∧ (¬ (ρ 25 ≤ ρ 32)) := ⟨by omega, by omega, by omega, by omega, by omega, by omega, by omega, by omega⟩
  have m24 : γ 1 92 0 0 = ρ 28 := zAllA hm 24
  have m25 : γ 1 92 0 1 = ρ 29 := zAllA hm 25
  have m26 : γ 1 92 0 2 = ρ 30 := zAllA hm 26
  have m27 : γ 1 92 0 3 = ρ 31 := zAllA hm 27
  have m28 : γ 1 92 0 4 = ρ 32 := zAllA hm 28
  have m29 : γ 1 92 0 5 = ρ 33 := zAllA hm 29
  have m30 : γ 1 92 0 6 = ρ 34 := zAllA hm 30
  have m31 : γ 1 92 0 7 = ρ 35 := zAllA hm 31
  have m32 : γ 1 92 0 8 = ρ 36 := zAllA hm 32
  have m33 : γ 1 92 0 9 = ρ 37 := zAllA hm 33
  have m34 : γ 1 92 0 10 = ρ 38 := zAllA hm 34
  have m35 : γ 1 92 0 11 = ρ 39 := zAllA hm 35
  have m36 : γ 1 92 0 12 = ρ 40 := zAllA hm 36
  have m37 : γ 1 92 0 13 = ρ 41 := zAllA hm 37
  have m38 : γ 1 92 0 14 = ρ 42 := zAllA hm 38
  have m39 : γ 1 92 0 15 = ρ 43 := zAllA hm 39
  have m40 : γ 1 92 0 16 = ρ 44 := zAllA hm 40
  have m41 : γ 1 92 0 17 = ρ 45 := zAllA hm 41
  have m42 : γ 1 92 0 18 = ρ 46 := zAllA hm 42
  have m43 : γ 1 92 0 19 = ρ 47 := zAllA hm 43
  have m45 : γ 0 73 0 (ρ 26) = ρ 49 := zAllA hm 45
  have m46 : γ 0 69 0 (ρ 26) = ρ 50 := zAllA hm 46
  have c2 : γ 2 = rUp (γ 1) 92 0 (ρ 50) (ρ 25) := And.right (zChA hc 0)
  show jn77 [ρ 0, ρ 1, ρ 2, ρ 3, ρ 4, ρ 5, ρ 6, ρ 7, ρ 8, ρ 9, ρ 10, ρ 11, ρ 12, ρ 13, ρ 14, ρ 15, ρ 16, ρ 17, ρ 18, ρ 19, ρ 20, ρ 21, ρ 22, ρ 23] (γ 0) 2 [ρ 0, ρ 1, ρ 2, ρ 3, ρ 4, ρ 5, ρ 6, ρ 7, ρ 8, ρ 9, ρ 10, ρ 11, ρ 12, ρ 13, ρ 14, ρ 15, ρ 16, ρ 17, ρ 18, ρ 19, ρ 20, ρ 21, ρ 22, ρ 23, ρ 26 + 1, 1, ρ 28, ρ 29, ρ 30, ρ 31, ρ 25, ρ 33, ρ 34, ρ 35, ρ 36, ρ 37, ρ 38, ρ 39, ρ 40, ρ 41, ρ 42, ρ 43, ρ 44, ρ 45, ρ 46, ρ 47, ρ 48] (γ 2)
  have hD : en77 (γ 0) (3, [ρ 24, ρ 25, ρ 26, ρ 27], γ 1) = .inl (2, [ρ 26 + 1, 1], γ 2) := by
    unfold en77
    refine zIN (show ¬ (3 : Nat) = 0 by decide) (zIN (show ¬ (3 : Nat) = 1 by decide) (zIN (show ¬ (3 : Nat) = 2 by decide) (zIP (show (3 : Nat) = 3 by decide) (zLV (γ 1) rfl (zLV (ρ 24) rfl (zLV (ρ 25) rfl (zLV (ρ 26) rfl ?_)))))))
    refine zLV (ρ 27) rfl (zLE m24 (zLE m25 (zLE m26 (zLE m27 (zLE m28 (zLE m29 (zLE m30 ?_)))))))
    refine zLE m31 (zLE m32 (zLE m33 (zLE m34 (zLE m35 (zLE m36 (zLE m37 (zLE m38 ?_)))))))
    refine zLE m39 (zLE m40 (zLE m41 (zLE m42 (zLE m43 (zLE m45 (zIP w_0 (zIP w_1 ?_)))))))
    refine zLE m46 (zIN w_2 (zIN w_3 (zIN w_4 (zIN w_5 (zIP w_6 (zIN w_7 (zLE c2.symm ?_)))))))
    rfl
  exact zGoo_ato hJ hD
theorem vn77a3_10 {S : Nat → zSpc}  {a : List Int} {g : rHp} : ∀ (ρ : Nat → Int) (γ : Nat → rHp), jn77 a g 3 (zAg (zNA a77_ 3) ρ) (γ 1) → zO 24 S a g q77a3_10 ρ γ → zGl (fun i vs g1 => jn77 a g i vs g1) (sn77 a g) q77a3_10 ρ γ := by
  intro ρ γ hJ h
  obtain ⟨ha, hg, hr, hf, hm, hc, hl⟩ := h
  have ha : a = [ρ 0, ρ 1, ρ 2, ρ 3, ρ 4, ρ 5, ρ 6, ρ 7, ρ 8, ρ 9, ρ 10, ρ 11, ρ 12, ρ 13, ρ 14, ρ 15, ρ 16, ρ 17, ρ 18, ρ 19, ρ 20, ρ 21, ρ 22, ρ 23] := ha
  subst ha
  subst hg
  have hJ : jn77 [ρ 0, ρ 1, ρ 2, ρ 3, ρ 4, ρ 5, ρ 6, ρ 7, ρ 8, ρ 9, ρ 10, ρ 11, ρ 12, ρ 13, ρ 14, ρ 15, ρ 16, ρ 17, ρ 18, ρ 19, ρ 20, ρ 21, ρ 22, ρ 23] (γ 0) 3 [ρ 0, ρ 1, ρ 2, ρ 3, ρ 4, ρ 5, ρ 6, ρ 7, ρ 8, ρ 9, ρ 10, ρ 11, ρ 12, ρ 13, ρ 14, ρ 15, ρ 16, ρ 17, ρ 18, ρ 19, ρ 20, ρ 21, ρ 22, ρ 23, ρ 24, ρ 25, ρ 26, ρ 27, ρ 28, ρ 29, ρ 30, ρ 31, ρ 32, ρ 33, ρ 34, ρ 35, ρ 36, ρ 37, ρ 38, ρ 39, ρ 40, ρ 41, ρ 42, ρ 43, ρ 44, ρ 45, ρ 46, ρ 47, ρ 48] (γ 1) := hJ
  have r25 : (0 : Int) ≤ ρ 25 ∧ ρ 25 ≤ 20 := zRnA hr 25
  have r50 : (5 : Int) ≤ ρ 50 ∧ ρ 50 ≤ 5 := zRnA hr 50
  have f0 : (0 : Int) ≤ ρ 33 + -ρ 25 := zAllA hf 0
  have f1 : (0 : Int) ≤ -ρ 49 + ((-8) * ρ 26 + ρ 24) := zAllA hf 1
  obtain ⟨w_0, w_1, w_2, w_3, w_4, w_5, w_6, w_7, w_8⟩ : (ρ 24 ≥ ρ 49 + 8 * ρ 26) ∧ (ρ 25 ≤ 20) ∧ (¬ (0 ≤ -ρ 50)) ∧ (¬ (0 ≤ -ρ 50 + 1)) ∧ (¬ (0 ≤ -ρ 50 + 2)) ∧ (¬ (0 ≤ -ρ 50 + 3)) ∧ (¬ (0 ≤ -ρ 50 + 4)) ∧ (0 ≤ -ρ 50 + 5) ∧ (ρ 25 ≤ ρ 33) := ⟨by omega, by omega, by omega, by omega, by omega, by omega, by omega, by omega, by omega⟩
  have m24 : γ 1 92 0 0 = ρ 28 := zAllA hm 24
  have m25 : γ 1 92 0 1 = ρ 29 := zAllA hm 25
  have m26 : γ 1 92 0 2 = ρ 30 := zAllA hm 26
  have m27 : γ 1 92 0 3 = ρ 31 := zAllA hm 27
  have m28 : γ 1 92 0 4 = ρ 32 := zAllA hm 28
  have m29 : γ 1 92 0 5 = ρ 33 := zAllA hm 29
  have m30 : γ 1 92 0 6 = ρ 34 := zAllA hm 30
  have m31 : γ 1 92 0 7 = ρ 35 := zAllA hm 31
  have m32 : γ 1 92 0 8 = ρ 36 := zAllA hm 32
  have m33 : γ 1 92 0 9 = ρ 37 := zAllA hm 33
  have m34 : γ 1 92 0 10 = ρ 38 := zAllA hm 34
  have m35 : γ 1 92 0 11 = ρ 39 := zAllA hm 35
  have m36 : γ 1 92 0 12 = ρ 40 := zAllA hm 36
  have m37 : γ 1 92 0 13 = ρ 41 := zAllA hm 37
  have m38 : γ 1 92 0 14 = ρ 42 := zAllA hm 38
  have m39 : γ 1 92 0 15 = ρ 43 := zAllA hm 39
  have m40 : γ 1 92 0 16 = ρ 44 := zAllA hm 40
  have m41 : γ 1 92 0 17 = ρ 45 := zAllA hm 41
  have m42 : γ 1 92 0 18 = ρ 46 := zAllA hm 42
  have m43 : γ 1 92 0 19 = ρ 47 := zAllA hm 43
  have m45 : γ 0 73 0 (ρ 26) = ρ 49 := zAllA hm 45
  have m46 : γ 0 69 0 (ρ 26) = ρ 50 := zAllA hm 46
  show jn77 [ρ 0, ρ 1, ρ 2, ρ 3, ρ 4, ρ 5, ρ 6, ρ 7, ρ 8, ρ 9, ρ 10, ρ 11, ρ 12, ρ 13, ρ 14, ρ 15, ρ 16, ρ 17, ρ 18, ρ 19, ρ 20, ρ 21, ρ 22, ρ 23] (γ 0) 2 [ρ 0, ρ 1, ρ 2, ρ 3, ρ 4, ρ 5, ρ 6, ρ 7, ρ 8, ρ 9, ρ 10, ρ 11, ρ 12, ρ 13, ρ 14, ρ 15, ρ 16, ρ 17, ρ 18, ρ 19, ρ 20, ρ 21, ρ 22, ρ 23, ρ 26 + 1, ρ 27, ρ 28, ρ 29, ρ 30, ρ 31, ρ 32, ρ 33, ρ 34, ρ 35, ρ 36, ρ 37, ρ 38, ρ 39, ρ 40, ρ 41, ρ 42, ρ 43, ρ 44, ρ 45, ρ 46, ρ 47, ρ 48] (γ 1)
  have hD : en77 (γ 0) (3, [ρ 24, ρ 25, ρ 26, ρ 27], γ 1) = .inl (2, [ρ 26 + 1, ρ 27], γ 1) := by
    unfold en77
    refine zIN (show ¬ (3 : Nat) = 0 by decide) (zIN (show ¬ (3 : Nat) = 1 by decide) (zIN (show ¬ (3 : Nat) = 2 by decide) (zIP (show (3 : Nat) = 3 by decide) (zLV (γ 1) rfl (zLV (ρ 24) rfl (zLV (ρ 25) rfl (zLV (ρ 26) rfl ?_)))))))
    refine zLV (ρ 27) rfl (zLE m24 (zLE m25 (zLE m26 (zLE m27 (zLE m28 (zLE m29 (zLE m30 ?_)))))))
    refine zLE m31 (zLE m32 (zLE m33 (zLE m34 (zLE m35 (zLE m36 (zLE m37 (zLE m38 ?_)))))))
    refine zLE m39 (zLE m40 (zLE m41 (zLE m42 (zLE m43 (zLE m45 (zIP w_0 (zIP w_1 ?_)))))))
    refine zLE m46 (zIN w_2 (zIN w_3 (zIN w_4 (zIN w_5 (zIN w_6 (zIP w_7 (zIP w_8 ?_)))))))
    rfl
  exact zGoo_ato hJ hD
theorem vn77a3_11 {S : Nat → zSpc}  {a : List Int} {g : rHp} : ∀ (ρ : Nat → Int) (γ : Nat → rHp), jn77 a g 3 (zAg (zNA a77_ 3) ρ) (γ 1) → zO 24 S a g q77a3_11 ρ γ → zGl (fun i vs g1 => jn77 a g i vs g1) (sn77 a g) q77a3_11 ρ γ := by
  intro ρ γ hJ h
  obtain ⟨ha, hg, hr, hf, hm, hc, hl⟩ := h
  have ha : a = [ρ 0, ρ 1, ρ 2, ρ 3, ρ 4, ρ 5, ρ 6, ρ 7, ρ 8, ρ 9, ρ 10, ρ 11, ρ 12, ρ 13, ρ 14, ρ 15, ρ 16, ρ 17, ρ 18, ρ 19, ρ 20, ρ 21, ρ 22, ρ 23] := ha
  subst ha
  subst hg
  have hJ : jn77 [ρ 0, ρ 1, ρ 2, ρ 3, ρ 4, ρ 5, ρ 6, ρ 7, ρ 8, ρ 9, ρ 10, ρ 11, ρ 12, ρ 13, ρ 14, ρ 15, ρ 16, ρ 17, ρ 18, ρ 19, ρ 20, ρ 21, ρ 22, ρ 23] (γ 0) 3 [ρ 0, ρ 1, ρ 2, ρ 3, ρ 4, ρ 5, ρ 6, ρ 7, ρ 8, ρ 9, ρ 10, ρ 11, ρ 12, ρ 13, ρ 14, ρ 15, ρ 16, ρ 17, ρ 18, ρ 19, ρ 20, ρ 21, ρ 22, ρ 23, ρ 24, ρ 25, ρ 26, ρ 27, ρ 28, ρ 29, ρ 30, ρ 31, ρ 32, ρ 33, ρ 34, ρ 35, ρ 36, ρ 37, ρ 38, ρ 39, ρ 40, ρ 41, ρ 42, ρ 43, ρ 44, ρ 45, ρ 46, ρ 47, ρ 48] (γ 1) := hJ
  have r25 : (0 : Int) ≤ ρ 25 ∧ ρ 25 ≤ 20 := zRnA hr 25
  have r50 : (5 : Int) ≤ ρ 50 ∧ ρ 50 ≤ 5 := zRnA hr 50
  have f0 : (0 : Int) ≤ -ρ 33 + ρ 25 + (-1) := zAllA hf 0
  have f1 : (0 : Int) ≤ -ρ 49 + ((-8) * ρ 26 + ρ 24) := zAllA hf 1
  obtain ⟨w_0, w_1, w_2, w_3, w_4, w_5, w_6, w_7, w_8⟩ : (ρ 24 ≥ ρ 49 + 8 * ρ 26) ∧ (ρ 25 ≤ 20) ∧ (¬ (0 ≤ -ρ 50)) ∧ (¬ (0 ≤ -ρ 50 + 1)) ∧ (¬ (0 ≤ -ρ 50 + 2)) ∧ (¬ (0 ≤ -ρ 50 + 3)) ∧ (¬ (0 ≤ -ρ 50 + 4)) ∧ (0 ≤ -ρ 50 + 5) ∧ (¬ (ρ 25 ≤ ρ 33)) := ⟨by omega, by omega, by omega, by omega, by omega, by omega, by omega, by omega, by omega⟩
  have m24 : γ 1 92 0 0 = ρ 28 := zAllA hm 24
  have m25 : γ 1 92 0 1 = ρ 29 := zAllA hm 25
  have m26 : γ 1 92 0 2 = ρ 30 := zAllA hm 26
  have m27 : γ 1 92 0 3 = ρ 31 := zAllA hm 27
  have m28 : γ 1 92 0 4 = ρ 32 := zAllA hm 28
  have m29 : γ 1 92 0 5 = ρ 33 := zAllA hm 29
  have m30 : γ 1 92 0 6 = ρ 34 := zAllA hm 30
  have m31 : γ 1 92 0 7 = ρ 35 := zAllA hm 31
  have m32 : γ 1 92 0 8 = ρ 36 := zAllA hm 32
  have m33 : γ 1 92 0 9 = ρ 37 := zAllA hm 33
  have m34 : γ 1 92 0 10 = ρ 38 := zAllA hm 34
  have m35 : γ 1 92 0 11 = ρ 39 := zAllA hm 35
  have m36 : γ 1 92 0 12 = ρ 40 := zAllA hm 36
  have m37 : γ 1 92 0 13 = ρ 41 := zAllA hm 37
  have m38 : γ 1 92 0 14 = ρ 42 := zAllA hm 38
  have m39 : γ 1 92 0 15 = ρ 43 := zAllA hm 39
  have m40 : γ 1 92 0 16 = ρ 44 := zAllA hm 40
  have m41 : γ 1 92 0 17 = ρ 45 := zAllA hm 41
  have m42 : γ 1 92 0 18 = ρ 46 := zAllA hm 42
  have m43 : γ 1 92 0 19 = ρ 47 := zAllA hm 43
  have m45 : γ 0 73 0 (ρ 26) = ρ 49 := zAllA hm 45
  have m46 : γ 0 69 0 (ρ 26) = ρ 50 := zAllA hm 46
  have c2 : γ 2 = rUp (γ 1) 92 0 (ρ 50) (ρ 25) := And.right (zChA hc 0)
  show jn77 [ρ 0, ρ 1, ρ 2, ρ 3, ρ 4, ρ 5, ρ 6, ρ 7, ρ 8, ρ 9, ρ 10, ρ 11, ρ 12, ρ 13, ρ 14, ρ 15, ρ 16, ρ 17, ρ 18, ρ 19, ρ 20, ρ 21, ρ 22, ρ 23] (γ 0) 2 [ρ 0, ρ 1, ρ 2, ρ 3, ρ 4, ρ 5, ρ 6, ρ 7, ρ 8, ρ 9, ρ 10, ρ 11, ρ 12, ρ 13, ρ 14, ρ 15, ρ 16, ρ 17, ρ 18, ρ 19, ρ 20, ρ 21, ρ 22, ρ 23, ρ 26 + 1, 1, ρ 28, ρ 29, ρ 30, ρ 31, ρ 32, ρ 25, ρ 34, ρ 35, ρ 36, ρ 37, ρ 38, ρ 39, ρ 40, ρ 41, ρ 42, ρ 43, ρ 44, ρ 45, ρ 46, ρ 47, ρ 48] (γ 2)
  have hD : en77 (γ 0) (3, [ρ 24, ρ 25, ρ 26, ρ 27], γ 1) = .inl (2, [ρ 26 + 1, 1], γ 2) := by
    unfold en77
    refine zIN (show ¬ (3 : Nat) = 0 by decide) (zIN (show ¬ (3 : Nat) = 1 by decide) (zIN (show ¬ (3 : Nat) = 2 by decide) (zIP (show (3 : Nat) = 3 by decide) (zLV (γ 1) rfl (zLV (ρ 24) rfl (zLV (ρ 25) rfl (zLV (ρ 26) rfl ?_)))))))
    refine zLV (ρ 27) rfl (zLE m24 (zLE m25 (zLE m26 (zLE m27 (zLE m28 (zLE m29 (zLE m30 ?_)))))))
    refine zLE m31 (zLE m32 (zLE m33 (zLE m34 (zLE m35 (zLE m36 (zLE m37 (zLE m38 ?_)))))))
    refine zLE m39 (zLE m40 (zLE m41 (zLE m42 (zLE m43 (zLE m45 (zIP w_0 (zIP w_1 ?_)))))))
    refine zLE m46 (zIN w_2 (zIN w_3 (zIN w_4 (zIN w_5 (zIN w_6 (zIP w_7 (zIN w_8 ?_)))))))
    refine zLE c2.symm ?_
    rfl
  exact zGoo_ato hJ hD
theorem vn77a3_12 {S : Nat → zSpc}  {a : List Int} {g : rHp} : ∀ (ρ : Nat → Int) (γ : Nat → rHp), jn77 a g 3 (zAg (zNA a77_ 3) ρ) (γ 1) → zO 24 S a g q77a3_12 ρ γ → zGl (fun i vs g1 => jn77 a g i vs g1) (sn77 a g) q77a3_12 ρ γ := by
  intro ρ γ hJ h
  obtain ⟨ha, hg, hr, hf, hm, hc, hl⟩ := h
  have ha : a = [ρ 0, ρ 1, ρ 2, ρ 3, ρ 4, ρ 5, ρ 6, ρ 7, ρ 8, ρ 9, ρ 10, ρ 11, ρ 12, ρ 13, ρ 14, ρ 15, ρ 16, ρ 17, ρ 18, ρ 19, ρ 20, ρ 21, ρ 22, ρ 23] := ha
  subst ha
  subst hg
  have hJ : jn77 [ρ 0, ρ 1, ρ 2, ρ 3, ρ 4, ρ 5, ρ 6, ρ 7, ρ 8, ρ 9, ρ 10, ρ 11, ρ 12, ρ 13, ρ 14, ρ 15, ρ 16, ρ 17, ρ 18, ρ 19, ρ 20, ρ 21, ρ 22, ρ 23] (γ 0) 3 [ρ 0, ρ 1, ρ 2, ρ 3, ρ 4, ρ 5, ρ 6, ρ 7, ρ 8, ρ 9, ρ 10, ρ 11, ρ 12, ρ 13, ρ 14, ρ 15, ρ 16, ρ 17, ρ 18, ρ 19, ρ 20, ρ 21, ρ 22, ρ 23, ρ 24, ρ 25, ρ 26, ρ 27, ρ 28, ρ 29, ρ 30, ρ 31, ρ 32, ρ 33, ρ 34, ρ 35, ρ 36, ρ 37, ρ 38, ρ 39, ρ 40, ρ 41, ρ 42, ρ 43, ρ 44, ρ 45, ρ 46, ρ 47, ρ 48] (γ 1) := hJ
  have r25 : (0 : Int) ≤ ρ 25 ∧ ρ 25 ≤ 20 := zRnA hr 25
  have r50 : (6 : Int) ≤ ρ 50 ∧ ρ 50 ≤ 6 := zRnA hr 50
  have f0 : (0 : Int) ≤ ρ 34 + -ρ 25 := zAllA hf 0
  have f1 : (0 : Int) ≤ -ρ 49 + ((-8) * ρ 26 + ρ 24) := zAllA hf 1
  obtain ⟨w_0, w_1, w_2, w_3, w_4, w_5, w_6, w_7, w_8, w_9⟩ : (ρ 24 ≥ ρ 49 + 8 * ρ 26) ∧ (ρ 25 ≤ 20) ∧ (¬ (0 ≤ -ρ 50)) ∧ (¬ (0 ≤ -ρ 50 + 1)) ∧ (¬ (0 ≤ -ρ 50 + 2)) ∧ (¬ (0 ≤ -ρ 50 + 3)) ∧ (¬ (0 ≤ -ρ 50 + 4)) ∧ (¬ (0 ≤ -ρ 50 + 5)) ∧ (0 ≤ -ρ 50 + 6) ∧ (ρ 25 ≤ ρ 34) := ⟨by omega, by omega, by omega, by omega, by omega, by omega, by omega, by omega, by omega, by omega⟩
  have m24 : γ 1 92 0 0 = ρ 28 := zAllA hm 24
  have m25 : γ 1 92 0 1 = ρ 29 := zAllA hm 25
  have m26 : γ 1 92 0 2 = ρ 30 := zAllA hm 26
  have m27 : γ 1 92 0 3 = ρ 31 := zAllA hm 27
  have m28 : γ 1 92 0 4 = ρ 32 := zAllA hm 28
  have m29 : γ 1 92 0 5 = ρ 33 := zAllA hm 29
  have m30 : γ 1 92 0 6 = ρ 34 := zAllA hm 30
  have m31 : γ 1 92 0 7 = ρ 35 := zAllA hm 31
  have m32 : γ 1 92 0 8 = ρ 36 := zAllA hm 32
  have m33 : γ 1 92 0 9 = ρ 37 := zAllA hm 33
  have m34 : γ 1 92 0 10 = ρ 38 := zAllA hm 34
  have m35 : γ 1 92 0 11 = ρ 39 := zAllA hm 35
  have m36 : γ 1 92 0 12 = ρ 40 := zAllA hm 36
  have m37 : γ 1 92 0 13 = ρ 41 := zAllA hm 37
  have m38 : γ 1 92 0 14 = ρ 42 := zAllA hm 38
  have m39 : γ 1 92 0 15 = ρ 43 := zAllA hm 39
  have m40 : γ 1 92 0 16 = ρ 44 := zAllA hm 40
  have m41 : γ 1 92 0 17 = ρ 45 := zAllA hm 41
  have m42 : γ 1 92 0 18 = ρ 46 := zAllA hm 42
  have m43 : γ 1 92 0 19 = ρ 47 := zAllA hm 43
  have m45 : γ 0 73 0 (ρ 26) = ρ 49 := zAllA hm 45
  have m46 : γ 0 69 0 (ρ 26) = ρ 50 := zAllA hm 46
  show jn77 [ρ 0, ρ 1, ρ 2, ρ 3, ρ 4, ρ 5, ρ 6, ρ 7, ρ 8, ρ 9, ρ 10, ρ 11, ρ 12, ρ 13, ρ 14, ρ 15, ρ 16, ρ 17, ρ 18, ρ 19, ρ 20, ρ 21, ρ 22, ρ 23] (γ 0) 2 [ρ 0, ρ 1, ρ 2, ρ 3, ρ 4, ρ 5, ρ 6, ρ 7, ρ 8, ρ 9, ρ 10, ρ 11, ρ 12, ρ 13, ρ 14, ρ 15, ρ 16, ρ 17, ρ 18, ρ 19, ρ 20, ρ 21, ρ 22, ρ 23, ρ 26 + 1, ρ 27, ρ 28, ρ 29, ρ 30, ρ 31, ρ 32, ρ 33, ρ 34, ρ 35, ρ 36, ρ 37, ρ 38, ρ 39, ρ 40, ρ 41, ρ 42, ρ 43, ρ 44, ρ 45, ρ 46, ρ 47, ρ 48] (γ 1)
  have hD : en77 (γ 0) (3, [ρ 24, ρ 25, ρ 26, ρ 27], γ 1) = .inl (2, [ρ 26 + 1, ρ 27], γ 1) := by
    unfold en77
    refine zIN (show ¬ (3 : Nat) = 0 by decide) (zIN (show ¬ (3 : Nat) = 1 by decide) (zIN (show ¬ (3 : Nat) = 2 by decide) (zIP (show (3 : Nat) = 3 by decide) (zLV (γ 1) rfl (zLV (ρ 24) rfl (zLV (ρ 25) rfl (zLV (ρ 26) rfl ?_)))))))
    refine zLV (ρ 27) rfl (zLE m24 (zLE m25 (zLE m26 (zLE m27 (zLE m28 (zLE m29 (zLE m30 ?_)))))))
    refine zLE m31 (zLE m32 (zLE m33 (zLE m34 (zLE m35 (zLE m36 (zLE m37 (zLE m38 ?_)))))))
    refine zLE m39 (zLE m40 (zLE m41 (zLE m42 (zLE m43 (zLE m45 (zIP w_0 (zIP w_1 ?_)))))))
    refine zLE m46 (zIN w_2 (zIN w_3 (zIN w_4 (zIN w_5 (zIN w_6 (zIN w_7 (zIP w_8 ?_)))))))
    refine zIP w_9 ?_
    rfl
  exact zGoo_ato hJ hD
theorem vn77a3_13 {S : Nat → zSpc}  {a : List Int} {g : rHp} : ∀ (ρ : Nat → Int) (γ : Nat → rHp), jn77 a g 3 (zAg (zNA a77_ 3) ρ) (γ 1) → zO 24 S a g q77a3_13 ρ γ → zGl (fun i vs g1 => jn77 a g i vs g1) (sn77 a g) q77a3_13 ρ γ := by
  intro ρ γ hJ h
  obtain ⟨ha, hg, hr, hf, hm, hc, hl⟩ := h
  have ha : a = [ρ 0, ρ 1, ρ 2, ρ 3, ρ 4, ρ 5, ρ 6, ρ 7, ρ 8, ρ 9, ρ 10, ρ 11, ρ 12, ρ 13, ρ 14, ρ 15, ρ 16, ρ 17, ρ 18, ρ 19, ρ 20, ρ 21, ρ 22, ρ 23] := ha
  subst ha
  subst hg
  have hJ : jn77 [ρ 0, ρ 1, ρ 2, ρ 3, ρ 4, ρ 5, ρ 6, ρ 7, ρ 8, ρ 9, ρ 10, ρ 11, ρ 12, ρ 13, ρ 14, ρ 15, ρ 16, ρ 17, ρ 18, ρ 19, ρ 20, ρ 21, ρ 22, ρ 23] (γ 0) 3 [ρ 0, ρ 1, ρ 2, ρ 3, ρ 4, ρ 5, ρ 6, ρ 7, ρ 8, ρ 9, ρ 10, ρ 11, ρ 12, ρ 13, ρ 14, ρ 15, ρ 16, ρ 17, ρ 18, ρ 19, ρ 20, ρ 21, ρ 22, ρ 23, ρ 24, ρ 25, ρ 26, ρ 27, ρ 28, ρ 29, ρ 30, ρ 31, ρ 32, ρ 33, ρ 34, ρ 35, ρ 36, ρ 37, ρ 38, ρ 39, ρ 40, ρ 41, ρ 42, ρ 43, ρ 44, ρ 45, ρ 46, ρ 47, ρ 48] (γ 1) := hJ
  have r25 : (0 : Int) ≤ ρ 25 ∧ ρ 25 ≤ 20 := zRnA hr 25
  have r50 : (6 : Int) ≤ ρ 50 ∧ ρ 50 ≤ 6 := zRnA hr 50
  have f0 : (0 : Int) ≤ -ρ 34 + ρ 25 + (-1) := zAllA hf 0
  have f1 : (0 : Int) ≤ -ρ 49 + ((-8) * ρ 26 + ρ 24) := zAllA hf 1
  obtain ⟨w_0, w_1, w_2, w_3, w_4, w_5, w_6, w_7, w_8, w_9⟩ : (ρ 24 ≥ ρ 49 + 8 * ρ 26) ∧ (ρ 25 ≤ 20) ∧ (¬ (0 ≤ -ρ 50)) ∧ (¬ (0 ≤ -ρ 50 + 1)) ∧ (¬ (0 ≤ -ρ 50 + 2)) ∧ (¬ (0 ≤ -ρ 50 + 3)) ∧ (¬ (0 ≤ -ρ 50 + 4)) ∧ (¬ (0 ≤ -ρ 50 + 5)) ∧ (0 ≤ -ρ 50 + 6) ∧ (¬ (ρ 25 ≤ ρ 34)) := ⟨by omega, by omega, by omega, by omega, by omega, by omega, by omega, by omega, by omega, by omega⟩
  have m24 : γ 1 92 0 0 = ρ 28 := zAllA hm 24
  have m25 : γ 1 92 0 1 = ρ 29 := zAllA hm 25
  have m26 : γ 1 92 0 2 = ρ 30 := zAllA hm 26
  have m27 : γ 1 92 0 3 = ρ 31 := zAllA hm 27
  have m28 : γ 1 92 0 4 = ρ 32 := zAllA hm 28
  have m29 : γ 1 92 0 5 = ρ 33 := zAllA hm 29
  have m30 : γ 1 92 0 6 = ρ 34 := zAllA hm 30
  have m31 : γ 1 92 0 7 = ρ 35 := zAllA hm 31
  have m32 : γ 1 92 0 8 = ρ 36 := zAllA hm 32
  have m33 : γ 1 92 0 9 = ρ 37 := zAllA hm 33
  have m34 : γ 1 92 0 10 = ρ 38 := zAllA hm 34
  have m35 : γ 1 92 0 11 = ρ 39 := zAllA hm 35
  have m36 : γ 1 92 0 12 = ρ 40 := zAllA hm 36
  have m37 : γ 1 92 0 13 = ρ 41 := zAllA hm 37
  have m38 : γ 1 92 0 14 = ρ 42 := zAllA hm 38
  have m39 : γ 1 92 0 15 = ρ 43 := zAllA hm 39
  have m40 : γ 1 92 0 16 = ρ 44 := zAllA hm 40
  have m41 : γ 1 92 0 17 = ρ 45 := zAllA hm 41
  have m42 : γ 1 92 0 18 = ρ 46 := zAllA hm 42
  have m43 : γ 1 92 0 19 = ρ 47 := zAllA hm 43
  have m45 : γ 0 73 0 (ρ 26) = ρ 49 := zAllA hm 45
  have m46 : γ 0 69 0 (ρ 26) = ρ 50 := zAllA hm 46
  have c2 : γ 2 = rUp (γ 1) 92 0 (ρ 50) (ρ 25) := And.right (zChA hc 0)
  show jn77 [ρ 0, ρ 1, ρ 2, ρ 3, ρ 4, ρ 5, ρ 6, ρ 7, ρ 8, ρ 9, ρ 10, ρ 11, ρ 12, ρ 13, ρ 14, ρ 15, ρ 16, ρ 17, ρ 18, ρ 19, ρ 20, ρ 21, ρ 22, ρ 23] (γ 0) 2 [ρ 0, ρ 1, ρ 2, ρ 3, ρ 4, ρ 5, ρ 6, ρ 7, ρ 8, ρ 9, ρ 10, ρ 11, ρ 12, ρ 13, ρ 14, ρ 15, ρ 16, ρ 17, ρ 18, ρ 19, ρ 20, ρ 21, ρ 22, ρ 23, ρ 26 + 1, 1, ρ 28, ρ 29, ρ 30, ρ 31, ρ 32, ρ 33, ρ 25, ρ 35, ρ 36, ρ 37, ρ 38, ρ 39, ρ 40, ρ 41, ρ 42, ρ 43, ρ 44, ρ 45, ρ 46, ρ 47, ρ 48] (γ 2)
  have hD : en77 (γ 0) (3, [ρ 24, ρ 25, ρ 26, ρ 27], γ 1) = .inl (2, [ρ 26 + 1, 1], γ 2) := by
    unfold en77
    refine zIN (show ¬ (3 : Nat) = 0 by decide) (zIN (show ¬ (3 : Nat) = 1 by decide) (zIN (show ¬ (3 : Nat) = 2 by decide) (zIP (show (3 : Nat) = 3 by decide) (zLV (γ 1) rfl (zLV (ρ 24) rfl (zLV (ρ 25) rfl (zLV (ρ 26) rfl ?_)))))))
    refine zLV (ρ 27) rfl (zLE m24 (zLE m25 (zLE m26 (zLE m27 (zLE m28 (zLE m29 (zLE m30 ?_)))))))
    refine zLE m31 (zLE m32 (zLE m33 (zLE m34 (zLE m35 (zLE m36 (zLE m37 (zLE m38 ?_)))))))
    refine zLE m39 (zLE m40 (zLE m41 (zLE m42 (zLE m43 (zLE m45 (zIP w_0 (zIP w_1 ?_)))))))
    refine zLE m46 (zIN w_2 (zIN w_3 (zIN w_4 (zIN w_5 (zIN w_6 (zIN w_7 (zIP w_8 ?_)))))))
    refine zIN w_9 (zLE c2.symm ?_)
    rfl
  exact zGoo_ato hJ hD
theorem vn77a3_14 {S : Nat → zSpc}  {a : List Int} {g : rHp} : ∀ (ρ : Nat → Int) (γ : Nat → rHp), jn77 a g 3 (zAg (zNA a77_ 3) ρ) (γ 1) → zO 24 S a g q77a3_14 ρ γ → zGl (fun i vs g1 => jn77 a g i vs g1) (sn77 a g) q77a3_14 ρ γ := by
  intro ρ γ hJ h
  obtain ⟨ha, hg, hr, hf, hm, hc, hl⟩ := h
  have ha : a = [ρ 0, ρ 1, ρ 2, ρ 3, ρ 4, ρ 5, ρ 6, ρ 7, ρ 8, ρ 9, ρ 10, ρ 11, ρ 12, ρ 13, ρ 14, ρ 15, ρ 16, ρ 17, ρ 18, ρ 19, ρ 20, ρ 21, ρ 22, ρ 23] := ha
  subst ha
  subst hg
  have hJ : jn77 [ρ 0, ρ 1, ρ 2, ρ 3, ρ 4, ρ 5, ρ 6, ρ 7, ρ 8, ρ 9, ρ 10, ρ 11, ρ 12, ρ 13, ρ 14, ρ 15, ρ 16, ρ 17, ρ 18, ρ 19, ρ 20, ρ 21, ρ 22, ρ 23] (γ 0) 3 [ρ 0, ρ 1, ρ 2, ρ 3, ρ 4, ρ 5, ρ 6, ρ 7, ρ 8, ρ 9, ρ 10, ρ 11, ρ 12, ρ 13, ρ 14, ρ 15, ρ 16, ρ 17, ρ 18, ρ 19, ρ 20, ρ 21, ρ 22, ρ 23, ρ 24, ρ 25, ρ 26, ρ 27, ρ 28, ρ 29, ρ 30, ρ 31, ρ 32, ρ 33, ρ 34, ρ 35, ρ 36, ρ 37, ρ 38, ρ 39, ρ 40, ρ 41, ρ 42, ρ 43, ρ 44, ρ 45, ρ 46, ρ 47, ρ 48] (γ 1) := hJ
  have r25 : (0 : Int) ≤ ρ 25 ∧ ρ 25 ≤ 20 := zRnA hr 25
  have r50 : (7 : Int) ≤ ρ 50 ∧ ρ 50 ≤ 7 := zRnA hr 50
  have f0 : (0 : Int) ≤ ρ 35 + -ρ 25 := zAllA hf 0
  have f1 : (0 : Int) ≤ -ρ 49 + ((-8) * ρ 26 + ρ 24) := zAllA hf 1
  obtain ⟨w_0, w_1, w_2, w_3, w_4, w_5, w_6, w_7, w_8, w_9, w_10⟩ : (ρ 24 ≥ ρ 49 + 8 * ρ 26) ∧ (ρ 25 ≤ 20) ∧ (¬ (0 ≤ -ρ 50)) ∧ (¬ (0 ≤ -ρ 50 + 1)) ∧ (¬ (0 ≤ -ρ 50 + 2)) ∧ (¬ (0 ≤ -ρ 50 + 3)) ∧ (¬ (0 ≤ -ρ 50 + 4)) ∧ (¬ (0 ≤ -ρ 50 + 5)) ∧ (¬ (0 ≤ -ρ 50 + 6)) ∧ (0 ≤ -ρ 50 + 7) ∧ (ρ 25 ≤ ρ 35) := ⟨by omega, by omega, by omega, by omega, by omega, by omega, by omega, by omega, by omega, by omega, by omega⟩
  have m24 : γ 1 92 0 0 = ρ 28 := zAllA hm 24
  have m25 : γ 1 92 0 1 = ρ 29 := zAllA hm 25
  have m26 : γ 1 92 0 2 = ρ 30 := zAllA hm 26
  have m27 : γ 1 92 0 3 = ρ 31 := zAllA hm 27
  have m28 : γ 1 92 0 4 = ρ 32 := zAllA hm 28
  have m29 : γ 1 92 0 5 = ρ 33 := zAllA hm 29
  have m30 : γ 1 92 0 6 = ρ 34 := zAllA hm 30
  have m31 : γ 1 92 0 7 = ρ 35 := zAllA hm 31
  have m32 : γ 1 92 0 8 = ρ 36 := zAllA hm 32
  have m33 : γ 1 92 0 9 = ρ 37 := zAllA hm 33
  have m34 : γ 1 92 0 10 = ρ 38 := zAllA hm 34
  have m35 : γ 1 92 0 11 = ρ 39 := zAllA hm 35
  have m36 : γ 1 92 0 12 = ρ 40 := zAllA hm 36
  have m37 : γ 1 92 0 13 = ρ 41 := zAllA hm 37
  have m38 : γ 1 92 0 14 = ρ 42 := zAllA hm 38
  have m39 : γ 1 92 0 15 = ρ 43 := zAllA hm 39
  have m40 : γ 1 92 0 16 = ρ 44 := zAllA hm 40
  have m41 : γ 1 92 0 17 = ρ 45 := zAllA hm 41
  have m42 : γ 1 92 0 18 = ρ 46 := zAllA hm 42
  have m43 : γ 1 92 0 19 = ρ 47 := zAllA hm 43
  have m45 : γ 0 73 0 (ρ 26) = ρ 49 := zAllA hm 45
  have m46 : γ 0 69 0 (ρ 26) = ρ 50 := zAllA hm 46
  show jn77 [ρ 0, ρ 1, ρ 2, ρ 3, ρ 4, ρ 5, ρ 6, ρ 7, ρ 8, ρ 9, ρ 10, ρ 11, ρ 12, ρ 13, ρ 14, ρ 15, ρ 16, ρ 17, ρ 18, ρ 19, ρ 20, ρ 21, ρ 22, ρ 23] (γ 0) 2 [ρ 0, ρ 1, ρ 2, ρ 3, ρ 4, ρ 5, ρ 6, ρ 7, ρ 8, ρ 9, ρ 10, ρ 11, ρ 12, ρ 13, ρ 14, ρ 15, ρ 16, ρ 17, ρ 18, ρ 19, ρ 20, ρ 21, ρ 22, ρ 23, ρ 26 + 1, ρ 27, ρ 28, ρ 29, ρ 30, ρ 31, ρ 32, ρ 33, ρ 34, ρ 35, ρ 36, ρ 37, ρ 38, ρ 39, ρ 40, ρ 41, ρ 42, ρ 43, ρ 44, ρ 45, ρ 46, ρ 47, ρ 48] (γ 1)
  have hD : en77 (γ 0) (3, [ρ 24, ρ 25, ρ 26, ρ 27], γ 1) = .inl (2, [ρ 26 + 1, ρ 27], γ 1) := by
    unfold en77
    refine zIN (show ¬ (3 : Nat) = 0 by decide) (zIN (show ¬ (3 : Nat) = 1 by decide) (zIN (show ¬ (3 : Nat) = 2 by decide) (zIP (show (3 : Nat) = 3 by decide) (zLV (γ 1) rfl (zLV (ρ 24) rfl (zLV (ρ 25) rfl (zLV (ρ 26) rfl ?_)))))))
    refine zLV (ρ 27) rfl (zLE m24 (zLE m25 (zLE m26 (zLE m27 (zLE m28 (zLE m29 (zLE m30 ?_)))))))
    refine zLE m31 (zLE m32 (zLE m33 (zLE m34 (zLE m35 (zLE m36 (zLE m37 (zLE m38 ?_)))))))
    refine zLE m39 (zLE m40 (zLE m41 (zLE m42 (zLE m43 (zLE m45 (zIP w_0 (zIP w_1 ?_)))))))
    refine zLE m46 (zIN w_2 (zIN w_3 (zIN w_4 (zIN w_5 (zIN w_6 (zIN w_7 (zIN w_8 ?_)))))))
    refine zIP w_9 (zIP w_10 ?_)
    rfl
  exact zGoo_ato hJ hD
theorem vn77a3_15 {S : Nat → zSpc}  {a : List Int} {g : rHp} : ∀ (ρ : Nat → Int) (γ : Nat → rHp), jn77 a g 3 (zAg (zNA a77_ 3) ρ) (γ 1) → zO 24 S a g q77a3_15 ρ γ → zGl (fun i vs g1 => jn77 a g i vs g1) (sn77 a g) q77a3_15 ρ γ := by
  intro ρ γ hJ h
  obtain ⟨ha, hg, hr, hf, hm, hc, hl⟩ := h
  have ha : a = [ρ 0, ρ 1, ρ 2, ρ 3, ρ 4, ρ 5, ρ 6, ρ 7, ρ 8, ρ 9, ρ 10, ρ 11, ρ 12, ρ 13, ρ 14, ρ 15, ρ 16, ρ 17, ρ 18, ρ 19, ρ 20, ρ 21, ρ 22, ρ 23] := ha
  subst ha
  subst hg
  have hJ : jn77 [ρ 0, ρ 1, ρ 2, ρ 3, ρ 4, ρ 5, ρ 6, ρ 7, ρ 8, ρ 9, ρ 10, ρ 11, ρ 12, ρ 13, ρ 14, ρ 15, ρ 16, ρ 17, ρ 18, ρ 19, ρ 20, ρ 21, ρ 22, ρ 23] (γ 0) 3 [ρ 0, ρ 1, ρ 2, ρ 3, ρ 4, ρ 5, ρ 6, ρ 7, ρ 8, ρ 9, ρ 10, ρ 11, ρ 12, ρ 13, ρ 14, ρ 15, ρ 16, ρ 17, ρ 18, ρ 19, ρ 20, ρ 21, ρ 22, ρ 23, ρ 24, ρ 25, ρ 26, ρ 27, ρ 28, ρ 29, ρ 30, ρ 31, ρ 32, ρ 33, ρ 34, ρ 35, ρ 36, ρ 37, ρ 38, ρ 39, ρ 40, ρ 41, ρ 42, ρ 43, ρ 44, ρ 45, ρ 46, ρ 47, ρ 48] (γ 1) := hJ
  have r25 : (0 : Int) ≤ ρ 25 ∧ ρ 25 ≤ 20 := zRnA hr 25
  have r50 : (7 : Int) ≤ ρ 50 ∧ ρ 50 ≤ 7 := zRnA hr 50
  have f0 : (0 : Int) ≤ -ρ 35 + ρ 25 + (-1) := zAllA hf 0
  have f1 : (0 : Int) ≤ -ρ 49 + ((-8) * ρ 26 + ρ 24) := zAllA hf 1
  obtain ⟨w_0, w_1, w_2, w_3, w_4, w_5, w_6, w_7, w_8, w_9, w_10⟩ : (ρ 24 ≥ ρ 49 + 8 * ρ 26) ∧ (ρ 25 ≤ 20) ∧ (¬ (0 ≤ -ρ 50)) ∧ (¬ (0 ≤ -ρ 50 + 1)) ∧ (¬ (0 ≤ -ρ 50 + 2)) ∧ (¬ (0 ≤ -ρ 50 + 3)) ∧ (¬ (0 ≤ -ρ 50 + 4)) ∧ (¬ (0 ≤ -ρ 50 + 5)) ∧ (¬ (0 ≤ -ρ 50 + 6)) ∧ (0 ≤ -ρ 50 + 7) ∧ (¬ (ρ 25 ≤ ρ 35)) := ⟨by omega, by omega, by omega, by omega, by omega, by omega, by omega, by omega, by omega, by omega, by omega⟩
  have m24 : γ 1 92 0 0 = ρ 28 := zAllA hm 24
  have m25 : γ 1 92 0 1 = ρ 29 := zAllA hm 25
  have m26 : γ 1 92 0 2 = ρ 30 := zAllA hm 26
  have m27 : γ 1 92 0 3 = ρ 31 := zAllA hm 27
  have m28 : γ 1 92 0 4 = ρ 32 := zAllA hm 28
  have m29 : γ 1 92 0 5 = ρ 33 := zAllA hm 29
  have m30 : γ 1 92 0 6 = ρ 34 := zAllA hm 30
  have m31 : γ 1 92 0 7 = ρ 35 := zAllA hm 31
  have m32 : γ 1 92 0 8 = ρ 36 := zAllA hm 32
  have m33 : γ 1 92 0 9 = ρ 37 := zAllA hm 33
  have m34 : γ 1 92 0 10 = ρ 38 := zAllA hm 34
  have m35 : γ 1 92 0 11 = ρ 39 := zAllA hm 35
  have m36 : γ 1 92 0 12 = ρ 40 := zAllA hm 36
  have m37 : γ 1 92 0 13 = ρ 41 := zAllA hm 37
  have m38 : γ 1 92 0 14 = ρ 42 := zAllA hm 38
  have m39 : γ 1 92 0 15 = ρ 43 := zAllA hm 39
  have m40 : γ 1 92 0 16 = ρ 44 := zAllA hm 40
  have m41 : γ 1 92 0 17 = ρ 45 := zAllA hm 41
  have m42 : γ 1 92 0 18 = ρ 46 := zAllA hm 42
  have m43 : γ 1 92 0 19 = ρ 47 := zAllA hm 43
  have m45 : γ 0 73 0 (ρ 26) = ρ 49 := zAllA hm 45
  have m46 : γ 0 69 0 (ρ 26) = ρ 50 := zAllA hm 46
  have c2 : γ 2 = rUp (γ 1) 92 0 (ρ 50) (ρ 25) := And.right (zChA hc 0)
  show jn77 [ρ 0, ρ 1, ρ 2, ρ 3, ρ 4, ρ 5, ρ 6, ρ 7, ρ 8, ρ 9, ρ 10, ρ 11, ρ 12, ρ 13, ρ 14, ρ 15, ρ 16, ρ 17, ρ 18, ρ 19, ρ 20, ρ 21, ρ 22, ρ 23] (γ 0) 2 [ρ 0, ρ 1, ρ 2, ρ 3, ρ 4, ρ 5, ρ 6, ρ 7, ρ 8, ρ 9, ρ 10, ρ 11, ρ 12, ρ 13, ρ 14, ρ 15, ρ 16, ρ 17, ρ 18, ρ 19, ρ 20, ρ 21, ρ 22, ρ 23, ρ 26 + 1, 1, ρ 28, ρ 29, ρ 30, ρ 31, ρ 32, ρ 33, ρ 34, ρ 25, ρ 36, ρ 37, ρ 38, ρ 39, ρ 40, ρ 41, ρ 42, ρ 43, ρ 44, ρ 45, ρ 46, ρ 47, ρ 48] (γ 2)
  have hD : en77 (γ 0) (3, [ρ 24, ρ 25, ρ 26, ρ 27], γ 1) = .inl (2, [ρ 26 + 1, 1], γ 2) := by
    unfold en77
    refine zIN (show ¬ (3 : Nat) = 0 by decide) (zIN (show ¬ (3 : Nat) = 1 by decide) (zIN (show ¬ (3 : Nat) = 2 by decide) (zIP (show (3 : Nat) = 3 by decide) (zLV (γ 1) rfl (zLV (ρ 24) rfl (zLV (ρ 25) rfl (zLV (ρ 26) rfl ?_)))))))
    refine zLV (ρ 27) rfl (zLE m24 (zLE m25 (zLE m26 (zLE m27 (zLE m28 (zLE m29 (zLE m30 ?_)))))))
    refine zLE m31 (zLE m32 (zLE m33 (zLE m34 (zLE m35 (zLE m36 (zLE m37 (zLE m38 ?_)))))))
    refine zLE m39 (zLE m40 (zLE m41 (zLE m42 (zLE m43 (zLE m45 (zIP w_0 (zIP w_1 ?_)))))))
    refine zLE m46 (zIN w_2 (zIN w_3 (zIN w_4 (zIN w_5 (zIN w_6 (zIN w_7 (zIN w_8 ?_)))))))
    refine zIP w_9 (zIN w_10 (zLE c2.symm ?_))
    rfl
  exact zGoo_ato hJ hD
theorem vn77a3_16 {S : Nat → zSpc}  {a : List Int} {g : rHp} : ∀ (ρ : Nat → Int) (γ : Nat → rHp), jn77 a g 3 (zAg (zNA a77_ 3) ρ) (γ 1) → zO 24 S a g q77a3_16 ρ γ → zGl (fun i vs g1 => jn77 a g i vs g1) (sn77 a g) q77a3_16 ρ γ := by
  intro ρ γ hJ h
  obtain ⟨ha, hg, hr, hf, hm, hc, hl⟩ := h
  have ha : a = [ρ 0, ρ 1, ρ 2, ρ 3, ρ 4, ρ 5, ρ 6, ρ 7, ρ 8, ρ 9, ρ 10, ρ 11, ρ 12, ρ 13, ρ 14, ρ 15, ρ 16, ρ 17, ρ 18, ρ 19, ρ 20, ρ 21, ρ 22, ρ 23] := ha
  subst ha
  subst hg
  have hJ : jn77 [ρ 0, ρ 1, ρ 2, ρ 3, ρ 4, ρ 5, ρ 6, ρ 7, ρ 8, ρ 9, ρ 10, ρ 11, ρ 12, ρ 13, ρ 14, ρ 15, ρ 16, ρ 17, ρ 18, ρ 19, ρ 20, ρ 21, ρ 22, ρ 23] (γ 0) 3 [ρ 0, ρ 1, ρ 2, ρ 3, ρ 4, ρ 5, ρ 6, ρ 7, ρ 8, ρ 9, ρ 10, ρ 11, ρ 12, ρ 13, ρ 14, ρ 15, ρ 16, ρ 17, ρ 18, ρ 19, ρ 20, ρ 21, ρ 22, ρ 23, ρ 24, ρ 25, ρ 26, ρ 27, ρ 28, ρ 29, ρ 30, ρ 31, ρ 32, ρ 33, ρ 34, ρ 35, ρ 36, ρ 37, ρ 38, ρ 39, ρ 40, ρ 41, ρ 42, ρ 43, ρ 44, ρ 45, ρ 46, ρ 47, ρ 48] (γ 1) := hJ
  have r25 : (0 : Int) ≤ ρ 25 ∧ ρ 25 ≤ 20 := zRnA hr 25
  have r50 : (8 : Int) ≤ ρ 50 ∧ ρ 50 ≤ 8 := zRnA hr 50
  have f0 : (0 : Int) ≤ ρ 36 + -ρ 25 := zAllA hf 0
  have f1 : (0 : Int) ≤ -ρ 49 + ((-8) * ρ 26 + ρ 24) := zAllA hf 1
  obtain ⟨w_0, w_1, w_2, w_3, w_4, w_5, w_6, w_7, w_8, w_9, w_10, w_11⟩ : (ρ 24 ≥ ρ 49 + 8 * ρ 26) ∧ (ρ 25 ≤ 20) ∧ (¬ (0 ≤ -ρ 50)) ∧ (¬ (0 ≤ -ρ 50 + 1)) ∧ (¬ (0 ≤ -ρ 50 + 2)) ∧ (¬ (0 ≤ -ρ 50 + 3)) ∧ (¬ (0 ≤ -ρ 50 + 4)) ∧ (¬ (0 ≤ -ρ 50 + 5)) ∧ (¬ (0 ≤ -ρ 50 + 6)) ∧ (¬ (0 ≤ -ρ 50 + 7)) ∧ (0 ≤ -ρ 50 + 8) ∧ (ρ 25 ≤ ρ 36) := ⟨by omega, by omega, by omega, by omega, by omega, by omega, by omega, by omega, by omega, by omega, by omega, by omega⟩
  have m24 : γ 1 92 0 0 = ρ 28 := zAllA hm 24
  have m25 : γ 1 92 0 1 = ρ 29 := zAllA hm 25
  have m26 : γ 1 92 0 2 = ρ 30 := zAllA hm 26
  have m27 : γ 1 92 0 3 = ρ 31 := zAllA hm 27
  have m28 : γ 1 92 0 4 = ρ 32 := zAllA hm 28
  have m29 : γ 1 92 0 5 = ρ 33 := zAllA hm 29
  have m30 : γ 1 92 0 6 = ρ 34 := zAllA hm 30
  have m31 : γ 1 92 0 7 = ρ 35 := zAllA hm 31
  have m32 : γ 1 92 0 8 = ρ 36 := zAllA hm 32
  have m33 : γ 1 92 0 9 = ρ 37 := zAllA hm 33
  have m34 : γ 1 92 0 10 = ρ 38 := zAllA hm 34
  have m35 : γ 1 92 0 11 = ρ 39 := zAllA hm 35
  have m36 : γ 1 92 0 12 = ρ 40 := zAllA hm 36
  have m37 : γ 1 92 0 13 = ρ 41 := zAllA hm 37
  have m38 : γ 1 92 0 14 = ρ 42 := zAllA hm 38
  have m39 : γ 1 92 0 15 = ρ 43 := zAllA hm 39
  have m40 : γ 1 92 0 16 = ρ 44 := zAllA hm 40
  have m41 : γ 1 92 0 17 = ρ 45 := zAllA hm 41
  have m42 : γ 1 92 0 18 = ρ 46 := zAllA hm 42
  have m43 : γ 1 92 0 19 = ρ 47 := zAllA hm 43
  have m45 : γ 0 73 0 (ρ 26) = ρ 49 := zAllA hm 45
  have m46 : γ 0 69 0 (ρ 26) = ρ 50 := zAllA hm 46
  show jn77 [ρ 0, ρ 1, ρ 2, ρ 3, ρ 4, ρ 5, ρ 6, ρ 7, ρ 8, ρ 9, ρ 10, ρ 11, ρ 12, ρ 13, ρ 14, ρ 15, ρ 16, ρ 17, ρ 18, ρ 19, ρ 20, ρ 21, ρ 22, ρ 23] (γ 0) 2 [ρ 0, ρ 1, ρ 2, ρ 3, ρ 4, ρ 5, ρ 6, ρ 7, ρ 8, ρ 9, ρ 10, ρ 11, ρ 12, ρ 13, ρ 14, ρ 15, ρ 16, ρ 17, ρ 18, ρ 19, ρ 20, ρ 21, ρ 22, ρ 23, ρ 26 + 1, ρ 27, ρ 28, ρ 29, ρ 30, ρ 31, ρ 32, ρ 33, ρ 34, ρ 35, ρ 36, ρ 37, ρ 38, ρ 39, ρ 40, ρ 41, ρ 42, ρ 43, ρ 44, ρ 45, ρ 46, ρ 47, ρ 48] (γ 1)
  have hD : en77 (γ 0) (3, [ρ 24, ρ 25, ρ 26, ρ 27], γ 1) = .inl (2, [ρ 26 + 1, ρ 27], γ 1) := by
    unfold en77
    refine zIN (show ¬ (3 : Nat) = 0 by decide) (zIN (show ¬ (3 : Nat) = 1 by decide) (zIN (show ¬ (3 : Nat) = 2 by decide) (zIP (show (3 : Nat) = 3 by decide) (zLV (γ 1) rfl (zLV (ρ 24) rfl (zLV (ρ 25) rfl (zLV (ρ 26) rfl ?_)))))))
    refine zLV (ρ 27) rfl (zLE m24 (zLE m25 (zLE m26 (zLE m27 (zLE m28 (zLE m29 (zLE m30 ?_)))))))
    refine zLE m31 (zLE m32 (zLE m33 (zLE m34 (zLE m35 (zLE m36 (zLE m37 (zLE m38 ?_)))))))
    refine zLE m39 (zLE m40 (zLE m41 (zLE m42 (zLE m43 (zLE m45 (zIP w_0 (zIP w_1 ?_)))))))
    refine zLE m46 (zIN w_2 (zIN w_3 (zIN w_4 (zIN w_5 (zIN w_6 (zIN w_7 (zIN w_8 ?_)))))))
    refine zIN w_9 (zIP w_10 (zIP w_11 ?_))
    rfl
  exact zGoo_ato hJ hD
theorem vn77a3_17 {S : Nat → zSpc}  {a : List Int} {g : rHp} : ∀ (ρ : Nat → Int) (γ : Nat → rHp), jn77 a g 3 (zAg (zNA a77_ 3) ρ) (γ 1) → zO 24 S a g q77a3_17 ρ γ → zGl (fun i vs g1 => jn77 a g i vs g1) (sn77 a g) q77a3_17 ρ γ := by
  intro ρ γ hJ h
  obtain ⟨ha, hg, hr, hf, hm, hc, hl⟩ := h
  have ha : a = [ρ 0, ρ 1, ρ 2, ρ 3, ρ 4, ρ 5, ρ 6, ρ 7, ρ 8, ρ 9, ρ 10, ρ 11, ρ 12, ρ 13, ρ 14, ρ 15, ρ 16, ρ 17, ρ 18, ρ 19, ρ 20, ρ 21, ρ 22, ρ 23] := ha
  subst ha
  subst hg
  have hJ : jn77 [ρ 0, ρ 1, ρ 2, ρ 3, ρ 4, ρ 5, ρ 6, ρ 7, ρ 8, ρ 9, ρ 10, ρ 11, ρ 12, ρ 13, ρ 14, ρ 15, ρ 16, ρ 17, ρ 18, ρ 19, ρ 20, ρ 21, ρ 22, ρ 23] (γ 0) 3 [ρ 0, ρ 1, ρ 2, ρ 3, ρ 4, ρ 5, ρ 6, ρ 7, ρ 8, ρ 9, ρ 10, ρ 11, ρ 12, ρ 13, ρ 14, ρ 15, ρ 16, ρ 17, ρ 18, ρ 19, ρ 20, ρ 21, ρ 22, ρ 23, ρ 24, ρ 25, ρ 26, ρ 27, ρ 28, ρ 29, ρ 30, ρ 31, ρ 32, ρ 33, ρ 34, ρ 35, ρ 36, ρ 37, ρ 38, ρ 39, ρ 40, ρ 41, ρ 42, ρ 43, ρ 44, ρ 45, ρ 46, ρ 47, ρ 48] (γ 1) := hJ
  have r25 : (0 : Int) ≤ ρ 25 ∧ ρ 25 ≤ 20 := zRnA hr 25
  have r50 : (8 : Int) ≤ ρ 50 ∧ ρ 50 ≤ 8 := zRnA hr 50
  have f0 : (0 : Int) ≤ -ρ 36 + ρ 25 + (-1) := zAllA hf 0
  have f1 : (0 : Int) ≤ -ρ 49 + ((-8) * ρ 26 + ρ 24) := zAllA hf 1
  obtain ⟨w_0, w_1, w_2, w_3, w_4, w_5, w_6, w_7, w_8, w_9, w_10, w_11⟩ : (ρ 24 ≥ ρ 49 + 8 * ρ 26) ∧ (ρ 25 ≤ 20) ∧ (¬ (0 ≤ -ρ 50)) ∧ (¬ (0 ≤ -ρ 50 + 1)) ∧ (¬ (0 ≤ -ρ 50 + 2)) ∧ (¬ (0 ≤ -ρ 50 + 3)) ∧ (¬ (0 ≤ -ρ 50 + 4)) ∧ (¬ (0 ≤ -ρ 50 + 5)) ∧ (¬ (0 ≤ -ρ 50 + 6)) ∧ (¬ (0 ≤ -ρ 50 + 7)) ∧ (0 ≤ -ρ 50 + 8) ∧ (¬ (ρ 25 ≤ ρ 36)) := ⟨by omega, by omega, by omega, by omega, by omega, by omega, by omega, by omega, by omega, by omega, by omega, by omega⟩
  have m24 : γ 1 92 0 0 = ρ 28 := zAllA hm 24
  have m25 : γ 1 92 0 1 = ρ 29 := zAllA hm 25
  have m26 : γ 1 92 0 2 = ρ 30 := zAllA hm 26
  have m27 : γ 1 92 0 3 = ρ 31 := zAllA hm 27
  have m28 : γ 1 92 0 4 = ρ 32 := zAllA hm 28
  have m29 : γ 1 92 0 5 = ρ 33 := zAllA hm 29
  have m30 : γ 1 92 0 6 = ρ 34 := zAllA hm 30
  have m31 : γ 1 92 0 7 = ρ 35 := zAllA hm 31
  have m32 : γ 1 92 0 8 = ρ 36 := zAllA hm 32
  have m33 : γ 1 92 0 9 = ρ 37 := zAllA hm 33
  have m34 : γ 1 92 0 10 = ρ 38 := zAllA hm 34
  have m35 : γ 1 92 0 11 = ρ 39 := zAllA hm 35
  have m36 : γ 1 92 0 12 = ρ 40 := zAllA hm 36
  have m37 : γ 1 92 0 13 = ρ 41 := zAllA hm 37
  have m38 : γ 1 92 0 14 = ρ 42 := zAllA hm 38
  have m39 : γ 1 92 0 15 = ρ 43 := zAllA hm 39
  have m40 : γ 1 92 0 16 = ρ 44 := zAllA hm 40
  have m41 : γ 1 92 0 17 = ρ 45 := zAllA hm 41
  have m42 : γ 1 92 0 18 = ρ 46 := zAllA hm 42
  have m43 : γ 1 92 0 19 = ρ 47 := zAllA hm 43
  have m45 : γ 0 73 0 (ρ 26) = ρ 49 := zAllA hm 45
  have m46 : γ 0 69 0 (ρ 26) = ρ 50 := zAllA hm 46
  have c2 : γ 2 = rUp (γ 1) 92 0 (ρ 50) (ρ 25) := And.right (zChA hc 0)
  show jn77 [ρ 0, ρ 1, ρ 2, ρ 3, ρ 4, ρ 5, ρ 6, ρ 7, ρ 8, ρ 9, ρ 10, ρ 11, ρ 12, ρ 13, ρ 14, ρ 15, ρ 16, ρ 17, ρ 18, ρ 19, ρ 20, ρ 21, ρ 22, ρ 23] (γ 0) 2 [ρ 0, ρ 1, ρ 2, ρ 3, ρ 4, ρ 5, ρ 6, ρ 7, ρ 8, ρ 9, ρ 10, ρ 11, ρ 12, ρ 13, ρ 14, ρ 15, ρ 16, ρ 17, ρ 18, ρ 19, ρ 20, ρ 21, ρ 22, ρ 23, ρ 26 + 1, 1, ρ 28, ρ 29, ρ 30, ρ 31, ρ 32, ρ 33, ρ 34, ρ 35, ρ 25, ρ 37, ρ 38, ρ 39, ρ 40, ρ 41, ρ 42, ρ 43, ρ 44, ρ 45, ρ 46, ρ 47, ρ 48] (γ 2)
  have hD : en77 (γ 0) (3, [ρ 24, ρ 25, ρ 26, ρ 27], γ 1) = .inl (2, [ρ 26 + 1, 1], γ 2) := by
    unfold en77
    refine zIN (show ¬ (3 : Nat) = 0 by decide) (zIN (show ¬ (3 : Nat) = 1 by decide) (zIN (show ¬ (3 : Nat) = 2 by decide) (zIP (show (3 : Nat) = 3 by decide) (zLV (γ 1) rfl (zLV (ρ 24) rfl (zLV (ρ 25) rfl (zLV (ρ 26) rfl ?_)))))))
    refine zLV (ρ 27) rfl (zLE m24 (zLE m25 (zLE m26 (zLE m27 (zLE m28 (zLE m29 (zLE m30 ?_)))))))
    refine zLE m31 (zLE m32 (zLE m33 (zLE m34 (zLE m35 (zLE m36 (zLE m37 (zLE m38 ?_)))))))
    refine zLE m39 (zLE m40 (zLE m41 (zLE m42 (zLE m43 (zLE m45 (zIP w_0 (zIP w_1 ?_)))))))
    refine zLE m46 (zIN w_2 (zIN w_3 (zIN w_4 (zIN w_5 (zIN w_6 (zIN w_7 (zIN w_8 ?_)))))))
    refine zIN w_9 (zIP w_10 (zIN w_11 (zLE c2.symm ?_)))
    rfl
  exact zGoo_ato hJ hD
theorem vn77a3_18 {S : Nat → zSpc}  {a : List Int} {g : rHp} : ∀ (ρ : Nat → Int) (γ : Nat → rHp), jn77 a g 3 (zAg (zNA a77_ 3) ρ) (γ 1) → zO 24 S a g q77a3_18 ρ γ → zGl (fun i vs g1 => jn77 a g i vs g1) (sn77 a g) q77a3_18 ρ γ := by
  intro ρ γ hJ h
  obtain ⟨ha, hg, hr, hf, hm, hc, hl⟩ := h
  have ha : a = [ρ 0, ρ 1, ρ 2, ρ 3, ρ 4, ρ 5, ρ 6, ρ 7, ρ 8, ρ 9, ρ 10, ρ 11, ρ 12, ρ 13, ρ 14, ρ 15, ρ 16, ρ 17, ρ 18, ρ 19, ρ 20, ρ 21, ρ 22, ρ 23] := ha
  subst ha
  subst hg
  have hJ : jn77 [ρ 0, ρ 1, ρ 2, ρ 3, ρ 4, ρ 5, ρ 6, ρ 7, ρ 8, ρ 9, ρ 10, ρ 11, ρ 12, ρ 13, ρ 14, ρ 15, ρ 16, ρ 17, ρ 18, ρ 19, ρ 20, ρ 21, ρ 22, ρ 23] (γ 0) 3 [ρ 0, ρ 1, ρ 2, ρ 3, ρ 4, ρ 5, ρ 6, ρ 7, ρ 8, ρ 9, ρ 10, ρ 11, ρ 12, ρ 13, ρ 14, ρ 15, ρ 16, ρ 17, ρ 18, ρ 19, ρ 20, ρ 21, ρ 22, ρ 23, ρ 24, ρ 25, ρ 26, ρ 27, ρ 28, ρ 29, ρ 30, ρ 31, ρ 32, ρ 33, ρ 34, ρ 35, ρ 36, ρ 37, ρ 38, ρ 39, ρ 40, ρ 41, ρ 42, ρ 43, ρ 44, ρ 45, ρ 46, ρ 47, ρ 48] (γ 1) := hJ
  have r25 : (0 : Int) ≤ ρ 25 ∧ ρ 25 ≤ 20 := zRnA hr 25
  have r50 : (9 : Int) ≤ ρ 50 ∧ ρ 50 ≤ 9 := zRnA hr 50
  have f0 : (0 : Int) ≤ ρ 37 + -ρ 25 := zAllA hf 0
  have f1 : (0 : Int) ≤ -ρ 49 + ((-8) * ρ 26 + ρ 24) := zAllA hf 1
  obtain ⟨w_0, w_1, w_2, w_3, w_4, w_5, w_6, w_7, w_8, w_9, w_10, w_11, w_12⟩ : (ρ 24 ≥ ρ 49 + 8 * ρ 26) ∧ (ρ 25 ≤ 20) ∧ (¬ (0 ≤ -ρ 50)) ∧ (¬ (0 ≤ -ρ 50 + 1)) ∧ (¬ (0 ≤ -ρ 50 + 2)) ∧ (¬ (0 ≤ -ρ 50 + 3)) ∧ (¬ (0 ≤ -ρ 50 + 4)) ∧ (¬ (0 ≤ -ρ 50 + 5)) ∧ (¬ (0 ≤ -ρ 50 + 6)) ∧ (¬ (0 ≤ -ρ 50 + 7)) ∧ (¬ (0 ≤ -ρ 50 + 8)) ∧ (0 ≤ -ρ 50 + 9) ∧ (ρ 25 ≤ ρ 37) := ⟨by omega, by omega, by omega, by omega, by omega, by omega, by omega, by omega, by omega, by omega, by omega, by omega, by omega⟩
  have m24 : γ 1 92 0 0 = ρ 28 := zAllA hm 24
  have m25 : γ 1 92 0 1 = ρ 29 := zAllA hm 25
  have m26 : γ 1 92 0 2 = ρ 30 := zAllA hm 26
  have m27 : γ 1 92 0 3 = ρ 31 := zAllA hm 27
  have m28 : γ 1 92 0 4 = ρ 32 := zAllA hm 28
  have m29 : γ 1 92 0 5 = ρ 33 := zAllA hm 29
  have m30 : γ 1 92 0 6 = ρ 34 := zAllA hm 30
  have m31 : γ 1 92 0 7 = ρ 35 := zAllA hm 31
  have m32 : γ 1 92 0 8 = ρ 36 := zAllA hm 32
  have m33 : γ 1 92 0 9 = ρ 37 := zAllA hm 33
  have m34 : γ 1 92 0 10 = ρ 38 := zAllA hm 34
  have m35 : γ 1 92 0 11 = ρ 39 := zAllA hm 35
  have m36 : γ 1 92 0 12 = ρ 40 := zAllA hm 36
  have m37 : γ 1 92 0 13 = ρ 41 := zAllA hm 37
  have m38 : γ 1 92 0 14 = ρ 42 := zAllA hm 38
  have m39 : γ 1 92 0 15 = ρ 43 := zAllA hm 39
  have m40 : γ 1 92 0 16 = ρ 44 := zAllA hm 40
  have m41 : γ 1 92 0 17 = ρ 45 := zAllA hm 41
  have m42 : γ 1 92 0 18 = ρ 46 := zAllA hm 42
  have m43 : γ 1 92 0 19 = ρ 47 := zAllA hm 43
  have m45 : γ 0 73 0 (ρ 26) = ρ 49 := zAllA hm 45
  have m46 : γ 0 69 0 (ρ 26) = ρ 50 := zAllA hm 46
  show jn77 [ρ 0, ρ 1, ρ 2, ρ 3, ρ 4, ρ 5, ρ 6, ρ 7, ρ 8, ρ 9, ρ 10, ρ 11, ρ 12, ρ 13, ρ 14, ρ 15, ρ 16, ρ 17, ρ 18, ρ 19, ρ 20, ρ 21, ρ 22, ρ 23] (γ 0) 2 [ρ 0, ρ 1, ρ 2, ρ 3, ρ 4, ρ 5, ρ 6, ρ 7, ρ 8, ρ 9, ρ 10, ρ 11, ρ 12, ρ 13, ρ 14, ρ 15, ρ 16, ρ 17, ρ 18, ρ 19, ρ 20, ρ 21, ρ 22, ρ 23, ρ 26 + 1, ρ 27, ρ 28, ρ 29, ρ 30, ρ 31, ρ 32, ρ 33, ρ 34, ρ 35, ρ 36, ρ 37, ρ 38, ρ 39, ρ 40, ρ 41, ρ 42, ρ 43, ρ 44, ρ 45, ρ 46, ρ 47, ρ 48] (γ 1)
  have hD : en77 (γ 0) (3, [ρ 24, ρ 25, ρ 26, ρ 27], γ 1) = .inl (2, [ρ 26 + 1, ρ 27], γ 1) := by
    unfold en77
    refine zIN (show ¬ (3 : Nat) = 0 by decide) (zIN (show ¬ (3 : Nat) = 1 by decide) (zIN (show ¬ (3 : Nat) = 2 by decide) (zIP (show (3 : Nat) = 3 by decide) (zLV (γ 1) rfl (zLV (ρ 24) rfl (zLV (ρ 25) rfl (zLV (ρ 26) rfl ?_)))))))
    refine zLV (ρ 27) rfl (zLE m24 (zLE m25 (zLE m26 (zLE m27 (zLE m28 (zLE m29 (zLE m30 ?_)))))))
    refine zLE m31 (zLE m32 (zLE m33 (zLE m34 (zLE m35 (zLE m36 (zLE m37 (zLE m38 ?_)))))))
    refine zLE m39 (zLE m40 (zLE m41 (zLE m42 (zLE m43 (zLE m45 (zIP w_0 (zIP w_1 ?_)))))))
    refine zLE m46 (zIN w_2 (zIN w_3 (zIN w_4 (zIN w_5 (zIN w_6 (zIN w_7 (zIN w_8 ?_)))))))
    refine zIN w_9 (zIN w_10 (zIP w_11 (zIP w_12 ?_)))
    rfl
  exact zGoo_ato hJ hD
theorem vn77a3_19 {S : Nat → zSpc}  {a : List Int} {g : rHp} : ∀ (ρ : Nat → Int) (γ : Nat → rHp), jn77 a g 3 (zAg (zNA a77_ 3) ρ) (γ 1) → zO 24 S a g q77a3_19 ρ γ → zGl (fun i vs g1 => jn77 a g i vs g1) (sn77 a g) q77a3_19 ρ γ := by
  intro ρ γ hJ h
  obtain ⟨ha, hg, hr, hf, hm, hc, hl⟩ := h
  have ha : a = [ρ 0, ρ 1, ρ 2, ρ 3, ρ 4, ρ 5, ρ 6, ρ 7, ρ 8, ρ 9, ρ 10, ρ 11, ρ 12, ρ 13, ρ 14, ρ 15, ρ 16, ρ 17, ρ 18, ρ 19, ρ 20, ρ 21, ρ 22, ρ 23] := ha
  subst ha
  subst hg
  have hJ : jn77 [ρ 0, ρ 1, ρ 2, ρ 3, ρ 4, ρ 5, ρ 6, ρ 7, ρ 8, ρ 9, ρ 10, ρ 11, ρ 12, ρ 13, ρ 14, ρ 15, ρ 16, ρ 17, ρ 18, ρ 19, ρ 20, ρ 21, ρ 22, ρ 23] (γ 0) 3 [ρ 0, ρ 1, ρ 2, ρ 3, ρ 4, ρ 5, ρ 6, ρ 7, ρ 8, ρ 9, ρ 10, ρ 11, ρ 12, ρ 13, ρ 14, ρ 15, ρ 16, ρ 17, ρ 18, ρ 19, ρ 20, ρ 21, ρ 22, ρ 23, ρ 24, ρ 25, ρ 26, ρ 27, ρ 28, ρ 29, ρ 30, ρ 31, ρ 32, ρ 33, ρ 34, ρ 35, ρ 36, ρ 37, ρ 38, ρ 39, ρ 40, ρ 41, ρ 42, ρ 43, ρ 44, ρ 45, ρ 46, ρ 47, ρ 48] (γ 1) := hJ
  have r25 : (0 : Int) ≤ ρ 25 ∧ ρ 25 ≤ 20 := zRnA hr 25
  have r50 : (9 : Int) ≤ ρ 50 ∧ ρ 50 ≤ 9 := zRnA hr 50
  have f0 : (0 : Int) ≤ -ρ 37 + ρ 25 + (-1) := zAllA hf 0
  have f1 : (0 : Int) ≤ -ρ 49 + ((-8) * ρ 26 + ρ 24) := zAllA hf 1
  obtain ⟨w_0, w_1, w_2, w_3, w_4, w_5, w_6, w_7, w_8, w_9, w_10, w_11, w_12⟩ : (ρ 24 ≥ ρ 49 + 8 * ρ 26) ∧ (ρ 25 ≤ 20) ∧ (¬ (0 ≤ -ρ 50)) ∧ (¬ (0 ≤ -ρ 50 + 1)) ∧ (¬ (0 ≤ -ρ 50 + 2)) ∧ (¬ (0 ≤ -ρ 50 + 3)) ∧ (¬ (0 ≤ -ρ 50 + 4)) ∧ (¬ (0 ≤ -ρ 50 + 5)) ∧ (¬ (0 ≤ -ρ 50 + 6)) ∧ (¬ (0 ≤ -ρ 50 + 7)) ∧ (¬ (0 ≤ -ρ 50 + 8)) ∧ (0 ≤ -ρ 50 + 9) ∧ (¬ (ρ 25 ≤ ρ 37)) := ⟨by omega, by omega, by omega, by omega, by omega, by omega, by omega, by omega, by omega, by omega, by omega, by omega, by omega⟩
  have m24 : γ 1 92 0 0 = ρ 28 := zAllA hm 24
  have m25 : γ 1 92 0 1 = ρ 29 := zAllA hm 25
  have m26 : γ 1 92 0 2 = ρ 30 := zAllA hm 26
  have m27 : γ 1 92 0 3 = ρ 31 := zAllA hm 27
  have m28 : γ 1 92 0 4 = ρ 32 := zAllA hm 28
  have m29 : γ 1 92 0 5 = ρ 33 := zAllA hm 29
  have m30 : γ 1 92 0 6 = ρ 34 := zAllA hm 30
  have m31 : γ 1 92 0 7 = ρ 35 := zAllA hm 31
  have m32 : γ 1 92 0 8 = ρ 36 := zAllA hm 32
  have m33 : γ 1 92 0 9 = ρ 37 := zAllA hm 33
  have m34 : γ 1 92 0 10 = ρ 38 := zAllA hm 34
  have m35 : γ 1 92 0 11 = ρ 39 := zAllA hm 35
  have m36 : γ 1 92 0 12 = ρ 40 := zAllA hm 36
  have m37 : γ 1 92 0 13 = ρ 41 := zAllA hm 37
  have m38 : γ 1 92 0 14 = ρ 42 := zAllA hm 38
  have m39 : γ 1 92 0 15 = ρ 43 := zAllA hm 39
  have m40 : γ 1 92 0 16 = ρ 44 := zAllA hm 40
  have m41 : γ 1 92 0 17 = ρ 45 := zAllA hm 41
  have m42 : γ 1 92 0 18 = ρ 46 := zAllA hm 42
  have m43 : γ 1 92 0 19 = ρ 47 := zAllA hm 43
  have m45 : γ 0 73 0 (ρ 26) = ρ 49 := zAllA hm 45
  have m46 : γ 0 69 0 (ρ 26) = ρ 50 := zAllA hm 46
  have c2 : γ 2 = rUp (γ 1) 92 0 (ρ 50) (ρ 25) := And.right (zChA hc 0)
  show jn77 [ρ 0, ρ 1, ρ 2, ρ 3, ρ 4, ρ 5, ρ 6, ρ 7, ρ 8, ρ 9, ρ 10, ρ 11, ρ 12, ρ 13, ρ 14, ρ 15, ρ 16, ρ 17, ρ 18, ρ 19, ρ 20, ρ 21, ρ 22, ρ 23] (γ 0) 2 [ρ 0, ρ 1, ρ 2, ρ 3, ρ 4, ρ 5, ρ 6, ρ 7, ρ 8, ρ 9, ρ 10, ρ 11, ρ 12, ρ 13, ρ 14, ρ 15, ρ 16, ρ 17, ρ 18, ρ 19, ρ 20, ρ 21, ρ 22, ρ 23, ρ 26 + 1, 1, ρ 28, ρ 29, ρ 30, ρ 31, ρ 32, ρ 33, ρ 34, ρ 35, ρ 36, ρ 25, ρ 38, ρ 39, ρ 40, ρ 41, ρ 42, ρ 43, ρ 44, ρ 45, ρ 46, ρ 47, ρ 48] (γ 2)
  have hD : en77 (γ 0) (3, [ρ 24, ρ 25, ρ 26, ρ 27], γ 1) = .inl (2, [ρ 26 + 1, 1], γ 2) := by
    unfold en77
    refine zIN (show ¬ (3 : Nat) = 0 by decide) (zIN (show ¬ (3 : Nat) = 1 by decide) (zIN (show ¬ (3 : Nat) = 2 by decide) (zIP (show (3 : Nat) = 3 by decide) (zLV (γ 1) rfl (zLV (ρ 24) rfl (zLV (ρ 25) rfl (zLV (ρ 26) rfl ?_)))))))
    refine zLV (ρ 27) rfl (zLE m24 (zLE m25 (zLE m26 (zLE m27 (zLE m28 (zLE m29 (zLE m30 ?_)))))))
    refine zLE m31 (zLE m32 (zLE m33 (zLE m34 (zLE m35 (zLE m36 (zLE m37 (zLE m38 ?_)))))))
    refine zLE m39 (zLE m40 (zLE m41 (zLE m42 (zLE m43 (zLE m45 (zIP w_0 (zIP w_1 ?_)))))))
    refine zLE m46 (zIN w_2 (zIN w_3 (zIN w_4 (zIN w_5 (zIN w_6 (zIN w_7 (zIN w_8 ?_)))))))
    refine zIN w_9 (zIN w_10 (zIP w_11 (zIN w_12 (zLE c2.symm ?_))))
    rfl
  exact zGoo_ato hJ hD
theorem vn77a3_20 {S : Nat → zSpc}  {a : List Int} {g : rHp} : ∀ (ρ : Nat → Int) (γ : Nat → rHp), jn77 a g 3 (zAg (zNA a77_ 3) ρ) (γ 1) → zO 24 S a g q77a3_20 ρ γ → zGl (fun i vs g1 => jn77 a g i vs g1) (sn77 a g) q77a3_20 ρ γ := by
  intro ρ γ hJ h
  obtain ⟨ha, hg, hr, hf, hm, hc, hl⟩ := h
  have ha : a = [ρ 0, ρ 1, ρ 2, ρ 3, ρ 4, ρ 5, ρ 6, ρ 7, ρ 8, ρ 9, ρ 10, ρ 11, ρ 12, ρ 13, ρ 14, ρ 15, ρ 16, ρ 17, ρ 18, ρ 19, ρ 20, ρ 21, ρ 22, ρ 23] := ha
  subst ha
  subst hg
  have hJ : jn77 [ρ 0, ρ 1, ρ 2, ρ 3, ρ 4, ρ 5, ρ 6, ρ 7, ρ 8, ρ 9, ρ 10, ρ 11, ρ 12, ρ 13, ρ 14, ρ 15, ρ 16, ρ 17, ρ 18, ρ 19, ρ 20, ρ 21, ρ 22, ρ 23] (γ 0) 3 [ρ 0, ρ 1, ρ 2, ρ 3, ρ 4, ρ 5, ρ 6, ρ 7, ρ 8, ρ 9, ρ 10, ρ 11, ρ 12, ρ 13, ρ 14, ρ 15, ρ 16, ρ 17, ρ 18, ρ 19, ρ 20, ρ 21, ρ 22, ρ 23, ρ 24, ρ 25, ρ 26, ρ 27, ρ 28, ρ 29, ρ 30, ρ 31, ρ 32, ρ 33, ρ 34, ρ 35, ρ 36, ρ 37, ρ 38, ρ 39, ρ 40, ρ 41, ρ 42, ρ 43, ρ 44, ρ 45, ρ 46, ρ 47, ρ 48] (γ 1) := hJ
  have r25 : (0 : Int) ≤ ρ 25 ∧ ρ 25 ≤ 20 := zRnA hr 25
  have r50 : (10 : Int) ≤ ρ 50 ∧ ρ 50 ≤ 10 := zRnA hr 50
  have f0 : (0 : Int) ≤ ρ 38 + -ρ 25 := zAllA hf 0
  have f1 : (0 : Int) ≤ -ρ 49 + ((-8) * ρ 26 + ρ 24) := zAllA hf 1
  obtain ⟨w_0, w_1, w_2, w_3, w_4, w_5, w_6, w_7, w_8, w_9, w_10, w_11, w_12, w_13⟩ : (ρ 24 ≥ ρ 49 + 8 * ρ 26) ∧ (ρ 25 ≤ 20) ∧ (¬ (0 ≤ -ρ 50)) ∧ (¬ (0 ≤ -ρ 50 + 1)) ∧ (¬ (0 ≤ -ρ 50 + 2)) ∧ (¬ (0 ≤ -ρ 50 + 3)) ∧ (¬ (0 ≤ -ρ 50 + 4)) ∧ (¬ (0 ≤ -ρ 50 + 5)) ∧ (¬ (0 ≤ -ρ 50 + 6)) ∧ (¬ (0 ≤ -ρ 50 + 7)) ∧ (¬ (0 ≤ -ρ 50 + 8)) ∧ (¬ (0 ≤ -ρ 50 + 9)) ∧ (0 ≤ -ρ 50 + 10) ∧ (ρ 25 ≤ ρ 38) := ⟨by omega, by omega, by omega, by omega, by omega, by omega, by omega, by omega, by omega, by omega, by omega, by omega, by omega, by omega⟩
  have m24 : γ 1 92 0 0 = ρ 28 := zAllA hm 24
  have m25 : γ 1 92 0 1 = ρ 29 := zAllA hm 25
  have m26 : γ 1 92 0 2 = ρ 30 := zAllA hm 26
  have m27 : γ 1 92 0 3 = ρ 31 := zAllA hm 27
  have m28 : γ 1 92 0 4 = ρ 32 := zAllA hm 28
  have m29 : γ 1 92 0 5 = ρ 33 := zAllA hm 29
  have m30 : γ 1 92 0 6 = ρ 34 := zAllA hm 30
  have m31 : γ 1 92 0 7 = ρ 35 := zAllA hm 31
  have m32 : γ 1 92 0 8 = ρ 36 := zAllA hm 32
  have m33 : γ 1 92 0 9 = ρ 37 := zAllA hm 33
  have m34 : γ 1 92 0 10 = ρ 38 := zAllA hm 34
  have m35 : γ 1 92 0 11 = ρ 39 := zAllA hm 35
  have m36 : γ 1 92 0 12 = ρ 40 := zAllA hm 36
  have m37 : γ 1 92 0 13 = ρ 41 := zAllA hm 37
  have m38 : γ 1 92 0 14 = ρ 42 := zAllA hm 38
  have m39 : γ 1 92 0 15 = ρ 43 := zAllA hm 39
  have m40 : γ 1 92 0 16 = ρ 44 := zAllA hm 40
  have m41 : γ 1 92 0 17 = ρ 45 := zAllA hm 41
  have m42 : γ 1 92 0 18 = ρ 46 := zAllA hm 42
  have m43 : γ 1 92 0 19 = ρ 47 := zAllA hm 43
  have m45 : γ 0 73 0 (ρ 26) = ρ 49 := zAllA hm 45
  have m46 : γ 0 69 0 (ρ 26) = ρ 50 := zAllA hm 46
  show jn77 [ρ 0, ρ 1, ρ 2, ρ 3, ρ 4, ρ 5, ρ 6, ρ 7, ρ 8, ρ 9, ρ 10, ρ 11, ρ 12, ρ 13, ρ 14, ρ 15, ρ 16, ρ 17, ρ 18, ρ 19, ρ 20, ρ 21, ρ 22, ρ 23] (γ 0) 2 [ρ 0, ρ 1, ρ 2, ρ 3, ρ 4, ρ 5, ρ 6, ρ 7, ρ 8, ρ 9, ρ 10, ρ 11, ρ 12, ρ 13, ρ 14, ρ 15, ρ 16, ρ 17, ρ 18, ρ 19, ρ 20, ρ 21, ρ 22, ρ 23, ρ 26 + 1, ρ 27, ρ 28, ρ 29, ρ 30, ρ 31, ρ 32, ρ 33, ρ 34, ρ 35, ρ 36, ρ 37, ρ 38, ρ 39, ρ 40, ρ 41, ρ 42, ρ 43, ρ 44, ρ 45, ρ 46, ρ 47, ρ 48] (γ 1)
  have hD : en77 (γ 0) (3, [ρ 24, ρ 25, ρ 26, ρ 27], γ 1) = .inl (2, [ρ 26 + 1, ρ 27], γ 1) := by
    unfold en77
    refine zIN (show ¬ (3 : Nat) = 0 by decide) (zIN (show ¬ (3 : Nat) = 1 by decide) (zIN (show ¬ (3 : Nat) = 2 by decide) (zIP (show (3 : Nat) = 3 by decide) (zLV (γ 1) rfl (zLV (ρ 24) rfl (zLV (ρ 25) rfl (zLV (ρ 26) rfl ?_)))))))
    refine zLV (ρ 27) rfl (zLE m24 (zLE m25 (zLE m26 (zLE m27 (zLE m28 (zLE m29 (zLE m30 ?_)))))))
    refine zLE m31 (zLE m32 (zLE m33 (zLE m34 (zLE m35 (zLE m36 (zLE m37 (zLE m38 ?_)))))))
    refine zLE m39 (zLE m40 (zLE m41 (zLE m42 (zLE m43 (zLE m45 (zIP w_0 (zIP w_1 ?_)))))))
    refine zLE m46 (zIN w_2 (zIN w_3 (zIN w_4 (zIN w_5 (zIN w_6 (zIN w_7 (zIN w_8 ?_)))))))
    refine zIN w_9 (zIN w_10 (zIN w_11 (zIP w_12 (zIP w_13 ?_))))
    rfl
  exact zGoo_ato hJ hD
theorem vn77a3_21 {S : Nat → zSpc}  {a : List Int} {g : rHp} : ∀ (ρ : Nat → Int) (γ : Nat → rHp), jn77 a g 3 (zAg (zNA a77_ 3) ρ) (γ 1) → zO 24 S a g q77a3_21 ρ γ → zGl (fun i vs g1 => jn77 a g i vs g1) (sn77 a g) q77a3_21 ρ γ := by
  intro ρ γ hJ h
  obtain ⟨ha, hg, hr, hf, hm, hc, hl⟩ := h
  have ha : a = [ρ 0, ρ 1, ρ 2, ρ 3, ρ 4, ρ 5, ρ 6, ρ 7, ρ 8, ρ 9, ρ 10, ρ 11, ρ 12, ρ 13, ρ 14, ρ 15, ρ 16, ρ 17, ρ 18, ρ 19, ρ 20, ρ 21, ρ 22, ρ 23] := ha
  subst ha
  subst hg
  have hJ : jn77 [ρ 0, ρ 1, ρ 2, ρ 3, ρ 4, ρ 5, ρ 6, ρ 7, ρ 8, ρ 9, ρ 10, ρ 11, ρ 12, ρ 13, ρ 14, ρ 15, ρ 16, ρ 17, ρ 18, ρ 19, ρ 20, ρ 21, ρ 22, ρ 23] (γ 0) 3 [ρ 0, ρ 1, ρ 2, ρ 3, ρ 4, ρ 5, ρ 6, ρ 7, ρ 8, ρ 9, ρ 10, ρ 11, ρ 12, ρ 13, ρ 14, ρ 15, ρ 16, ρ 17, ρ 18, ρ 19, ρ 20, ρ 21, ρ 22, ρ 23, ρ 24, ρ 25, ρ 26, ρ 27, ρ 28, ρ 29, ρ 30, ρ 31, ρ 32, ρ 33, ρ 34, ρ 35, ρ 36, ρ 37, ρ 38, ρ 39, ρ 40, ρ 41, ρ 42, ρ 43, ρ 44, ρ 45, ρ 46, ρ 47, ρ 48] (γ 1) := hJ
  have r25 : (0 : Int) ≤ ρ 25 ∧ ρ 25 ≤ 20 := zRnA hr 25
  have r50 : (10 : Int) ≤ ρ 50 ∧ ρ 50 ≤ 10 := zRnA hr 50
  have f0 : (0 : Int) ≤ -ρ 38 + ρ 25 + (-1) := zAllA hf 0
  have f1 : (0 : Int) ≤ -ρ 49 + ((-8) * ρ 26 + ρ 24) := zAllA hf 1
  obtain ⟨w_0, w_1, w_2, w_3, w_4, w_5, w_6, w_7, w_8, w_9, w_10, w_11, w_12, w_13⟩ : (ρ 24 ≥ ρ 49 + 8 * ρ 26) ∧ (ρ 25 ≤ 20) ∧ (¬ (0 ≤ -ρ 50)) ∧ (¬ (0 ≤ -ρ 50 + 1)) ∧ (¬ (0 ≤ -ρ 50 + 2)) ∧ (¬ (0 ≤ -ρ 50 + 3)) ∧ (¬ (0 ≤ -ρ 50 + 4)) ∧ (¬ (0 ≤ -ρ 50 + 5)) ∧ (¬ (0 ≤ -ρ 50 + 6)) ∧ (¬ (0 ≤ -ρ 50 + 7)) ∧ (¬ (0 ≤ -ρ 50 + 8)) ∧ (¬ (0 ≤ -ρ 50 + 9)) ∧ (0 ≤ -ρ 50 + 10) ∧ (¬ (ρ 25 ≤ ρ 38)) := ⟨by omega, by omega, by omega, by omega, by omega, by omega, by omega, by omega, by omega, by omega, by omega, by omega, by omega, by omega⟩
  have m24 : γ 1 92 0 0 = ρ 28 := zAllA hm 24
  have m25 : γ 1 92 0 1 = ρ 29 := zAllA hm 25
  have m26 : γ 1 92 0 2 = ρ 30 := zAllA hm 26
  have m27 : γ 1 92 0 3 = ρ 31 := zAllA hm 27
  have m28 : γ 1 92 0 4 = ρ 32 := zAllA hm 28
  have m29 : γ 1 92 0 5 = ρ 33 := zAllA hm 29
  have m30 : γ 1 92 0 6 = ρ 34 := zAllA hm 30
  have m31 : γ 1 92 0 7 = ρ 35 := zAllA hm 31
  have m32 : γ 1 92 0 8 = ρ 36 := zAllA hm 32
  have m33 : γ 1 92 0 9 = ρ 37 := zAllA hm 33
  have m34 : γ 1 92 0 10 = ρ 38 := zAllA hm 34
  have m35 : γ 1 92 0 11 = ρ 39 := zAllA hm 35
  have m36 : γ 1 92 0 12 = ρ 40 := zAllA hm 36
  have m37 : γ 1 92 0 13 = ρ 41 := zAllA hm 37
  have m38 : γ 1 92 0 14 = ρ 42 := zAllA hm 38
  have m39 : γ 1 92 0 15 = ρ 43 := zAllA hm 39
  have m40 : γ 1 92 0 16 = ρ 44 := zAllA hm 40
  have m41 : γ 1 92 0 17 = ρ 45 := zAllA hm 41
  have m42 : γ 1 92 0 18 = ρ 46 := zAllA hm 42
  have m43 : γ 1 92 0 19 = ρ 47 := zAllA hm 43
  have m45 : γ 0 73 0 (ρ 26) = ρ 49 := zAllA hm 45
  have m46 : γ 0 69 0 (ρ 26) = ρ 50 := zAllA hm 46
  have c2 : γ 2 = rUp (γ 1) 92 0 (ρ 50) (ρ 25) := And.right (zChA hc 0)
  show jn77 [ρ 0, ρ 1, ρ 2, ρ 3, ρ 4, ρ 5, ρ 6, ρ 7, ρ 8, ρ 9, ρ 10, ρ 11, ρ 12, ρ 13, ρ 14, ρ 15, ρ 16, ρ 17, ρ 18, ρ 19, ρ 20, ρ 21, ρ 22, ρ 23] (γ 0) 2 [ρ 0, ρ 1, ρ 2, ρ 3, ρ 4, ρ 5, ρ 6, ρ 7, ρ 8, ρ 9, ρ 10, ρ 11, ρ 12, ρ 13, ρ 14, ρ 15, ρ 16, ρ 17, ρ 18, ρ 19, ρ 20, ρ 21, ρ 22, ρ 23, ρ 26 + 1, 1, ρ 28, ρ 29, ρ 30, ρ 31, ρ 32, ρ 33, ρ 34, ρ 35, ρ 36, ρ 37, ρ 25, ρ 39, ρ 40, ρ 41, ρ 42, ρ 43, ρ 44, ρ 45, ρ 46, ρ 47, ρ 48] (γ 2)
  have hD : en77 (γ 0) (3, [ρ 24, ρ 25, ρ 26, ρ 27], γ 1) = .inl (2, [ρ 26 + 1, 1], γ 2) := by
    unfold en77
    refine zIN (show ¬ (3 : Nat) = 0 by decide) (zIN (show ¬ (3 : Nat) = 1 by decide) (zIN (show ¬ (3 : Nat) = 2 by decide) (zIP (show (3 : Nat) = 3 by decide) (zLV (γ 1) rfl (zLV (ρ 24) rfl (zLV (ρ 25) rfl (zLV (ρ 26) rfl ?_)))))))
    refine zLV (ρ 27) rfl (zLE m24 (zLE m25 (zLE m26 (zLE m27 (zLE m28 (zLE m29 (zLE m30 ?_)))))))
    refine zLE m31 (zLE m32 (zLE m33 (zLE m34 (zLE m35 (zLE m36 (zLE m37 (zLE m38 ?_)))))))
    refine zLE m39 (zLE m40 (zLE m41 (zLE m42 (zLE m43 (zLE m45 (zIP w_0 (zIP w_1 ?_)))))))
    refine zLE m46 (zIN w_2 (zIN w_3 (zIN w_4 (zIN w_5 (zIN w_6 (zIN w_7 (zIN w_8 ?_)))))))
    refine zIN w_9 (zIN w_10 (zIN w_11 (zIP w_12 (zIN w_13 (zLE c2.symm ?_)))))
    rfl
  exact zGoo_ato hJ hD
theorem vn77a3_22 {S : Nat → zSpc}  {a : List Int} {g : rHp} : ∀ (ρ : Nat → Int) (γ : Nat → rHp), jn77 a g 3 (zAg (zNA a77_ 3) ρ) (γ 1) → zO 24 S a g q77a3_22 ρ γ → zGl (fun i vs g1 => jn77 a g i vs g1) (sn77 a g) q77a3_22 ρ γ := by
  intro ρ γ hJ h
  obtain ⟨ha, hg, hr, hf, hm, hc, hl⟩ := h
  have ha : a = [ρ 0, ρ 1, ρ 2, ρ 3, ρ 4, ρ 5, ρ 6, ρ 7, ρ 8, ρ 9, ρ 10, ρ 11, ρ 12, ρ 13, ρ 14, ρ 15, ρ 16, ρ 17, ρ 18, ρ 19, ρ 20, ρ 21, ρ 22, ρ 23] := ha
  subst ha
  subst hg
  have hJ : jn77 [ρ 0, ρ 1, ρ 2, ρ 3, ρ 4, ρ 5, ρ 6, ρ 7, ρ 8, ρ 9, ρ 10, ρ 11, ρ 12, ρ 13, ρ 14, ρ 15, ρ 16, ρ 17, ρ 18, ρ 19, ρ 20, ρ 21, ρ 22, ρ 23] (γ 0) 3 [ρ 0, ρ 1, ρ 2, ρ 3, ρ 4, ρ 5, ρ 6, ρ 7, ρ 8, ρ 9, ρ 10, ρ 11, ρ 12, ρ 13, ρ 14, ρ 15, ρ 16, ρ 17, ρ 18, ρ 19, ρ 20, ρ 21, ρ 22, ρ 23, ρ 24, ρ 25, ρ 26, ρ 27, ρ 28, ρ 29, ρ 30, ρ 31, ρ 32, ρ 33, ρ 34, ρ 35, ρ 36, ρ 37, ρ 38, ρ 39, ρ 40, ρ 41, ρ 42, ρ 43, ρ 44, ρ 45, ρ 46, ρ 47, ρ 48] (γ 1) := hJ
  have r25 : (0 : Int) ≤ ρ 25 ∧ ρ 25 ≤ 20 := zRnA hr 25
  have r50 : (11 : Int) ≤ ρ 50 ∧ ρ 50 ≤ 11 := zRnA hr 50
  have f0 : (0 : Int) ≤ ρ 39 + -ρ 25 := zAllA hf 0
  have f1 : (0 : Int) ≤ -ρ 49 + ((-8) * ρ 26 + ρ 24) := zAllA hf 1
  obtain ⟨w_0, w_1, w_2, w_3, w_4, w_5, w_6, w_7, w_8, w_9, w_10, w_11, w_12, w_13, w_14⟩ : (ρ 24 ≥ ρ 49 + 8 * ρ 26) ∧ (ρ 25 ≤ 20) ∧ (¬ (0 ≤ -ρ 50)) ∧ (¬ (0 ≤ -ρ 50 + 1)) ∧ (¬ (0 ≤ -ρ 50 + 2)) ∧ (¬ (0 ≤ -ρ 50 + 3)) ∧ (¬ (0 ≤ -ρ 50 + 4)) ∧ (¬ (0 ≤ -ρ 50 + 5)) ∧ (¬ (0 ≤ -ρ 50 + 6)) ∧ (¬ (0 ≤ -ρ 50 + 7)) ∧ (¬ (0 ≤ -ρ 50 + 8)) ∧ (¬ (0 ≤ -ρ 50 + 9)) ∧ (¬ (0 ≤ -ρ 50 + 10)) ∧ (0 ≤ -ρ 50 + 11) ∧ (ρ 25 ≤ ρ 39) := ⟨by omega, by omega, by omega, by omega, by omega, by omega, by omega, by omega, by omega, by omega, by omega, by omega, by omega, by omega, by omega⟩
  have m24 : γ 1 92 0 0 = ρ 28 := zAllA hm 24
  have m25 : γ 1 92 0 1 = ρ 29 := zAllA hm 25
  have m26 : γ 1 92 0 2 = ρ 30 := zAllA hm 26
  have m27 : γ 1 92 0 3 = ρ 31 := zAllA hm 27
  have m28 : γ 1 92 0 4 = ρ 32 := zAllA hm 28
  have m29 : γ 1 92 0 5 = ρ 33 := zAllA hm 29
  have m30 : γ 1 92 0 6 = ρ 34 := zAllA hm 30
  have m31 : γ 1 92 0 7 = ρ 35 := zAllA hm 31
  have m32 : γ 1 92 0 8 = ρ 36 := zAllA hm 32
  have m33 : γ 1 92 0 9 = ρ 37 := zAllA hm 33
  have m34 : γ 1 92 0 10 = ρ 38 := zAllA hm 34
  have m35 : γ 1 92 0 11 = ρ 39 := zAllA hm 35
  have m36 : γ 1 92 0 12 = ρ 40 := zAllA hm 36
  have m37 : γ 1 92 0 13 = ρ 41 := zAllA hm 37
  have m38 : γ 1 92 0 14 = ρ 42 := zAllA hm 38
  have m39 : γ 1 92 0 15 = ρ 43 := zAllA hm 39
  have m40 : γ 1 92 0 16 = ρ 44 := zAllA hm 40
  have m41 : γ 1 92 0 17 = ρ 45 := zAllA hm 41
  have m42 : γ 1 92 0 18 = ρ 46 := zAllA hm 42
  have m43 : γ 1 92 0 19 = ρ 47 := zAllA hm 43
  have m45 : γ 0 73 0 (ρ 26) = ρ 49 := zAllA hm 45
  have m46 : γ 0 69 0 (ρ 26) = ρ 50 := zAllA hm 46
  show jn77 [ρ 0, ρ 1, ρ 2, ρ 3, ρ 4, ρ 5, ρ 6, ρ 7, ρ 8, ρ 9, ρ 10, ρ 11, ρ 12, ρ 13, ρ 14, ρ 15, ρ 16, ρ 17, ρ 18, ρ 19, ρ 20, ρ 21, ρ 22, ρ 23] (γ 0) 2 [ρ 0, ρ 1, ρ 2, ρ 3, ρ 4, ρ 5, ρ 6, ρ 7, ρ 8, ρ 9, ρ 10, ρ 11, ρ 12, ρ 13, ρ 14, ρ 15, ρ 16, ρ 17, ρ 18, ρ 19, ρ 20, ρ 21, ρ 22, ρ 23, ρ 26 + 1, ρ 27, ρ 28, ρ 29, ρ 30, ρ 31, ρ 32, ρ 33, ρ 34, ρ 35, ρ 36, ρ 37, ρ 38, ρ 39, ρ 40, ρ 41, ρ 42, ρ 43, ρ 44, ρ 45, ρ 46, ρ 47, ρ 48] (γ 1)
  have hD : en77 (γ 0) (3, [ρ 24, ρ 25, ρ 26, ρ 27], γ 1) = .inl (2, [ρ 26 + 1, ρ 27], γ 1) := by
    unfold en77
    refine zIN (show ¬ (3 : Nat) = 0 by decide) (zIN (show ¬ (3 : Nat) = 1 by decide) (zIN (show ¬ (3 : Nat) = 2 by decide) (zIP (show (3 : Nat) = 3 by decide) (zLV (γ 1) rfl (zLV (ρ 24) rfl (zLV (ρ 25) rfl (zLV (ρ 26) rfl ?_)))))))
    refine zLV (ρ 27) rfl (zLE m24 (zLE m25 (zLE m26 (zLE m27 (zLE m28 (zLE m29 (zLE m30 ?_)))))))
    refine zLE m31 (zLE m32 (zLE m33 (zLE m34 (zLE m35 (zLE m36 (zLE m37 (zLE m38 ?_)))))))
    refine zLE m39 (zLE m40 (zLE m41 (zLE m42 (zLE m43 (zLE m45 (zIP w_0 (zIP w_1 ?_)))))))
    refine zLE m46 (zIN w_2 (zIN w_3 (zIN w_4 (zIN w_5 (zIN w_6 (zIN w_7 (zIN w_8 ?_)))))))
    refine zIN w_9 (zIN w_10 (zIN w_11 (zIN w_12 (zIP w_13 (zIP w_14 ?_)))))
    rfl
  exact zGoo_ato hJ hD
theorem vn77a3_23 {S : Nat → zSpc}  {a : List Int} {g : rHp} : ∀ (ρ : Nat → Int) (γ : Nat → rHp), jn77 a g 3 (zAg (zNA a77_ 3) ρ) (γ 1) → zO 24 S a g q77a3_23 ρ γ → zGl (fun i vs g1 => jn77 a g i vs g1) (sn77 a g) q77a3_23 ρ γ := by
  intro ρ γ hJ h
  obtain ⟨ha, hg, hr, hf, hm, hc, hl⟩ := h
  have ha : a = [ρ 0, ρ 1, ρ 2, ρ 3, ρ 4, ρ 5, ρ 6, ρ 7, ρ 8, ρ 9, ρ 10, ρ 11, ρ 12, ρ 13, ρ 14, ρ 15, ρ 16, ρ 17, ρ 18, ρ 19, ρ 20, ρ 21, ρ 22, ρ 23] := ha
  subst ha
  subst hg
  have hJ : jn77 [ρ 0, ρ 1, ρ 2, ρ 3, ρ 4, ρ 5, ρ 6, ρ 7, ρ 8, ρ 9, ρ 10, ρ 11, ρ 12, ρ 13, ρ 14, ρ 15, ρ 16, ρ 17, ρ 18, ρ 19, ρ 20, ρ 21, ρ 22, ρ 23] (γ 0) 3 [ρ 0, ρ 1, ρ 2, ρ 3, ρ 4, ρ 5, ρ 6, ρ 7, ρ 8, ρ 9, ρ 10, ρ 11, ρ 12, ρ 13, ρ 14, ρ 15, ρ 16, ρ 17, ρ 18, ρ 19, ρ 20, ρ 21, ρ 22, ρ 23, ρ 24, ρ 25, ρ 26, ρ 27, ρ 28, ρ 29, ρ 30, ρ 31, ρ 32, ρ 33, ρ 34, ρ 35, ρ 36, ρ 37, ρ 38, ρ 39, ρ 40, ρ 41, ρ 42, ρ 43, ρ 44, ρ 45, ρ 46, ρ 47, ρ 48] (γ 1) := hJ
  have r25 : (0 : Int) ≤ ρ 25 ∧ ρ 25 ≤ 20 := zRnA hr 25
  have r50 : (11 : Int) ≤ ρ 50 ∧ ρ 50 ≤ 11 := zRnA hr 50
  have f0 : (0 : Int) ≤ -ρ 39 + ρ 25 + (-1) := zAllA hf 0
  have f1 : (0 : Int) ≤ -ρ 49 + ((-8) * ρ 26 + ρ 24) := zAllA hf 1
  obtain ⟨w_0, w_1, w_2, w_3, w_4, w_5, w_6, w_7, w_8, w_9, w_10, w_11, w_12, w_13, w_14⟩ : (ρ 24 ≥ ρ 49 + 8 * ρ 26) ∧ (ρ 25 ≤ 20) ∧ (¬ (0 ≤ -ρ 50)) ∧ (¬ (0 ≤ -ρ 50 + 1)) ∧ (¬ (0 ≤ -ρ 50 + 2)) ∧ (¬ (0 ≤ -ρ 50 + 3)) ∧ (¬ (0 ≤ -ρ 50 + 4)) ∧ (¬ (0 ≤ -ρ 50 + 5)) ∧ (¬ (0 ≤ -ρ 50 + 6)) ∧ (¬ (0 ≤ -ρ 50 + 7)) ∧ (¬ (0 ≤ -ρ 50 + 8)) ∧ (¬ (0 ≤ -ρ 50 + 9)) ∧ (¬ (0 ≤ -ρ 50 + 10)) ∧ (0 ≤ -ρ 50 + 11) ∧ (¬ (ρ 25 ≤ ρ 39)) := ⟨by omega, by omega, by omega, by omega, by omega, by omega, by omega, by omega, by omega, by omega, by omega, by omega, by omega, by omega, by omega⟩
  have m24 : γ 1 92 0 0 = ρ 28 := zAllA hm 24
  have m25 : γ 1 92 0 1 = ρ 29 := zAllA hm 25
  have m26 : γ 1 92 0 2 = ρ 30 := zAllA hm 26
  have m27 : γ 1 92 0 3 = ρ 31 := zAllA hm 27
  have m28 : γ 1 92 0 4 = ρ 32 := zAllA hm 28
  have m29 : γ 1 92 0 5 = ρ 33 := zAllA hm 29
  have m30 : γ 1 92 0 6 = ρ 34 := zAllA hm 30
  have m31 : γ 1 92 0 7 = ρ 35 := zAllA hm 31
  have m32 : γ 1 92 0 8 = ρ 36 := zAllA hm 32
  have m33 : γ 1 92 0 9 = ρ 37 := zAllA hm 33
  have m34 : γ 1 92 0 10 = ρ 38 := zAllA hm 34
  have m35 : γ 1 92 0 11 = ρ 39 := zAllA hm 35
  have m36 : γ 1 92 0 12 = ρ 40 := zAllA hm 36
  have m37 : γ 1 92 0 13 = ρ 41 := zAllA hm 37
  have m38 : γ 1 92 0 14 = ρ 42 := zAllA hm 38
  have m39 : γ 1 92 0 15 = ρ 43 := zAllA hm 39
  have m40 : γ 1 92 0 16 = ρ 44 := zAllA hm 40
  have m41 : γ 1 92 0 17 = ρ 45 := zAllA hm 41
  have m42 : γ 1 92 0 18 = ρ 46 := zAllA hm 42
  have m43 : γ 1 92 0 19 = ρ 47 := zAllA hm 43
  have m45 : γ 0 73 0 (ρ 26) = ρ 49 := zAllA hm 45
  have m46 : γ 0 69 0 (ρ 26) = ρ 50 := zAllA hm 46
  have c2 : γ 2 = rUp (γ 1) 92 0 (ρ 50) (ρ 25) := And.right (zChA hc 0)
  show jn77 [ρ 0, ρ 1, ρ 2, ρ 3, ρ 4, ρ 5, ρ 6, ρ 7, ρ 8, ρ 9, ρ 10, ρ 11, ρ 12, ρ 13, ρ 14, ρ 15, ρ 16, ρ 17, ρ 18, ρ 19, ρ 20, ρ 21, ρ 22, ρ 23] (γ 0) 2 [ρ 0, ρ 1, ρ 2, ρ 3, ρ 4, ρ 5, ρ 6, ρ 7, ρ 8, ρ 9, ρ 10, ρ 11, ρ 12, ρ 13, ρ 14, ρ 15, ρ 16, ρ 17, ρ 18, ρ 19, ρ 20, ρ 21, ρ 22, ρ 23, ρ 26 + 1, 1, ρ 28, ρ 29, ρ 30, ρ 31, ρ 32, ρ 33, ρ 34, ρ 35, ρ 36, ρ 37, ρ 38, ρ 25, ρ 40, ρ 41, ρ 42, ρ 43, ρ 44, ρ 45, ρ 46, ρ 47, ρ 48] (γ 2)
  have hD : en77 (γ 0) (3, [ρ 24, ρ 25, ρ 26, ρ 27], γ 1) = .inl (2, [ρ 26 + 1, 1], γ 2) := by
    unfold en77
    refine zIN (show ¬ (3 : Nat) = 0 by decide) (zIN (show ¬ (3 : Nat) = 1 by decide) (zIN (show ¬ (3 : Nat) = 2 by decide) (zIP (show (3 : Nat) = 3 by decide) (zLV (γ 1) rfl (zLV (ρ 24) rfl (zLV (ρ 25) rfl (zLV (ρ 26) rfl ?_)))))))
    refine zLV (ρ 27) rfl (zLE m24 (zLE m25 (zLE m26 (zLE m27 (zLE m28 (zLE m29 (zLE m30 ?_)))))))
    refine zLE m31 (zLE m32 (zLE m33 (zLE m34 (zLE m35 (zLE m36 (zLE m37 (zLE m38 ?_)))))))
    refine zLE m39 (zLE m40 (zLE m41 (zLE m42 (zLE m43 (zLE m45 (zIP w_0 (zIP w_1 ?_)))))))
    refine zLE m46 (zIN w_2 (zIN w_3 (zIN w_4 (zIN w_5 (zIN w_6 (zIN w_7 (zIN w_8 ?_)))))))
    refine zIN w_9 (zIN w_10 (zIN w_11 (zIN w_12 (zIP w_13 (zIN w_14 (zLE c2.symm ?_))))))
    rfl
  exact zGoo_ato hJ hD
theorem vn77a3_24 {S : Nat → zSpc}  {a : List Int} {g : rHp} : ∀ (ρ : Nat → Int) (γ : Nat → rHp), jn77 a g 3 (zAg (zNA a77_ 3) ρ) (γ 1) → zO 24 S a g q77a3_24 ρ γ → zGl (fun i vs g1 => jn77 a g i vs g1) (sn77 a g) q77a3_24 ρ γ := by
  intro ρ γ hJ h
  obtain ⟨ha, hg, hr, hf, hm, hc, hl⟩ := h
  have ha : a = [ρ 0, ρ 1, ρ 2, ρ 3, ρ 4, ρ 5, ρ 6, ρ 7, ρ 8, ρ 9, ρ 10, ρ 11, ρ 12, ρ 13, ρ 14, ρ 15, ρ 16, ρ 17, ρ 18, ρ 19, ρ 20, ρ 21, ρ 22, ρ 23] := ha
  subst ha
  subst hg
  have hJ : jn77 [ρ 0, ρ 1, ρ 2, ρ 3, ρ 4, ρ 5, ρ 6, ρ 7, ρ 8, ρ 9, ρ 10, ρ 11, ρ 12, ρ 13, ρ 14, ρ 15, ρ 16, ρ 17, ρ 18, ρ 19, ρ 20, ρ 21, ρ 22, ρ 23] (γ 0) 3 [ρ 0, ρ 1, ρ 2, ρ 3, ρ 4, ρ 5, ρ 6, ρ 7, ρ 8, ρ 9, ρ 10, ρ 11, ρ 12, ρ 13, ρ 14, ρ 15, ρ 16, ρ 17, ρ 18, ρ 19, ρ 20, ρ 21, ρ 22, ρ 23, ρ 24, ρ 25, ρ 26, ρ 27, ρ 28, ρ 29, ρ 30, ρ 31, ρ 32, ρ 33, ρ 34, ρ 35, ρ 36, ρ 37, ρ 38, ρ 39, ρ 40, ρ 41, ρ 42, ρ 43, ρ 44, ρ 45, ρ 46, ρ 47, ρ 48] (γ 1) := hJ
  have r25 : (0 : Int) ≤ ρ 25 ∧ ρ 25 ≤ 20 := zRnA hr 25
  have r50 : (12 : Int) ≤ ρ 50 ∧ ρ 50 ≤ 12 := zRnA hr 50
  have f0 : (0 : Int) ≤ ρ 40 + -ρ 25 := zAllA hf 0
  have f1 : (0 : Int) ≤ -ρ 49 + ((-8) * ρ 26 + ρ 24) := zAllA hf 1
  obtain ⟨w_0, w_1, w_2, w_3, w_4, w_5, w_6, w_7, w_8, w_9, w_10, w_11, w_12, w_13, w_14, w_15⟩ : (ρ 24 ≥ ρ 49 + 8 * ρ 26) ∧ (ρ 25 ≤ 20) ∧ (¬ (0 ≤ -ρ 50)) ∧ (¬ (0 ≤ -ρ 50 + 1)) ∧ (¬ (0 ≤ -ρ 50 + 2)) ∧ (¬ (0 ≤ -ρ 50 + 3)) ∧ (¬ (0 ≤ -ρ 50 + 4)) ∧ (¬ (0 ≤ -ρ 50 + 5)) ∧ (¬ (0 ≤ -ρ 50 + 6)) ∧ (¬ (0 ≤ -ρ 50 + 7)) ∧ (¬ (0 ≤ -ρ 50 + 8)) ∧ (¬ (0 ≤ -ρ 50 + 9)) ∧ (¬ (0 ≤ -ρ 50 + 10)) ∧ (¬ (0 ≤ -ρ 50 + 11)) ∧ (0 ≤ -ρ 50 + 12) ∧ (ρ 25 ≤ ρ 40) := ⟨by omega, by omega, by omega, by omega, by omega, by omega, by omega, by omega, by omega, by omega, by omega, by omega, by omega, by omega, by omega, by omega⟩
  have m24 : γ 1 92 0 0 = ρ 28 := zAllA hm 24
  have m25 : γ 1 92 0 1 = ρ 29 := zAllA hm 25
  have m26 : γ 1 92 0 2 = ρ 30 := zAllA hm 26
  have m27 : γ 1 92 0 3 = ρ 31 := zAllA hm 27
  have m28 : γ 1 92 0 4 = ρ 32 := zAllA hm 28
  have m29 : γ 1 92 0 5 = ρ 33 := zAllA hm 29
  have m30 : γ 1 92 0 6 = ρ 34 := zAllA hm 30
  have m31 : γ 1 92 0 7 = ρ 35 := zAllA hm 31
  have m32 : γ 1 92 0 8 = ρ 36 := zAllA hm 32
  have m33 : γ 1 92 0 9 = ρ 37 := zAllA hm 33
  have m34 : γ 1 92 0 10 = ρ 38 := zAllA hm 34
  have m35 : γ 1 92 0 11 = ρ 39 := zAllA hm 35
  have m36 : γ 1 92 0 12 = ρ 40 := zAllA hm 36
  have m37 : γ 1 92 0 13 = ρ 41 := zAllA hm 37
  have m38 : γ 1 92 0 14 = ρ 42 := zAllA hm 38
  have m39 : γ 1 92 0 15 = ρ 43 := zAllA hm 39
  have m40 : γ 1 92 0 16 = ρ 44 := zAllA hm 40
  have m41 : γ 1 92 0 17 = ρ 45 := zAllA hm 41
  have m42 : γ 1 92 0 18 = ρ 46 := zAllA hm 42
  have m43 : γ 1 92 0 19 = ρ 47 := zAllA hm 43
  have m45 : γ 0 73 0 (ρ 26) = ρ 49 := zAllA hm 45
  have m46 : γ 0 69 0 (ρ 26) = ρ 50 := zAllA hm 46
  show jn77 [ρ 0, ρ 1, ρ 2, ρ 3, ρ 4, ρ 5, ρ 6, ρ 7, ρ 8, ρ 9, ρ 10, ρ 11, ρ 12, ρ 13, ρ 14, ρ 15, ρ 16, ρ 17, ρ 18, ρ 19, ρ 20, ρ 21, ρ 22, ρ 23] (γ 0) 2 [ρ 0, ρ 1, ρ 2, ρ 3, ρ 4, ρ 5, ρ 6, ρ 7, ρ 8, ρ 9, ρ 10, ρ 11, ρ 12, ρ 13, ρ 14, ρ 15, ρ 16, ρ 17, ρ 18, ρ 19, ρ 20, ρ 21, ρ 22, ρ 23, ρ 26 + 1, ρ 27, ρ 28, ρ 29, ρ 30, ρ 31, ρ 32, ρ 33, ρ 34, ρ 35, ρ 36, ρ 37, ρ 38, ρ 39, ρ 40, ρ 41, ρ 42, ρ 43, ρ 44, ρ 45, ρ 46, ρ 47, ρ 48] (γ 1)
  have hD : en77 (γ 0) (3, [ρ 24, ρ 25, ρ 26, ρ 27], γ 1) = .inl (2, [ρ 26 + 1, ρ 27], γ 1) := by
    unfold en77
    refine zIN (show ¬ (3 : Nat) = 0 by decide) (zIN (show ¬ (3 : Nat) = 1 by decide) (zIN (show ¬ (3 : Nat) = 2 by decide) (zIP (show (3 : Nat) = 3 by decide) (zLV (γ 1) rfl (zLV (ρ 24) rfl (zLV (ρ 25) rfl (zLV (ρ 26) rfl ?_)))))))
    refine zLV (ρ 27) rfl (zLE m24 (zLE m25 (zLE m26 (zLE m27 (zLE m28 (zLE m29 (zLE m30 ?_)))))))
    refine zLE m31 (zLE m32 (zLE m33 (zLE m34 (zLE m35 (zLE m36 (zLE m37 (zLE m38 ?_)))))))
    refine zLE m39 (zLE m40 (zLE m41 (zLE m42 (zLE m43 (zLE m45 (zIP w_0 (zIP w_1 ?_)))))))
    refine zLE m46 (zIN w_2 (zIN w_3 (zIN w_4 (zIN w_5 (zIN w_6 (zIN w_7 (zIN w_8 ?_)))))))
    refine zIN w_9 (zIN w_10 (zIN w_11 (zIN w_12 (zIN w_13 (zIP w_14 (zIP w_15 ?_))))))
    rfl
  exact zGoo_ato hJ hD
theorem vn77a3_25 {S : Nat → zSpc}  {a : List Int} {g : rHp} : ∀ (ρ : Nat → Int) (γ : Nat → rHp), jn77 a g 3 (zAg (zNA a77_ 3) ρ) (γ 1) → zO 24 S a g q77a3_25 ρ γ → zGl (fun i vs g1 => jn77 a g i vs g1) (sn77 a g) q77a3_25 ρ γ := by
  intro ρ γ hJ h
  obtain ⟨ha, hg, hr, hf, hm, hc, hl⟩ := h
  have ha : a = [ρ 0, ρ 1, ρ 2, ρ 3, ρ 4, ρ 5, ρ 6, ρ 7, ρ 8, ρ 9, ρ 10, ρ 11, ρ 12, ρ 13, ρ 14, ρ 15, ρ 16, ρ 17, ρ 18, ρ 19, ρ 20, ρ 21, ρ 22, ρ 23] := ha
  subst ha
  subst hg
  have hJ : jn77 [ρ 0, ρ 1, ρ 2, ρ 3, ρ 4, ρ 5, ρ 6, ρ 7, ρ 8, ρ 9, ρ 10, ρ 11, ρ 12, ρ 13, ρ 14, ρ 15, ρ 16, ρ 17, ρ 18, ρ 19, ρ 20, ρ 21, ρ 22, ρ 23] (γ 0) 3 [ρ 0, ρ 1, ρ 2, ρ 3, ρ 4, ρ 5, ρ 6, ρ 7, ρ 8, ρ 9, ρ 10, ρ 11, ρ 12, ρ 13, ρ 14, ρ 15, ρ 16, ρ 17, ρ 18, ρ 19, ρ 20, ρ 21, ρ 22, ρ 23, ρ 24, ρ 25, ρ 26, ρ 27, ρ 28, ρ 29, ρ 30, ρ 31, ρ 32, ρ 33, ρ 34, ρ 35, ρ 36, ρ 37, ρ 38, ρ 39, ρ 40, ρ 41, ρ 42, ρ 43, ρ 44, ρ 45, ρ 46, ρ 47, ρ 48] (γ 1) := hJ
  have r25 : (0 : Int) ≤ ρ 25 ∧ ρ 25 ≤ 20 := zRnA hr 25
  have r50 : (12 : Int) ≤ ρ 50 ∧ ρ 50 ≤ 12 := zRnA hr 50
  have f0 : (0 : Int) ≤ -ρ 40 + ρ 25 + (-1) := zAllA hf 0
  have f1 : (0 : Int) ≤ -ρ 49 + ((-8) * ρ 26 + ρ 24) := zAllA hf 1
  obtain ⟨w_0, w_1, w_2, w_3, w_4, w_5, w_6, w_7, w_8, w_9, w_10, w_11, w_12, w_13, w_14, w_15⟩ : (ρ 24 ≥ ρ 49 + 8 * ρ 26) ∧ (ρ 25 ≤ 20) ∧ (¬ (0 ≤ -ρ 50)) ∧ (¬ (0 ≤ -ρ 50 + 1)) ∧ (¬ (0 ≤ -ρ 50 + 2)) ∧ (¬ (0 ≤ -ρ 50 + 3)) ∧ (¬ (0 ≤ -ρ 50 + 4)) ∧ (¬ (0 ≤ -ρ 50 + 5)) ∧ (¬ (0 ≤ -ρ 50 + 6)) ∧ (¬ (0 ≤ -ρ 50 + 7)) ∧ (¬ (0 ≤ -ρ 50 + 8)) ∧ (¬ (0 ≤ -ρ 50 + 9)) ∧ (¬ (0 ≤ -ρ 50 + 10)) ∧ (¬ (0 ≤ -ρ 50 + 11)) ∧ (0 ≤ -ρ 50 + 12) ∧ (¬ (ρ 25 ≤ ρ 40)) := ⟨by omega, by omega, by omega, by omega, by omega, by omega, by omega, by omega, by omega, by omega, by omega, by omega, by omega, by omega, by omega, by omega⟩
  have m24 : γ 1 92 0 0 = ρ 28 := zAllA hm 24
  have m25 : γ 1 92 0 1 = ρ 29 := zAllA hm 25
  have m26 : γ 1 92 0 2 = ρ 30 := zAllA hm 26
  have m27 : γ 1 92 0 3 = ρ 31 := zAllA hm 27
  have m28 : γ 1 92 0 4 = ρ 32 := zAllA hm 28
  have m29 : γ 1 92 0 5 = ρ 33 := zAllA hm 29
  have m30 : γ 1 92 0 6 = ρ 34 := zAllA hm 30
  have m31 : γ 1 92 0 7 = ρ 35 := zAllA hm 31
  have m32 : γ 1 92 0 8 = ρ 36 := zAllA hm 32
  have m33 : γ 1 92 0 9 = ρ 37 := zAllA hm 33
  have m34 : γ 1 92 0 10 = ρ 38 := zAllA hm 34
  have m35 : γ 1 92 0 11 = ρ 39 := zAllA hm 35
  have m36 : γ 1 92 0 12 = ρ 40 := zAllA hm 36
  have m37 : γ 1 92 0 13 = ρ 41 := zAllA hm 37
  have m38 : γ 1 92 0 14 = ρ 42 := zAllA hm 38
  have m39 : γ 1 92 0 15 = ρ 43 := zAllA hm 39
  have m40 : γ 1 92 0 16 = ρ 44 := zAllA hm 40
  have m41 : γ 1 92 0 17 = ρ 45 := zAllA hm 41
  have m42 : γ 1 92 0 18 = ρ 46 := zAllA hm 42
  have m43 : γ 1 92 0 19 = ρ 47 := zAllA hm 43
  have m45 : γ 0 73 0 (ρ 26) = ρ 49 := zAllA hm 45
  have m46 : γ 0 69 0 (ρ 26) = ρ 50 := zAllA hm 46
  have c2 : γ 2 = rUp (γ 1) 92 0 (ρ 50) (ρ 25) := And.right (zChA hc 0)
  show jn77 [ρ 0, ρ 1, ρ 2, ρ 3, ρ 4, ρ 5, ρ 6, ρ 7, ρ 8, ρ 9, ρ 10, ρ 11, ρ 12, ρ 13, ρ 14, ρ 15, ρ 16, ρ 17, ρ 18, ρ 19, ρ 20, ρ 21, ρ 22, ρ 23] (γ 0) 2 [ρ 0, ρ 1, ρ 2, ρ 3, ρ 4, ρ 5, ρ 6, ρ 7, ρ 8, ρ 9, ρ 10, ρ 11, ρ 12, ρ 13, ρ 14, ρ 15, ρ 16, ρ 17, ρ 18, ρ 19, ρ 20, ρ 21, ρ 22, ρ 23, ρ 26 + 1, 1, ρ 28, ρ 29, ρ 30, ρ 31, ρ 32, ρ 33, ρ 34, ρ 35, ρ 36, ρ 37, ρ 38, ρ 39, ρ 25, ρ 41, ρ 42, ρ 43, ρ 44, ρ 45, ρ 46, ρ 47, ρ 48] (γ 2)
  have hD : en77 (γ 0) (3, [ρ 24, ρ 25, ρ 26, ρ 27], γ 1) = .inl (2, [ρ 26 + 1, 1], γ 2) := by
    unfold en77
    refine zIN (show ¬ (3 : Nat) = 0 by decide) (zIN (show ¬ (3 : Nat) = 1 by decide) (zIN (show ¬ (3 : Nat) = 2 by decide) (zIP (show (3 : Nat) = 3 by decide) (zLV (γ 1) rfl (zLV (ρ 24) rfl (zLV (ρ 25) rfl (zLV (ρ 26) rfl ?_)))))))
    refine zLV (ρ 27) rfl (zLE m24 (zLE m25 (zLE m26 (zLE m27 (zLE m28 (zLE m29 (zLE m30 ?_)))))))
    refine zLE m31 (zLE m32 (zLE m33 (zLE m34 (zLE m35 (zLE m36 (zLE m37 (zLE m38 ?_)))))))
    refine zLE m39 (zLE m40 (zLE m41 (zLE m42 (zLE m43 (zLE m45 (zIP w_0 (zIP w_1 ?_)))))))
    refine zLE m46 (zIN w_2 (zIN w_3 (zIN w_4 (zIN w_5 (zIN w_6 (zIN w_7 (zIN w_8 ?_)))))))
    refine zIN w_9 (zIN w_10 (zIN w_11 (zIN w_12 (zIN w_13 (zIP w_14 (zIN w_15 (zLE c2.symm ?_)))))))
    rfl
  exact zGoo_ato hJ hD
theorem vn77a3_26 {S : Nat → zSpc}  {a : List Int} {g : rHp} : ∀ (ρ : Nat → Int) (γ : Nat → rHp), jn77 a g 3 (zAg (zNA a77_ 3) ρ) (γ 1) → zO 24 S a g q77a3_26 ρ γ → zGl (fun i vs g1 => jn77 a g i vs g1) (sn77 a g) q77a3_26 ρ γ := by
  intro ρ γ hJ h
  obtain ⟨ha, hg, hr, hf, hm, hc, hl⟩ := h
  have ha : a = [ρ 0, ρ 1, ρ 2, ρ 3, ρ 4, ρ 5, ρ 6, ρ 7, ρ 8, ρ 9, ρ 10, ρ 11, ρ 12, ρ 13, ρ 14, ρ 15, ρ 16, ρ 17, ρ 18, ρ 19, ρ 20, ρ 21, ρ 22, ρ 23] := ha
  subst ha
  subst hg
  have hJ : jn77 [ρ 0, ρ 1, ρ 2, ρ 3, ρ 4, ρ 5, ρ 6, ρ 7, ρ 8, ρ 9, ρ 10, ρ 11, ρ 12, ρ 13, ρ 14, ρ 15, ρ 16, ρ 17, ρ 18, ρ 19, ρ 20, ρ 21, ρ 22, ρ 23] (γ 0) 3 [ρ 0, ρ 1, ρ 2, ρ 3, ρ 4, ρ 5, ρ 6, ρ 7, ρ 8, ρ 9, ρ 10, ρ 11, ρ 12, ρ 13, ρ 14, ρ 15, ρ 16, ρ 17, ρ 18, ρ 19, ρ 20, ρ 21, ρ 22, ρ 23, ρ 24, ρ 25, ρ 26, ρ 27, ρ 28, ρ 29, ρ 30, ρ 31, ρ 32, ρ 33, ρ 34, ρ 35, ρ 36, ρ 37, ρ 38, ρ 39, ρ 40, ρ 41, ρ 42, ρ 43, ρ 44, ρ 45, ρ 46, ρ 47, ρ 48] (γ 1) := hJ
  have r25 : (0 : Int) ≤ ρ 25 ∧ ρ 25 ≤ 20 := zRnA hr 25
  have r50 : (13 : Int) ≤ ρ 50 ∧ ρ 50 ≤ 13 := zRnA hr 50
  have f0 : (0 : Int) ≤ ρ 41 + -ρ 25 := zAllA hf 0
  have f1 : (0 : Int) ≤ -ρ 49 + ((-8) * ρ 26 + ρ 24) := zAllA hf 1
  obtain ⟨w_0, w_1, w_2, w_3, w_4, w_5, w_6, w_7, w_8, w_9, w_10, w_11, w_12, w_13, w_14, w_15, w_16⟩ : (ρ 24 ≥ ρ 49 + 8 * ρ 26) ∧ (ρ 25 ≤ 20) ∧ (¬ (0 ≤ -ρ 50)) ∧ (¬ (0 ≤ -ρ 50 + 1)) ∧ (¬ (0 ≤ -ρ 50 + 2)) ∧ (¬ (0 ≤ -ρ 50 + 3)) ∧ (¬ (0 ≤ -ρ 50 + 4)) ∧ (¬ (0 ≤ -ρ 50 + 5)) ∧ (¬ (0 ≤ -ρ 50 + 6)) ∧ (¬ (0 ≤ -ρ 50 + 7)) ∧ (¬ (0 ≤ -ρ 50 + 8)) ∧ (¬ (0 ≤ -ρ 50 + 9)) ∧ (¬ (0 ≤ -ρ 50 + 10)) ∧ (¬ (0 ≤ -ρ 50 + 11)) ∧ (¬ (0 ≤ -ρ 50 + 12)) ∧ (0 ≤ -ρ 50 + 13) ∧ (ρ 25 ≤ ρ 41) := ⟨by omega, by omega, by omega, by omega, by omega, by omega, by omega, by omega, by omega, by omega, by omega, by omega, by omega, by omega, by omega, by omega, by omega⟩
  have m24 : γ 1 92 0 0 = ρ 28 := zAllA hm 24
  have m25 : γ 1 92 0 1 = ρ 29 := zAllA hm 25
  have m26 : γ 1 92 0 2 = ρ 30 := zAllA hm 26
  have m27 : γ 1 92 0 3 = ρ 31 := zAllA hm 27
  have m28 : γ 1 92 0 4 = ρ 32 := zAllA hm 28
  have m29 : γ 1 92 0 5 = ρ 33 := zAllA hm 29
  have m30 : γ 1 92 0 6 = ρ 34 := zAllA hm 30
  have m31 : γ 1 92 0 7 = ρ 35 := zAllA hm 31
  have m32 : γ 1 92 0 8 = ρ 36 := zAllA hm 32
  have m33 : γ 1 92 0 9 = ρ 37 := zAllA hm 33
  have m34 : γ 1 92 0 10 = ρ 38 := zAllA hm 34
  have m35 : γ 1 92 0 11 = ρ 39 := zAllA hm 35
  have m36 : γ 1 92 0 12 = ρ 40 := zAllA hm 36
  have m37 : γ 1 92 0 13 = ρ 41 := zAllA hm 37
  have m38 : γ 1 92 0 14 = ρ 42 := zAllA hm 38
  have m39 : γ 1 92 0 15 = ρ 43 := zAllA hm 39
  have m40 : γ 1 92 0 16 = ρ 44 := zAllA hm 40
  have m41 : γ 1 92 0 17 = ρ 45 := zAllA hm 41
  have m42 : γ 1 92 0 18 = ρ 46 := zAllA hm 42
  have m43 : γ 1 92 0 19 = ρ 47 := zAllA hm 43
  have m45 : γ 0 73 0 (ρ 26) = ρ 49 := zAllA hm 45
  have m46 : γ 0 69 0 (ρ 26) = ρ 50 := zAllA hm 46
  show jn77 [ρ 0, ρ 1, ρ 2, ρ 3, ρ 4, ρ 5, ρ 6, ρ 7, ρ 8, ρ 9, ρ 10, ρ 11, ρ 12, ρ 13, ρ 14, ρ 15, ρ 16, ρ 17, ρ 18, ρ 19, ρ 20, ρ 21, ρ 22, ρ 23] (γ 0) 2 [ρ 0, ρ 1, ρ 2, ρ 3, ρ 4, ρ 5, ρ 6, ρ 7, ρ 8, ρ 9, ρ 10, ρ 11, ρ 12, ρ 13, ρ 14, ρ 15, ρ 16, ρ 17, ρ 18, ρ 19, ρ 20, ρ 21, ρ 22, ρ 23, ρ 26 + 1, ρ 27, ρ 28, ρ 29, ρ 30, ρ 31, ρ 32, ρ 33, ρ 34, ρ 35, ρ 36, ρ 37, ρ 38, ρ 39, ρ 40, ρ 41, ρ 42, ρ 43, ρ 44, ρ 45, ρ 46, ρ 47, ρ 48] (γ 1)
  have hD : en77 (γ 0) (3, [ρ 24, ρ 25, ρ 26, ρ 27], γ 1) = .inl (2, [ρ 26 + 1, ρ 27], γ 1) := by
    unfold en77
    refine zIN (show ¬ (3 : Nat) = 0 by decide) (zIN (show ¬ (3 : Nat) = 1 by decide) (zIN (show ¬ (3 : Nat) = 2 by decide) (zIP (show (3 : Nat) = 3 by decide) (zLV (γ 1) rfl (zLV (ρ 24) rfl (zLV (ρ 25) rfl (zLV (ρ 26) rfl ?_)))))))
    refine zLV (ρ 27) rfl (zLE m24 (zLE m25 (zLE m26 (zLE m27 (zLE m28 (zLE m29 (zLE m30 ?_)))))))
    refine zLE m31 (zLE m32 (zLE m33 (zLE m34 (zLE m35 (zLE m36 (zLE m37 (zLE m38 ?_)))))))
    refine zLE m39 (zLE m40 (zLE m41 (zLE m42 (zLE m43 (zLE m45 (zIP w_0 (zIP w_1 ?_)))))))
    refine zLE m46 (zIN w_2 (zIN w_3 (zIN w_4 (zIN w_5 (zIN w_6 (zIN w_7 (zIN w_8 ?_)))))))
    refine zIN w_9 (zIN w_10 (zIN w_11 (zIN w_12 (zIN w_13 (zIN w_14 (zIP w_15 (zIP w_16 ?_)))))))
    rfl
  exact zGoo_ato hJ hD
theorem vn77a3_27 {S : Nat → zSpc}  {a : List Int} {g : rHp} : ∀ (ρ : Nat → Int) (γ : Nat → rHp), jn77 a g 3 (zAg (zNA a77_ 3) ρ) (γ 1) → zO 24 S a g q77a3_27 ρ γ → zGl (fun i vs g1 => jn77 a g i vs g1) (sn77 a g) q77a3_27 ρ γ := by
  intro ρ γ hJ h
  obtain ⟨ha, hg, hr, hf, hm, hc, hl⟩ := h
  have ha : a = [ρ 0, ρ 1, ρ 2, ρ 3, ρ 4, ρ 5, ρ 6, ρ 7, ρ 8, ρ 9, ρ 10, ρ 11, ρ 12, ρ 13, ρ 14, ρ 15, ρ 16, ρ 17, ρ 18, ρ 19, ρ 20, ρ 21, ρ 22, ρ 23] := ha
  subst ha
  subst hg
  have hJ : jn77 [ρ 0, ρ 1, ρ 2, ρ 3, ρ 4, ρ 5, ρ 6, ρ 7, ρ 8, ρ 9, ρ 10, ρ 11, ρ 12, ρ 13, ρ 14, ρ 15, ρ 16, ρ 17, ρ 18, ρ 19, ρ 20, ρ 21, ρ 22, ρ 23] (γ 0) 3 [ρ 0, ρ 1, ρ 2, ρ 3, ρ 4, ρ 5, ρ 6, ρ 7, ρ 8, ρ 9, ρ 10, ρ 11, ρ 12, ρ 13, ρ 14, ρ 15, ρ 16, ρ 17, ρ 18, ρ 19, ρ 20, ρ 21, ρ 22, ρ 23, ρ 24, ρ 25, ρ 26, ρ 27, ρ 28, ρ 29, ρ 30, ρ 31, ρ 32, ρ 33, ρ 34, ρ 35, ρ 36, ρ 37, ρ 38, ρ 39, ρ 40, ρ 41, ρ 42, ρ 43, ρ 44, ρ 45, ρ 46, ρ 47, ρ 48] (γ 1) := hJ
  have r25 : (0 : Int) ≤ ρ 25 ∧ ρ 25 ≤ 20 := zRnA hr 25
  have r50 : (13 : Int) ≤ ρ 50 ∧ ρ 50 ≤ 13 := zRnA hr 50
  have f0 : (0 : Int) ≤ -ρ 41 + ρ 25 + (-1) := zAllA hf 0
  have f1 : (0 : Int) ≤ -ρ 49 + ((-8) * ρ 26 + ρ 24) := zAllA hf 1
  obtain ⟨w_0, w_1, w_2, w_3, w_4, w_5, w_6, w_7, w_8, w_9, w_10, w_11, w_12, w_13, w_14, w_15, w_16⟩ : (ρ 24 ≥ ρ 49 + 8 * ρ 26) ∧ (ρ 25 ≤ 20) ∧ (¬ (0 ≤ -ρ 50)) ∧ (¬ (0 ≤ -ρ 50 + 1)) ∧ (¬ (0 ≤ -ρ 50 + 2)) ∧ (¬ (0 ≤ -ρ 50 + 3)) ∧ (¬ (0 ≤ -ρ 50 + 4)) ∧ (¬ (0 ≤ -ρ 50 + 5)) ∧ (¬ (0 ≤ -ρ 50 + 6)) ∧ (¬ (0 ≤ -ρ 50 + 7)) ∧ (¬ (0 ≤ -ρ 50 + 8)) ∧ (¬ (0 ≤ -ρ 50 + 9)) ∧ (¬ (0 ≤ -ρ 50 + 10)) ∧ (¬ (0 ≤ -ρ 50 + 11)) ∧ (¬ (0 ≤ -ρ 50 + 12)) ∧ (0 ≤ -ρ 50 + 13) ∧ (¬ (ρ 25 ≤ ρ 41)) := ⟨by omega, by omega, by omega, by omega, by omega, by omega, by omega, by omega, by omega, by omega, by omega, by omega, by omega, by omega, by omega, by omega, by omega⟩
  have m24 : γ 1 92 0 0 = ρ 28 := zAllA hm 24
  have m25 : γ 1 92 0 1 = ρ 29 := zAllA hm 25
  have m26 : γ 1 92 0 2 = ρ 30 := zAllA hm 26
  have m27 : γ 1 92 0 3 = ρ 31 := zAllA hm 27
  have m28 : γ 1 92 0 4 = ρ 32 := zAllA hm 28
  have m29 : γ 1 92 0 5 = ρ 33 := zAllA hm 29
  have m30 : γ 1 92 0 6 = ρ 34 := zAllA hm 30
  have m31 : γ 1 92 0 7 = ρ 35 := zAllA hm 31
  have m32 : γ 1 92 0 8 = ρ 36 := zAllA hm 32
  have m33 : γ 1 92 0 9 = ρ 37 := zAllA hm 33
  have m34 : γ 1 92 0 10 = ρ 38 := zAllA hm 34
  have m35 : γ 1 92 0 11 = ρ 39 := zAllA hm 35
  have m36 : γ 1 92 0 12 = ρ 40 := zAllA hm 36
  have m37 : γ 1 92 0 13 = ρ 41 := zAllA hm 37
  have m38 : γ 1 92 0 14 = ρ 42 := zAllA hm 38
  have m39 : γ 1 92 0 15 = ρ 43 := zAllA hm 39
  have m40 : γ 1 92 0 16 = ρ 44 := zAllA hm 40
  have m41 : γ 1 92 0 17 = ρ 45 := zAllA hm 41
  have m42 : γ 1 92 0 18 = ρ 46 := zAllA hm 42
  have m43 : γ 1 92 0 19 = ρ 47 := zAllA hm 43
  have m45 : γ 0 73 0 (ρ 26) = ρ 49 := zAllA hm 45
  have m46 : γ 0 69 0 (ρ 26) = ρ 50 := zAllA hm 46
  have c2 : γ 2 = rUp (γ 1) 92 0 (ρ 50) (ρ 25) := And.right (zChA hc 0)
  show jn77 [ρ 0, ρ 1, ρ 2, ρ 3, ρ 4, ρ 5, ρ 6, ρ 7, ρ 8, ρ 9, ρ 10, ρ 11, ρ 12, ρ 13, ρ 14, ρ 15, ρ 16, ρ 17, ρ 18, ρ 19, ρ 20, ρ 21, ρ 22, ρ 23] (γ 0) 2 [ρ 0, ρ 1, ρ 2, ρ 3, ρ 4, ρ 5, ρ 6, ρ 7, ρ 8, ρ 9, ρ 10, ρ 11, ρ 12, ρ 13, ρ 14, ρ 15, ρ 16, ρ 17, ρ 18, ρ 19, ρ 20, ρ 21, ρ 22, ρ 23, ρ 26 + 1, 1, ρ 28, ρ 29, ρ 30, ρ 31, ρ 32, ρ 33, ρ 34, ρ 35, ρ 36, ρ 37, ρ 38, ρ 39, ρ 40, ρ 25, ρ 42, ρ 43, ρ 44, ρ 45, ρ 46, ρ 47, ρ 48] (γ 2)
  have hD : en77 (γ 0) (3, [ρ 24, ρ 25, ρ 26, ρ 27], γ 1) = .inl (2, [ρ 26 + 1, 1], γ 2) := by
    unfold en77
    refine zIN (show ¬ (3 : Nat) = 0 by decide) (zIN (show ¬ (3 : Nat) = 1 by decide) (zIN (show ¬ (3 : Nat) = 2 by decide) (zIP (show (3 : Nat) = 3 by decide) (zLV (γ 1) rfl (zLV (ρ 24) rfl (zLV (ρ 25) rfl (zLV (ρ 26) rfl ?_)))))))
    refine zLV (ρ 27) rfl (zLE m24 (zLE m25 (zLE m26 (zLE m27 (zLE m28 (zLE m29 (zLE m30 ?_)))))))
    refine zLE m31 (zLE m32 (zLE m33 (zLE m34 (zLE m35 (zLE m36 (zLE m37 (zLE m38 ?_)))))))
    refine zLE m39 (zLE m40 (zLE m41 (zLE m42 (zLE m43 (zLE m45 (zIP w_0 (zIP w_1 ?_)))))))
    refine zLE m46 (zIN w_2 (zIN w_3 (zIN w_4 (zIN w_5 (zIN w_6 (zIN w_7 (zIN w_8 ?_)))))))
    refine zIN w_9 (zIN w_10 (zIN w_11 (zIN w_12 (zIN w_13 (zIN w_14 (zIP w_15 (zIN w_16 ?_)))))))
    refine zLE c2.symm ?_
    rfl
  exact zGoo_ato hJ hD
theorem vn77a3_28 {S : Nat → zSpc}  {a : List Int} {g : rHp} : ∀ (ρ : Nat → Int) (γ : Nat → rHp), jn77 a g 3 (zAg (zNA a77_ 3) ρ) (γ 1) → zO 24 S a g q77a3_28 ρ γ → zGl (fun i vs g1 => jn77 a g i vs g1) (sn77 a g) q77a3_28 ρ γ := by
  intro ρ γ hJ h
  obtain ⟨ha, hg, hr, hf, hm, hc, hl⟩ := h
  have ha : a = [ρ 0, ρ 1, ρ 2, ρ 3, ρ 4, ρ 5, ρ 6, ρ 7, ρ 8, ρ 9, ρ 10, ρ 11, ρ 12, ρ 13, ρ 14, ρ 15, ρ 16, ρ 17, ρ 18, ρ 19, ρ 20, ρ 21, ρ 22, ρ 23] := ha
  subst ha
  subst hg
  have hJ : jn77 [ρ 0, ρ 1, ρ 2, ρ 3, ρ 4, ρ 5, ρ 6, ρ 7, ρ 8, ρ 9, ρ 10, ρ 11, ρ 12, ρ 13, ρ 14, ρ 15, ρ 16, ρ 17, ρ 18, ρ 19, ρ 20, ρ 21, ρ 22, ρ 23] (γ 0) 3 [ρ 0, ρ 1, ρ 2, ρ 3, ρ 4, ρ 5, ρ 6, ρ 7, ρ 8, ρ 9, ρ 10, ρ 11, ρ 12, ρ 13, ρ 14, ρ 15, ρ 16, ρ 17, ρ 18, ρ 19, ρ 20, ρ 21, ρ 22, ρ 23, ρ 24, ρ 25, ρ 26, ρ 27, ρ 28, ρ 29, ρ 30, ρ 31, ρ 32, ρ 33, ρ 34, ρ 35, ρ 36, ρ 37, ρ 38, ρ 39, ρ 40, ρ 41, ρ 42, ρ 43, ρ 44, ρ 45, ρ 46, ρ 47, ρ 48] (γ 1) := hJ
  have r25 : (0 : Int) ≤ ρ 25 ∧ ρ 25 ≤ 20 := zRnA hr 25
  have r50 : (14 : Int) ≤ ρ 50 ∧ ρ 50 ≤ 14 := zRnA hr 50
  have f0 : (0 : Int) ≤ ρ 42 + -ρ 25 := zAllA hf 0
  have f1 : (0 : Int) ≤ -ρ 49 + ((-8) * ρ 26 + ρ 24) := zAllA hf 1
  obtain ⟨w_0, w_1, w_2, w_3, w_4, w_5, w_6, w_7, w_8, w_9, w_10, w_11, w_12, w_13, w_14, w_15, w_16, w_17⟩ : (ρ 24 ≥ ρ 49 + 8 * ρ 26) ∧ (ρ 25 ≤ 20) ∧ (¬ (0 ≤ -ρ 50)) ∧ (¬ (0 ≤ -ρ 50 + 1)) ∧ (¬ (0 ≤ -ρ 50 + 2)) ∧ (¬ (0 ≤ -ρ 50 + 3)) ∧ (¬ (0 ≤ -ρ 50 + 4)) ∧ (¬ (0 ≤ -ρ 50 + 5)) ∧ (¬ (0 ≤ -ρ 50 + 6)) ∧ (¬ (0 ≤ -ρ 50 + 7)) ∧ (¬ (0 ≤ -ρ 50 + 8)) ∧ (¬ (0 ≤ -ρ 50 + 9)) ∧ (¬ (0 ≤ -ρ 50 + 10)) ∧ (¬ (0 ≤ -ρ 50 + 11)) ∧ (¬ (0 ≤ -ρ 50 + 12)) ∧ (¬ (0 ≤ -ρ 50 + 13)) ∧ (0 ≤ -ρ 50 + 14) ∧ (ρ 25 ≤ ρ 42) := ⟨by omega, by omega, by omega, by omega, by omega, by omega, by omega, by omega, by omega, by omega, by omega, by omega, by omega, by omega, by omega, by omega, by omega, by omega⟩
  have m24 : γ 1 92 0 0 = ρ 28 := zAllA hm 24
  have m25 : γ 1 92 0 1 = ρ 29 := zAllA hm 25
  have m26 : γ 1 92 0 2 = ρ 30 := zAllA hm 26
  have m27 : γ 1 92 0 3 = ρ 31 := zAllA hm 27
  have m28 : γ 1 92 0 4 = ρ 32 := zAllA hm 28
  have m29 : γ 1 92 0 5 = ρ 33 := zAllA hm 29
  have m30 : γ 1 92 0 6 = ρ 34 := zAllA hm 30
  have m31 : γ 1 92 0 7 = ρ 35 := zAllA hm 31
  have m32 : γ 1 92 0 8 = ρ 36 := zAllA hm 32
  have m33 : γ 1 92 0 9 = ρ 37 := zAllA hm 33
  have m34 : γ 1 92 0 10 = ρ 38 := zAllA hm 34
  have m35 : γ 1 92 0 11 = ρ 39 := zAllA hm 35
  have m36 : γ 1 92 0 12 = ρ 40 := zAllA hm 36
  have m37 : γ 1 92 0 13 = ρ 41 := zAllA hm 37
  have m38 : γ 1 92 0 14 = ρ 42 := zAllA hm 38
  have m39 : γ 1 92 0 15 = ρ 43 := zAllA hm 39
  have m40 : γ 1 92 0 16 = ρ 44 := zAllA hm 40
  have m41 : γ 1 92 0 17 = ρ 45 := zAllA hm 41
  have m42 : γ 1 92 0 18 = ρ 46 := zAllA hm 42
  have m43 : γ 1 92 0 19 = ρ 47 := zAllA hm 43
  have m45 : γ 0 73 0 (ρ 26) = ρ 49 := zAllA hm 45
  have m46 : γ 0 69 0 (ρ 26) = ρ 50 := zAllA hm 46
  show jn77 [ρ 0, ρ 1, ρ 2, ρ 3, ρ 4, ρ 5, ρ 6, ρ 7, ρ 8, ρ 9, ρ 10, ρ 11, ρ 12, ρ 13, ρ 14, ρ 15, ρ 16, ρ 17, ρ 18, ρ 19, ρ 20, ρ 21, ρ 22, ρ 23] (γ 0) 2 [ρ 0, ρ 1, ρ 2, ρ 3, ρ 4, ρ 5, ρ 6, ρ 7, ρ 8, ρ 9, ρ 10, ρ 11, ρ 12, ρ 13, ρ 14, ρ 15, ρ 16, ρ 17, ρ 18, ρ 19, ρ 20, ρ 21, ρ 22, ρ 23, ρ 26 + 1, ρ 27, ρ 28, ρ 29, ρ 30, ρ 31, ρ 32, ρ 33, ρ 34, ρ 35, ρ 36, ρ 37, ρ 38, ρ 39, ρ 40, ρ 41, ρ 42, ρ 43, ρ 44, ρ 45, ρ 46, ρ 47, ρ 48] (γ 1)
  have hD : en77 (γ 0) (3, [ρ 24, ρ 25, ρ 26, ρ 27], γ 1) = .inl (2, [ρ 26 + 1, ρ 27], γ 1) := by
    unfold en77
    refine zIN (show ¬ (3 : Nat) = 0 by decide) (zIN (show ¬ (3 : Nat) = 1 by decide) (zIN (show ¬ (3 : Nat) = 2 by decide) (zIP (show (3 : Nat) = 3 by decide) (zLV (γ 1) rfl (zLV (ρ 24) rfl (zLV (ρ 25) rfl (zLV (ρ 26) rfl ?_)))))))
    refine zLV (ρ 27) rfl (zLE m24 (zLE m25 (zLE m26 (zLE m27 (zLE m28 (zLE m29 (zLE m30 ?_)))))))
    refine zLE m31 (zLE m32 (zLE m33 (zLE m34 (zLE m35 (zLE m36 (zLE m37 (zLE m38 ?_)))))))
    refine zLE m39 (zLE m40 (zLE m41 (zLE m42 (zLE m43 (zLE m45 (zIP w_0 (zIP w_1 ?_)))))))
    refine zLE m46 (zIN w_2 (zIN w_3 (zIN w_4 (zIN w_5 (zIN w_6 (zIN w_7 (zIN w_8 ?_)))))))
    refine zIN w_9 (zIN w_10 (zIN w_11 (zIN w_12 (zIN w_13 (zIN w_14 (zIN w_15 (zIP w_16 ?_)))))))
    refine zIP w_17 ?_
    rfl
  exact zGoo_ato hJ hD
theorem vn77a3_29 {S : Nat → zSpc}  {a : List Int} {g : rHp} : ∀ (ρ : Nat → Int) (γ : Nat → rHp), jn77 a g 3 (zAg (zNA a77_ 3) ρ) (γ 1) → zO 24 S a g q77a3_29 ρ γ → zGl (fun i vs g1 => jn77 a g i vs g1) (sn77 a g) q77a3_29 ρ γ := by
  intro ρ γ hJ h
  obtain ⟨ha, hg, hr, hf, hm, hc, hl⟩ := h
  have ha : a = [ρ 0, ρ 1, ρ 2, ρ 3, ρ 4, ρ 5, ρ 6, ρ 7, ρ 8, ρ 9, ρ 10, ρ 11, ρ 12, ρ 13, ρ 14, ρ 15, ρ 16, ρ 17, ρ 18, ρ 19, ρ 20, ρ 21, ρ 22, ρ 23] := ha
  subst ha
  subst hg
  have hJ : jn77 [ρ 0, ρ 1, ρ 2, ρ 3, ρ 4, ρ 5, ρ 6, ρ 7, ρ 8, ρ 9, ρ 10, ρ 11, ρ 12, ρ 13, ρ 14, ρ 15, ρ 16, ρ 17, ρ 18, ρ 19, ρ 20, ρ 21, ρ 22, ρ 23] (γ 0) 3 [ρ 0, ρ 1, ρ 2, ρ 3, ρ 4, ρ 5, ρ 6, ρ 7, ρ 8, ρ 9, ρ 10, ρ 11, ρ 12, ρ 13, ρ 14, ρ 15, ρ 16, ρ 17, ρ 18, ρ 19, ρ 20, ρ 21, ρ 22, ρ 23, ρ 24, ρ 25, ρ 26, ρ 27, ρ 28, ρ 29, ρ 30, ρ 31, ρ 32, ρ 33, ρ 34, ρ 35, ρ 36, ρ 37, ρ 38, ρ 39, ρ 40, ρ 41, ρ 42, ρ 43, ρ 44, ρ 45, ρ 46, ρ 47, ρ 48] (γ 1) := hJ
  have r25 : (0 : Int) ≤ ρ 25 ∧ ρ 25 ≤ 20 := zRnA hr 25
  have r50 : (14 : Int) ≤ ρ 50 ∧ ρ 50 ≤ 14 := zRnA hr 50
  have f0 : (0 : Int) ≤ -ρ 42 + ρ 25 + (-1) := zAllA hf 0
  have f1 : (0 : Int) ≤ -ρ 49 + ((-8) * ρ 26 + ρ 24) := zAllA hf 1
  obtain ⟨w_0, w_1, w_2, w_3, w_4, w_5, w_6, w_7, w_8, w_9, w_10, w_11, w_12, w_13, w_14, w_15, w_16, w_17⟩ : (ρ 24 ≥ ρ 49 + 8 * ρ 26) ∧ (ρ 25 ≤ 20) ∧ (¬ (0 ≤ -ρ 50)) ∧ (¬ (0 ≤ -ρ 50 + 1)) ∧ (¬ (0 ≤ -ρ 50 + 2)) ∧ (¬ (0 ≤ -ρ 50 + 3)) ∧ (¬ (0 ≤ -ρ 50 + 4)) ∧ (¬ (0 ≤ -ρ 50 + 5)) ∧ (¬ (0 ≤ -ρ 50 + 6)) ∧ (¬ (0 ≤ -ρ 50 + 7)) ∧ (¬ (0 ≤ -ρ 50 + 8)) ∧ (¬ (0 ≤ -ρ 50 + 9)) ∧ (¬ (0 ≤ -ρ 50 + 10)) ∧ (¬ (0 ≤ -ρ 50 + 11)) ∧ (¬ (0 ≤ -ρ 50 + 12)) ∧ (¬ (0 ≤ -ρ 50 + 13)) ∧ (0 ≤ -ρ 50 + 14) ∧ (¬ (ρ 25 ≤ ρ 42)) := ⟨by omega, by omega, by omega, by omega, by omega, by omega, by omega, by omega, by omega, by omega, by omega, by omega, by omega, by omega, by omega, by omega, by omega, by omega⟩
  have m24 : γ 1 92 0 0 = ρ 28 := zAllA hm 24
  have m25 : γ 1 92 0 1 = ρ 29 := zAllA hm 25
  have m26 : γ 1 92 0 2 = ρ 30 := zAllA hm 26
  have m27 : γ 1 92 0 3 = ρ 31 := zAllA hm 27
  have m28 : γ 1 92 0 4 = ρ 32 := zAllA hm 28
  have m29 : γ 1 92 0 5 = ρ 33 := zAllA hm 29
  have m30 : γ 1 92 0 6 = ρ 34 := zAllA hm 30
  have m31 : γ 1 92 0 7 = ρ 35 := zAllA hm 31
  have m32 : γ 1 92 0 8 = ρ 36 := zAllA hm 32
  have m33 : γ 1 92 0 9 = ρ 37 := zAllA hm 33
  have m34 : γ 1 92 0 10 = ρ 38 := zAllA hm 34
  have m35 : γ 1 92 0 11 = ρ 39 := zAllA hm 35
  have m36 : γ 1 92 0 12 = ρ 40 := zAllA hm 36
  have m37 : γ 1 92 0 13 = ρ 41 := zAllA hm 37
  have m38 : γ 1 92 0 14 = ρ 42 := zAllA hm 38
  have m39 : γ 1 92 0 15 = ρ 43 := zAllA hm 39
  have m40 : γ 1 92 0 16 = ρ 44 := zAllA hm 40
  have m41 : γ 1 92 0 17 = ρ 45 := zAllA hm 41
  have m42 : γ 1 92 0 18 = ρ 46 := zAllA hm 42
  have m43 : γ 1 92 0 19 = ρ 47 := zAllA hm 43
  have m45 : γ 0 73 0 (ρ 26) = ρ 49 := zAllA hm 45
  have m46 : γ 0 69 0 (ρ 26) = ρ 50 := zAllA hm 46
  have c2 : γ 2 = rUp (γ 1) 92 0 (ρ 50) (ρ 25) := And.right (zChA hc 0)
  show jn77 [ρ 0, ρ 1, ρ 2, ρ 3, ρ 4, ρ 5, ρ 6, ρ 7, ρ 8, ρ 9, ρ 10, ρ 11, ρ 12, ρ 13, ρ 14, ρ 15, ρ 16, ρ 17, ρ 18, ρ 19, ρ 20, ρ 21, ρ 22, ρ 23] (γ 0) 2 [ρ 0, ρ 1, ρ 2, ρ 3, ρ 4, ρ 5, ρ 6, ρ 7, ρ 8, ρ 9, ρ 10, ρ 11, ρ 12, ρ 13, ρ 14, ρ 15, ρ 16, ρ 17, ρ 18, ρ 19, ρ 20, ρ 21, ρ 22, ρ 23, ρ 26 + 1, 1, ρ 28, ρ 29, ρ 30, ρ 31, ρ 32, ρ 33, ρ 34, ρ 35, ρ 36, ρ 37, ρ 38, ρ 39, ρ 40, ρ 41, ρ 25, ρ 43, ρ 44, ρ 45, ρ 46, ρ 47, ρ 48] (γ 2)
  have hD : en77 (γ 0) (3, [ρ 24, ρ 25, ρ 26, ρ 27], γ 1) = .inl (2, [ρ 26 + 1, 1], γ 2) := by
    unfold en77
    refine zIN (show ¬ (3 : Nat) = 0 by decide) (zIN (show ¬ (3 : Nat) = 1 by decide) (zIN (show ¬ (3 : Nat) = 2 by decide) (zIP (show (3 : Nat) = 3 by decide) (zLV (γ 1) rfl (zLV (ρ 24) rfl (zLV (ρ 25) rfl (zLV (ρ 26) rfl ?_)))))))
    refine zLV (ρ 27) rfl (zLE m24 (zLE m25 (zLE m26 (zLE m27 (zLE m28 (zLE m29 (zLE m30 ?_)))))))
    refine zLE m31 (zLE m32 (zLE m33 (zLE m34 (zLE m35 (zLE m36 (zLE m37 (zLE m38 ?_)))))))
    refine zLE m39 (zLE m40 (zLE m41 (zLE m42 (zLE m43 (zLE m45 (zIP w_0 (zIP w_1 ?_)))))))
    refine zLE m46 (zIN w_2 (zIN w_3 (zIN w_4 (zIN w_5 (zIN w_6 (zIN w_7 (zIN w_8 ?_)))))))
    refine zIN w_9 (zIN w_10 (zIN w_11 (zIN w_12 (zIN w_13 (zIN w_14 (zIN w_15 (zIP w_16 ?_)))))))
    refine zIN w_17 (zLE c2.symm ?_)
    rfl
  exact zGoo_ato hJ hD
theorem vn77a3_30 {S : Nat → zSpc}  {a : List Int} {g : rHp} : ∀ (ρ : Nat → Int) (γ : Nat → rHp), jn77 a g 3 (zAg (zNA a77_ 3) ρ) (γ 1) → zO 24 S a g q77a3_30 ρ γ → zGl (fun i vs g1 => jn77 a g i vs g1) (sn77 a g) q77a3_30 ρ γ := by
  intro ρ γ hJ h
  obtain ⟨ha, hg, hr, hf, hm, hc, hl⟩ := h
  have ha : a = [ρ 0, ρ 1, ρ 2, ρ 3, ρ 4, ρ 5, ρ 6, ρ 7, ρ 8, ρ 9, ρ 10, ρ 11, ρ 12, ρ 13, ρ 14, ρ 15, ρ 16, ρ 17, ρ 18, ρ 19, ρ 20, ρ 21, ρ 22, ρ 23] := ha
  subst ha
  subst hg
  have hJ : jn77 [ρ 0, ρ 1, ρ 2, ρ 3, ρ 4, ρ 5, ρ 6, ρ 7, ρ 8, ρ 9, ρ 10, ρ 11, ρ 12, ρ 13, ρ 14, ρ 15, ρ 16, ρ 17, ρ 18, ρ 19, ρ 20, ρ 21, ρ 22, ρ 23] (γ 0) 3 [ρ 0, ρ 1, ρ 2, ρ 3, ρ 4, ρ 5, ρ 6, ρ 7, ρ 8, ρ 9, ρ 10, ρ 11, ρ 12, ρ 13, ρ 14, ρ 15, ρ 16, ρ 17, ρ 18, ρ 19, ρ 20, ρ 21, ρ 22, ρ 23, ρ 24, ρ 25, ρ 26, ρ 27, ρ 28, ρ 29, ρ 30, ρ 31, ρ 32, ρ 33, ρ 34, ρ 35, ρ 36, ρ 37, ρ 38, ρ 39, ρ 40, ρ 41, ρ 42, ρ 43, ρ 44, ρ 45, ρ 46, ρ 47, ρ 48] (γ 1) := hJ
  have r25 : (0 : Int) ≤ ρ 25 ∧ ρ 25 ≤ 20 := zRnA hr 25
  have r50 : (15 : Int) ≤ ρ 50 ∧ ρ 50 ≤ 15 := zRnA hr 50
  have f0 : (0 : Int) ≤ ρ 43 + -ρ 25 := zAllA hf 0
  have f1 : (0 : Int) ≤ -ρ 49 + ((-8) * ρ 26 + ρ 24) := zAllA hf 1
  obtain ⟨w_0, w_1, w_2, w_3, w_4, w_5, w_6, w_7, w_8, w_9, w_10, w_11, w_12, w_13, w_14, w_15, w_16, w_17, w_18⟩ : (ρ 24 ≥ ρ 49 + 8 * ρ 26) ∧ (ρ 25 ≤ 20) ∧ (¬ (0 ≤ -ρ 50)) ∧ (¬ (0 ≤ -ρ 50 + 1)) ∧ (¬ (0 ≤ -ρ 50 + 2)) ∧ (¬ (0 ≤ -ρ 50 + 3)) ∧ (¬ (0 ≤ -ρ 50 + 4)) ∧ (¬ (0 ≤ -ρ 50 + 5)) ∧ (¬ (0 ≤ -ρ 50 + 6)) ∧ (¬ (0 ≤ -ρ 50 + 7)) ∧ (¬ (0 ≤ -ρ 50 + 8)) ∧ (¬ (0 ≤ -ρ 50 + 9)) ∧ (¬ (0 ≤ -ρ 50 + 10)) ∧ (¬ (0 ≤ -ρ 50 + 11)) ∧ (¬ (0 ≤ -ρ 50 + 12)) ∧ (¬ (0 ≤ -ρ 50 + 13)) ∧ (¬ (0 ≤ -ρ 50 + 14)) ∧ (0 ≤ -ρ 50 + 15) ∧ (ρ 25 ≤ ρ 43) := ⟨by omega, by omega, by omega, by omega, by omega, by omega, by omega, by omega, by omega, by omega, by omega, by omega, by omega, by omega, by omega, by omega, by omega, by omega, by omega⟩
  have m24 : γ 1 92 0 0 = ρ 28 := zAllA hm 24
  have m25 : γ 1 92 0 1 = ρ 29 := zAllA hm 25
  have m26 : γ 1 92 0 2 = ρ 30 := zAllA hm 26
  have m27 : γ 1 92 0 3 = ρ 31 := zAllA hm 27
  have m28 : γ 1 92 0 4 = ρ 32 := zAllA hm 28
  have m29 : γ 1 92 0 5 = ρ 33 := zAllA hm 29
  have m30 : γ 1 92 0 6 = ρ 34 := zAllA hm 30
  have m31 : γ 1 92 0 7 = ρ 35 := zAllA hm 31
  have m32 : γ 1 92 0 8 = ρ 36 := zAllA hm 32
  have m33 : γ 1 92 0 9 = ρ 37 := zAllA hm 33
  have m34 : γ 1 92 0 10 = ρ 38 := zAllA hm 34
  have m35 : γ 1 92 0 11 = ρ 39 := zAllA hm 35
  have m36 : γ 1 92 0 12 = ρ 40 := zAllA hm 36
  have m37 : γ 1 92 0 13 = ρ 41 := zAllA hm 37
  have m38 : γ 1 92 0 14 = ρ 42 := zAllA hm 38
  have m39 : γ 1 92 0 15 = ρ 43 := zAllA hm 39
  have m40 : γ 1 92 0 16 = ρ 44 := zAllA hm 40
  have m41 : γ 1 92 0 17 = ρ 45 := zAllA hm 41
  have m42 : γ 1 92 0 18 = ρ 46 := zAllA hm 42
  have m43 : γ 1 92 0 19 = ρ 47 := zAllA hm 43
  have m45 : γ 0 73 0 (ρ 26) = ρ 49 := zAllA hm 45
  have m46 : γ 0 69 0 (ρ 26) = ρ 50 := zAllA hm 46
  show jn77 [ρ 0, ρ 1, ρ 2, ρ 3, ρ 4, ρ 5, ρ 6, ρ 7, ρ 8, ρ 9, ρ 10, ρ 11, ρ 12, ρ 13, ρ 14, ρ 15, ρ 16, ρ 17, ρ 18, ρ 19, ρ 20, ρ 21, ρ 22, ρ 23] (γ 0) 2 [ρ 0, ρ 1, ρ 2, ρ 3, ρ 4, ρ 5, ρ 6, ρ 7, ρ 8, ρ 9, ρ 10, ρ 11, ρ 12, ρ 13, ρ 14, ρ 15, ρ 16, ρ 17, ρ 18, ρ 19, ρ 20, ρ 21, ρ 22, ρ 23, ρ 26 + 1, ρ 27, ρ 28, ρ 29, ρ 30, ρ 31, ρ 32, ρ 33, ρ 34, ρ 35, ρ 36, ρ 37, ρ 38, ρ 39, ρ 40, ρ 41, ρ 42, ρ 43, ρ 44, ρ 45, ρ 46, ρ 47, ρ 48] (γ 1)
  have hD : en77 (γ 0) (3, [ρ 24, ρ 25, ρ 26, ρ 27], γ 1) = .inl (2, [ρ 26 + 1, ρ 27], γ 1) := by
    unfold en77
    refine zIN (show ¬ (3 : Nat) = 0 by decide) (zIN (show ¬ (3 : Nat) = 1 by decide) (zIN (show ¬ (3 : Nat) = 2 by decide) (zIP (show (3 : Nat) = 3 by decide) (zLV (γ 1) rfl (zLV (ρ 24) rfl (zLV (ρ 25) rfl (zLV (ρ 26) rfl ?_)))))))
    refine zLV (ρ 27) rfl (zLE m24 (zLE m25 (zLE m26 (zLE m27 (zLE m28 (zLE m29 (zLE m30 ?_)))))))
    refine zLE m31 (zLE m32 (zLE m33 (zLE m34 (zLE m35 (zLE m36 (zLE m37 (zLE m38 ?_)))))))
    refine zLE m39 (zLE m40 (zLE m41 (zLE m42 (zLE m43 (zLE m45 (zIP w_0 (zIP w_1 ?_)))))))
    refine zLE m46 (zIN w_2 (zIN w_3 (zIN w_4 (zIN w_5 (zIN w_6 (zIN w_7 (zIN w_8 ?_)))))))
    refine zIN w_9 (zIN w_10 (zIN w_11 (zIN w_12 (zIN w_13 (zIN w_14 (zIN w_15 (zIN w_16 ?_)))))))
    refine zIP w_17 (zIP w_18 ?_)
    rfl
  exact zGoo_ato hJ hD
theorem vn77a3_31 {S : Nat → zSpc}  {a : List Int} {g : rHp} : ∀ (ρ : Nat → Int) (γ : Nat → rHp), jn77 a g 3 (zAg (zNA a77_ 3) ρ) (γ 1) → zO 24 S a g q77a3_31 ρ γ → zGl (fun i vs g1 => jn77 a g i vs g1) (sn77 a g) q77a3_31 ρ γ := by
  intro ρ γ hJ h
  obtain ⟨ha, hg, hr, hf, hm, hc, hl⟩ := h
  have ha : a = [ρ 0, ρ 1, ρ 2, ρ 3, ρ 4, ρ 5, ρ 6, ρ 7, ρ 8, ρ 9, ρ 10, ρ 11, ρ 12, ρ 13, ρ 14, ρ 15, ρ 16, ρ 17, ρ 18, ρ 19, ρ 20, ρ 21, ρ 22, ρ 23] := ha
  subst ha
  subst hg
  have hJ : jn77 [ρ 0, ρ 1, ρ 2, ρ 3, ρ 4, ρ 5, ρ 6, ρ 7, ρ 8, ρ 9, ρ 10, ρ 11, ρ 12, ρ 13, ρ 14, ρ 15, ρ 16, ρ 17, ρ 18, ρ 19, ρ 20, ρ 21, ρ 22, ρ 23] (γ 0) 3 [ρ 0, ρ 1, ρ 2, ρ 3, ρ 4, ρ 5, ρ 6, ρ 7, ρ 8, ρ 9, ρ 10, ρ 11, ρ 12, ρ 13, ρ 14, ρ 15, ρ 16, ρ 17, ρ 18, ρ 19, ρ 20, ρ 21, ρ 22, ρ 23, ρ 24, ρ 25, ρ 26, ρ 27, ρ 28, ρ 29, ρ 30, ρ 31, ρ 32, ρ 33, ρ 34, ρ 35, ρ 36, ρ 37, ρ 38, ρ 39, ρ 40, ρ 41, ρ 42, ρ 43, ρ 44, ρ 45, ρ 46, ρ 47, ρ 48] (γ 1) := hJ
  have r25 : (0 : Int) ≤ ρ 25 ∧ ρ 25 ≤ 20 := zRnA hr 25
  have r50 : (15 : Int) ≤ ρ 50 ∧ ρ 50 ≤ 15 := zRnA hr 50
  have f0 : (0 : Int) ≤ -ρ 43 + ρ 25 + (-1) := zAllA hf 0
  have f1 : (0 : Int) ≤ -ρ 49 + ((-8) * ρ 26 + ρ 24) := zAllA hf 1
  obtain ⟨w_0, w_1, w_2, w_3, w_4, w_5, w_6, w_7, w_8, w_9, w_10, w_11, w_12, w_13, w_14, w_15, w_16, w_17, w_18⟩ : (ρ 24 ≥ ρ 49 + 8 * ρ 26) ∧ (ρ 25 ≤ 20) ∧ (¬ (0 ≤ -ρ 50)) ∧ (¬ (0 ≤ -ρ 50 + 1)) ∧ (¬ (0 ≤ -ρ 50 + 2)) ∧ (¬ (0 ≤ -ρ 50 + 3)) ∧ (¬ (0 ≤ -ρ 50 + 4)) ∧ (¬ (0 ≤ -ρ 50 + 5)) ∧ (¬ (0 ≤ -ρ 50 + 6)) ∧ (¬ (0 ≤ -ρ 50 + 7)) ∧ (¬ (0 ≤ -ρ 50 + 8)) ∧ (¬ (0 ≤ -ρ 50 + 9)) ∧ (¬ (0 ≤ -ρ 50 + 10)) ∧ (¬ (0 ≤ -ρ 50 + 11)) ∧ (¬ (0 ≤ -ρ 50 + 12)) ∧ (¬ (0 ≤ -ρ 50 + 13)) ∧ (¬ (0 ≤ -ρ 50 + 14)) ∧ (0 ≤ -ρ 50 + 15) ∧ (¬ (ρ 25 ≤ ρ 43)) := ⟨by omega, by omega, by omega, by omega, by omega, by omega, by omega, by omega, by omega, by omega, by omega, by omega, by omega, by omega, by omega, by omega, by omega, by omega, by omega⟩
  have m24 : γ 1 92 0 0 = ρ 28 := zAllA hm 24
  have m25 : γ 1 92 0 1 = ρ 29 := zAllA hm 25
  have m26 : γ 1 92 0 2 = ρ 30 := zAllA hm 26
  have m27 : γ 1 92 0 3 = ρ 31 := zAllA hm 27
  have m28 : γ 1 92 0 4 = ρ 32 := zAllA hm 28
  have m29 : γ 1 92 0 5 = ρ 33 := zAllA hm 29
  have m30 : γ 1 92 0 6 = ρ 34 := zAllA hm 30
  have m31 : γ 1 92 0 7 = ρ 35 := zAllA hm 31
  have m32 : γ 1 92 0 8 = ρ 36 := zAllA hm 32
  have m33 : γ 1 92 0 9 = ρ 37 := zAllA hm 33
  have m34 : γ 1 92 0 10 = ρ 38 := zAllA hm 34
  have m35 : γ 1 92 0 11 = ρ 39 := zAllA hm 35
  have m36 : γ 1 92 0 12 = ρ 40 := zAllA hm 36
  have m37 : γ 1 92 0 13 = ρ 41 := zAllA hm 37
  have m38 : γ 1 92 0 14 = ρ 42 := zAllA hm 38
  have m39 : γ 1 92 0 15 = ρ 43 := zAllA hm 39
  have m40 : γ 1 92 0 16 = ρ 44 := zAllA hm 40
  have m41 : γ 1 92 0 17 = ρ 45 := zAllA hm 41
  have m42 : γ 1 92 0 18 = ρ 46 := zAllA hm 42
  have m43 : γ 1 92 0 19 = ρ 47 := zAllA hm 43
  have m45 : γ 0 73 0 (ρ 26) = ρ 49 := zAllA hm 45
  have m46 : γ 0 69 0 (ρ 26) = ρ 50 := zAllA hm 46
  have c2 : γ 2 = rUp (γ 1) 92 0 (ρ 50) (ρ 25) := And.right (zChA hc 0)
  show jn77 [ρ 0, ρ 1, ρ 2, ρ 3, ρ 4, ρ 5, ρ 6, ρ 7, ρ 8, ρ 9, ρ 10, ρ 11, ρ 12, ρ 13, ρ 14, ρ 15, ρ 16, ρ 17, ρ 18, ρ 19, ρ 20, ρ 21, ρ 22, ρ 23] (γ 0) 2 [ρ 0, ρ 1, ρ 2, ρ 3, ρ 4, ρ 5, ρ 6, ρ 7, ρ 8, ρ 9, ρ 10, ρ 11, ρ 12, ρ 13, ρ 14, ρ 15, ρ 16, ρ 17, ρ 18, ρ 19, ρ 20, ρ 21, ρ 22, ρ 23, ρ 26 + 1, 1, ρ 28, ρ 29, ρ 30, ρ 31, ρ 32, ρ 33, ρ 34, ρ 35, ρ 36, ρ 37, ρ 38, ρ 39, ρ 40, ρ 41, ρ 42, ρ 25, ρ 44, ρ 45, ρ 46, ρ 47, ρ 48] (γ 2)
  have hD : en77 (γ 0) (3, [ρ 24, ρ 25, ρ 26, ρ 27], γ 1) = .inl (2, [ρ 26 + 1, 1], γ 2) := by
    unfold en77
    refine zIN (show ¬ (3 : Nat) = 0 by decide) (zIN (show ¬ (3 : Nat) = 1 by decide) (zIN (show ¬ (3 : Nat) = 2 by decide) (zIP (show (3 : Nat) = 3 by decide) (zLV (γ 1) rfl (zLV (ρ 24) rfl (zLV (ρ 25) rfl (zLV (ρ 26) rfl ?_)))))))
    refine zLV (ρ 27) rfl (zLE m24 (zLE m25 (zLE m26 (zLE m27 (zLE m28 (zLE m29 (zLE m30 ?_)))))))
    refine zLE m31 (zLE m32 (zLE m33 (zLE m34 (zLE m35 (zLE m36 (zLE m37 (zLE m38 ?_)))))))
    refine zLE m39 (zLE m40 (zLE m41 (zLE m42 (zLE m43 (zLE m45 (zIP w_0 (zIP w_1 ?_)))))))
    refine zLE m46 (zIN w_2 (zIN w_3 (zIN w_4 (zIN w_5 (zIN w_6 (zIN w_7 (zIN w_8 ?_)))))))
    refine zIN w_9 (zIN w_10 (zIN w_11 (zIN w_12 (zIN w_13 (zIN w_14 (zIN w_15 (zIN w_16 ?_)))))))
    refine zIP w_17 (zIN w_18 (zLE c2.symm ?_))
    rfl
  exact zGoo_ato hJ hD
theorem vn77a3_32 {S : Nat → zSpc}  {a : List Int} {g : rHp} : ∀ (ρ : Nat → Int) (γ : Nat → rHp), jn77 a g 3 (zAg (zNA a77_ 3) ρ) (γ 1) → zO 24 S a g q77a3_32 ρ γ → zGl (fun i vs g1 => jn77 a g i vs g1) (sn77 a g) q77a3_32 ρ γ := by
  intro ρ γ hJ h
  obtain ⟨ha, hg, hr, hf, hm, hc, hl⟩ := h
  have ha : a = [ρ 0, ρ 1, ρ 2, ρ 3, ρ 4, ρ 5, ρ 6, ρ 7, ρ 8, ρ 9, ρ 10, ρ 11, ρ 12, ρ 13, ρ 14, ρ 15, ρ 16, ρ 17, ρ 18, ρ 19, ρ 20, ρ 21, ρ 22, ρ 23] := ha
  subst ha
  subst hg
  have hJ : jn77 [ρ 0, ρ 1, ρ 2, ρ 3, ρ 4, ρ 5, ρ 6, ρ 7, ρ 8, ρ 9, ρ 10, ρ 11, ρ 12, ρ 13, ρ 14, ρ 15, ρ 16, ρ 17, ρ 18, ρ 19, ρ 20, ρ 21, ρ 22, ρ 23] (γ 0) 3 [ρ 0, ρ 1, ρ 2, ρ 3, ρ 4, ρ 5, ρ 6, ρ 7, ρ 8, ρ 9, ρ 10, ρ 11, ρ 12, ρ 13, ρ 14, ρ 15, ρ 16, ρ 17, ρ 18, ρ 19, ρ 20, ρ 21, ρ 22, ρ 23, ρ 24, ρ 25, ρ 26, ρ 27, ρ 28, ρ 29, ρ 30, ρ 31, ρ 32, ρ 33, ρ 34, ρ 35, ρ 36, ρ 37, ρ 38, ρ 39, ρ 40, ρ 41, ρ 42, ρ 43, ρ 44, ρ 45, ρ 46, ρ 47, ρ 48] (γ 1) := hJ
  have r25 : (0 : Int) ≤ ρ 25 ∧ ρ 25 ≤ 20 := zRnA hr 25
  have r50 : (16 : Int) ≤ ρ 50 ∧ ρ 50 ≤ 16 := zRnA hr 50
  have f0 : (0 : Int) ≤ ρ 44 + -ρ 25 := zAllA hf 0
  have f1 : (0 : Int) ≤ -ρ 49 + ((-8) * ρ 26 + ρ 24) := zAllA hf 1
  obtain ⟨w_0, w_1, w_2, w_3, w_4, w_5, w_6, w_7, w_8, w_9, w_10, w_11, w_12, w_13, w_14, w_15, w_16, w_17, w_18, w_19⟩ : (ρ 24 ≥ ρ 49 + 8 * ρ 26) ∧ (ρ 25 ≤ 20) ∧ (¬ (0 ≤ -ρ 50)) ∧ (¬ (0 ≤ -ρ 50 + 1)) ∧ (¬ (0 ≤ -ρ 50 + 2)) ∧ (¬ (0 ≤ -ρ 50 + 3)) ∧ (¬ (0 ≤ -ρ 50 + 4)) ∧ (¬ (0 ≤ -ρ 50 + 5)) ∧ (¬ (0 ≤ -ρ 50 + 6)) ∧ (¬ (0 ≤ -ρ 50 + 7)) ∧ (¬ (0 ≤ -ρ 50 + 8)) ∧ (¬ (0 ≤ -ρ 50 + 9)) ∧ (¬ (0 ≤ -ρ 50 + 10)) ∧ (¬ (0 ≤ -ρ 50 + 11)) ∧ (¬ (0 ≤ -ρ 50 + 12)) ∧ (¬ (0 ≤ -ρ 50 + 13)) ∧ (¬ (0 ≤ -ρ 50 + 14)) ∧ (¬ (0 ≤ -ρ 50 + 15)) ∧ (0 ≤ -ρ 50 + 16) ∧ (ρ 25 ≤ ρ 44) := ⟨by omega, by omega, by omega, by omega, by omega, by omega, by omega, by omega, by omega, by omega, by omega, by omega, by omega, by omega, by omega, by omega, by omega, by omega, by omega, by omega⟩
  have m24 : γ 1 92 0 0 = ρ 28 := zAllA hm 24
  have m25 : γ 1 92 0 1 = ρ 29 := zAllA hm 25
  have m26 : γ 1 92 0 2 = ρ 30 := zAllA hm 26
  have m27 : γ 1 92 0 3 = ρ 31 := zAllA hm 27
  have m28 : γ 1 92 0 4 = ρ 32 := zAllA hm 28
  have m29 : γ 1 92 0 5 = ρ 33 := zAllA hm 29
  have m30 : γ 1 92 0 6 = ρ 34 := zAllA hm 30
  have m31 : γ 1 92 0 7 = ρ 35 := zAllA hm 31
  have m32 : γ 1 92 0 8 = ρ 36 := zAllA hm 32
  have m33 : γ 1 92 0 9 = ρ 37 := zAllA hm 33
  have m34 : γ 1 92 0 10 = ρ 38 := zAllA hm 34
  have m35 : γ 1 92 0 11 = ρ 39 := zAllA hm 35
  have m36 : γ 1 92 0 12 = ρ 40 := zAllA hm 36
  have m37 : γ 1 92 0 13 = ρ 41 := zAllA hm 37
  have m38 : γ 1 92 0 14 = ρ 42 := zAllA hm 38
  have m39 : γ 1 92 0 15 = ρ 43 := zAllA hm 39
  have m40 : γ 1 92 0 16 = ρ 44 := zAllA hm 40
  have m41 : γ 1 92 0 17 = ρ 45 := zAllA hm 41
  have m42 : γ 1 92 0 18 = ρ 46 := zAllA hm 42
  have m43 : γ 1 92 0 19 = ρ 47 := zAllA hm 43
  have m45 : γ 0 73 0 (ρ 26) = ρ 49 := zAllA hm 45
  have m46 : γ 0 69 0 (ρ 26) = ρ 50 := zAllA hm 46
  show jn77 [ρ 0, ρ 1, ρ 2, ρ 3, ρ 4, ρ 5, ρ 6, ρ 7, ρ 8, ρ 9, ρ 10, ρ 11, ρ 12, ρ 13, ρ 14, ρ 15, ρ 16, ρ 17, ρ 18, ρ 19, ρ 20, ρ 21, ρ 22, ρ 23] (γ 0) 2 [ρ 0, ρ 1, ρ 2, ρ 3, ρ 4, ρ 5, ρ 6, ρ 7, ρ 8, ρ 9, ρ 10, ρ 11, ρ 12, ρ 13, ρ 14, ρ 15, ρ 16, ρ 17, ρ 18, ρ 19, ρ 20, ρ 21, ρ 22, ρ 23, ρ 26 + 1, ρ 27, ρ 28, ρ 29, ρ 30, ρ 31, ρ 32, ρ 33, ρ 34, ρ 35, ρ 36, ρ 37, ρ 38, ρ 39, ρ 40, ρ 41, ρ 42, ρ 43, ρ 44, ρ 45, ρ 46, ρ 47, ρ 48] (γ 1)
  have hD : en77 (γ 0) (3, [ρ 24, ρ 25, ρ 26, ρ 27], γ 1) = .inl (2, [ρ 26 + 1, ρ 27], γ 1) := by
    unfold en77
    refine zIN (show ¬ (3 : Nat) = 0 by decide) (zIN (show ¬ (3 : Nat) = 1 by decide) (zIN (show ¬ (3 : Nat) = 2 by decide) (zIP (show (3 : Nat) = 3 by decide) (zLV (γ 1) rfl (zLV (ρ 24) rfl (zLV (ρ 25) rfl (zLV (ρ 26) rfl ?_)))))))
    refine zLV (ρ 27) rfl (zLE m24 (zLE m25 (zLE m26 (zLE m27 (zLE m28 (zLE m29 (zLE m30 ?_)))))))
    refine zLE m31 (zLE m32 (zLE m33 (zLE m34 (zLE m35 (zLE m36 (zLE m37 (zLE m38 ?_)))))))
    refine zLE m39 (zLE m40 (zLE m41 (zLE m42 (zLE m43 (zLE m45 (zIP w_0 (zIP w_1 ?_)))))))
    refine zLE m46 (zIN w_2 (zIN w_3 (zIN w_4 (zIN w_5 (zIN w_6 (zIN w_7 (zIN w_8 ?_)))))))
    refine zIN w_9 (zIN w_10 (zIN w_11 (zIN w_12 (zIN w_13 (zIN w_14 (zIN w_15 (zIN w_16 ?_)))))))
    refine zIN w_17 (zIP w_18 (zIP w_19 ?_))
    rfl
  exact zGoo_ato hJ hD
theorem vn77a3_33 {S : Nat → zSpc}  {a : List Int} {g : rHp} : ∀ (ρ : Nat → Int) (γ : Nat → rHp), jn77 a g 3 (zAg (zNA a77_ 3) ρ) (γ 1) → zO 24 S a g q77a3_33 ρ γ → zGl (fun i vs g1 => jn77 a g i vs g1) (sn77 a g) q77a3_33 ρ γ := by
  intro ρ γ hJ h
  obtain ⟨ha, hg, hr, hf, hm, hc, hl⟩ := h
  have ha : a = [ρ 0, ρ 1, ρ 2, ρ 3, ρ 4, ρ 5, ρ 6, ρ 7, ρ 8, ρ 9, ρ 10, ρ 11, ρ 12, ρ 13, ρ 14, ρ 15, ρ 16, ρ 17, ρ 18, ρ 19, ρ 20, ρ 21, ρ 22, ρ 23] := ha
  subst ha
  subst hg
  have hJ : jn77 [ρ 0, ρ 1, ρ 2, ρ 3, ρ 4, ρ 5, ρ 6, ρ 7, ρ 8, ρ 9, ρ 10, ρ 11, ρ 12, ρ 13, ρ 14, ρ 15, ρ 16, ρ 17, ρ 18, ρ 19, ρ 20, ρ 21, ρ 22, ρ 23] (γ 0) 3 [ρ 0, ρ 1, ρ 2, ρ 3, ρ 4, ρ 5, ρ 6, ρ 7, ρ 8, ρ 9, ρ 10, ρ 11, ρ 12, ρ 13, ρ 14, ρ 15, ρ 16, ρ 17, ρ 18, ρ 19, ρ 20, ρ 21, ρ 22, ρ 23, ρ 24, ρ 25, ρ 26, ρ 27, ρ 28, ρ 29, ρ 30, ρ 31, ρ 32, ρ 33, ρ 34, ρ 35, ρ 36, ρ 37, ρ 38, ρ 39, ρ 40, ρ 41, ρ 42, ρ 43, ρ 44, ρ 45, ρ 46, ρ 47, ρ 48] (γ 1) := hJ
  have r25 : (0 : Int) ≤ ρ 25 ∧ ρ 25 ≤ 20 := zRnA hr 25
  have r50 : (16 : Int) ≤ ρ 50 ∧ ρ 50 ≤ 16 := zRnA hr 50
  have f0 : (0 : Int) ≤ -ρ 44 + ρ 25 + (-1) := zAllA hf 0
  have f1 : (0 : Int) ≤ -ρ 49 + ((-8) * ρ 26 + ρ 24) := zAllA hf 1
  obtain ⟨w_0, w_1, w_2, w_3, w_4, w_5, w_6, w_7, w_8, w_9, w_10, w_11, w_12, w_13, w_14, w_15, w_16, w_17, w_18, w_19⟩ : (ρ 24 ≥ ρ 49 + 8 * ρ 26) ∧ (ρ 25 ≤ 20) ∧ (¬ (0 ≤ -ρ 50)) ∧ (¬ (0 ≤ -ρ 50 + 1)) ∧ (¬ (0 ≤ -ρ 50 + 2)) ∧ (¬ (0 ≤ -ρ 50 + 3)) ∧ (¬ (0 ≤ -ρ 50 + 4)) ∧ (¬ (0 ≤ -ρ 50 + 5)) ∧ (¬ (0 ≤ -ρ 50 + 6)) ∧ (¬ (0 ≤ -ρ 50 + 7)) ∧ (¬ (0 ≤ -ρ 50 + 8)) ∧ (¬ (0 ≤ -ρ 50 + 9)) ∧ (¬ (0 ≤ -ρ 50 + 10)) ∧ (¬ (0 ≤ -ρ 50 + 11)) ∧ (¬ (0 ≤ -ρ 50 + 12)) ∧ (¬ (0 ≤ -ρ 50 + 13)) ∧ (¬ (0 ≤ -ρ 50 + 14)) ∧ (¬ (0 ≤ -ρ 50 + 15)) ∧ (0 ≤ -ρ 50 + 16) ∧ (¬ (ρ 25 ≤ ρ 44)) := ⟨by omega, by omega, by omega, by omega, by omega, by omega, by omega, by omega, by omega, by omega, by omega, by omega, by omega, by omega, by omega, by omega, by omega, by omega, by omega, by omega⟩
  have m24 : γ 1 92 0 0 = ρ 28 := zAllA hm 24
  have m25 : γ 1 92 0 1 = ρ 29 := zAllA hm 25
  have m26 : γ 1 92 0 2 = ρ 30 := zAllA hm 26
  have m27 : γ 1 92 0 3 = ρ 31 := zAllA hm 27
  have m28 : γ 1 92 0 4 = ρ 32 := zAllA hm 28
  have m29 : γ 1 92 0 5 = ρ 33 := zAllA hm 29
  have m30 : γ 1 92 0 6 = ρ 34 := zAllA hm 30
  have m31 : γ 1 92 0 7 = ρ 35 := zAllA hm 31
  have m32 : γ 1 92 0 8 = ρ 36 := zAllA hm 32
  have m33 : γ 1 92 0 9 = ρ 37 := zAllA hm 33
  have m34 : γ 1 92 0 10 = ρ 38 := zAllA hm 34
  have m35 : γ 1 92 0 11 = ρ 39 := zAllA hm 35
  have m36 : γ 1 92 0 12 = ρ 40 := zAllA hm 36
  have m37 : γ 1 92 0 13 = ρ 41 := zAllA hm 37
  have m38 : γ 1 92 0 14 = ρ 42 := zAllA hm 38
  have m39 : γ 1 92 0 15 = ρ 43 := zAllA hm 39
  have m40 : γ 1 92 0 16 = ρ 44 := zAllA hm 40
  have m41 : γ 1 92 0 17 = ρ 45 := zAllA hm 41
  have m42 : γ 1 92 0 18 = ρ 46 := zAllA hm 42
  have m43 : γ 1 92 0 19 = ρ 47 := zAllA hm 43
  have m45 : γ 0 73 0 (ρ 26) = ρ 49 := zAllA hm 45
  have m46 : γ 0 69 0 (ρ 26) = ρ 50 := zAllA hm 46
  have c2 : γ 2 = rUp (γ 1) 92 0 (ρ 50) (ρ 25) := And.right (zChA hc 0)
  show jn77 [ρ 0, ρ 1, ρ 2, ρ 3, ρ 4, ρ 5, ρ 6, ρ 7, ρ 8, ρ 9, ρ 10, ρ 11, ρ 12, ρ 13, ρ 14, ρ 15, ρ 16, ρ 17, ρ 18, ρ 19, ρ 20, ρ 21, ρ 22, ρ 23] (γ 0) 2 [ρ 0, ρ 1, ρ 2, ρ 3, ρ 4, ρ 5, ρ 6, ρ 7, ρ 8, ρ 9, ρ 10, ρ 11, ρ 12, ρ 13, ρ 14, ρ 15, ρ 16, ρ 17, ρ 18, ρ 19, ρ 20, ρ 21, ρ 22, ρ 23, ρ 26 + 1, 1, ρ 28, ρ 29, ρ 30, ρ 31, ρ 32, ρ 33, ρ 34, ρ 35, ρ 36, ρ 37, ρ 38, ρ 39, ρ 40, ρ 41, ρ 42, ρ 43, ρ 25, ρ 45, ρ 46, ρ 47, ρ 48] (γ 2)
  have hD : en77 (γ 0) (3, [ρ 24, ρ 25, ρ 26, ρ 27], γ 1) = .inl (2, [ρ 26 + 1, 1], γ 2) := by
    unfold en77
    refine zIN (show ¬ (3 : Nat) = 0 by decide) (zIN (show ¬ (3 : Nat) = 1 by decide) (zIN (show ¬ (3 : Nat) = 2 by decide) (zIP (show (3 : Nat) = 3 by decide) (zLV (γ 1) rfl (zLV (ρ 24) rfl (zLV (ρ 25) rfl (zLV (ρ 26) rfl ?_)))))))
    refine zLV (ρ 27) rfl (zLE m24 (zLE m25 (zLE m26 (zLE m27 (zLE m28 (zLE m29 (zLE m30 ?_)))))))
    refine zLE m31 (zLE m32 (zLE m33 (zLE m34 (zLE m35 (zLE m36 (zLE m37 (zLE m38 ?_)))))))
    refine zLE m39 (zLE m40 (zLE m41 (zLE m42 (zLE m43 (zLE m45 (zIP w_0 (zIP w_1 ?_)))))))
    refine zLE m46 (zIN w_2 (zIN w_3 (zIN w_4 (zIN w_5 (zIN w_6 (zIN w_7 (zIN w_8 ?_)))))))
    refine zIN w_9 (zIN w_10 (zIN w_11 (zIN w_12 (zIN w_13 (zIN w_14 (zIN w_15 (zIN w_16 ?_)))))))
    refine zIN w_17 (zIP w_18 (zIN w_19 (zLE c2.symm ?_)))
    rfl
  exact zGoo_ato hJ hD
theorem vn77a3_34 {S : Nat → zSpc}  {a : List Int} {g : rHp} : ∀ (ρ : Nat → Int) (γ : Nat → rHp), jn77 a g 3 (zAg (zNA a77_ 3) ρ) (γ 1) → zO 24 S a g q77a3_34 ρ γ → zGl (fun i vs g1 => jn77 a g i vs g1) (sn77 a g) q77a3_34 ρ γ := by
  intro ρ γ hJ h
  obtain ⟨ha, hg, hr, hf, hm, hc, hl⟩ := h
  have ha : a = [ρ 0, ρ 1, ρ 2, ρ 3, ρ 4, ρ 5, ρ 6, ρ 7, ρ 8, ρ 9, ρ 10, ρ 11, ρ 12, ρ 13, ρ 14, ρ 15, ρ 16, ρ 17, ρ 18, ρ 19, ρ 20, ρ 21, ρ 22, ρ 23] := ha
  subst ha
  subst hg
  have hJ : jn77 [ρ 0, ρ 1, ρ 2, ρ 3, ρ 4, ρ 5, ρ 6, ρ 7, ρ 8, ρ 9, ρ 10, ρ 11, ρ 12, ρ 13, ρ 14, ρ 15, ρ 16, ρ 17, ρ 18, ρ 19, ρ 20, ρ 21, ρ 22, ρ 23] (γ 0) 3 [ρ 0, ρ 1, ρ 2, ρ 3, ρ 4, ρ 5, ρ 6, ρ 7, ρ 8, ρ 9, ρ 10, ρ 11, ρ 12, ρ 13, ρ 14, ρ 15, ρ 16, ρ 17, ρ 18, ρ 19, ρ 20, ρ 21, ρ 22, ρ 23, ρ 24, ρ 25, ρ 26, ρ 27, ρ 28, ρ 29, ρ 30, ρ 31, ρ 32, ρ 33, ρ 34, ρ 35, ρ 36, ρ 37, ρ 38, ρ 39, ρ 40, ρ 41, ρ 42, ρ 43, ρ 44, ρ 45, ρ 46, ρ 47, ρ 48] (γ 1) := hJ
  have r25 : (0 : Int) ≤ ρ 25 ∧ ρ 25 ≤ 20 := zRnA hr 25
  have r50 : (17 : Int) ≤ ρ 50 ∧ ρ 50 ≤ 17 := zRnA hr 50
  have f0 : (0 : Int) ≤ ρ 45 + -ρ 25 := zAllA hf 0
  have f1 : (0 : Int) ≤ -ρ 49 + ((-8) * ρ 26 + ρ 24) := zAllA hf 1
  obtain ⟨w_0, w_1, w_2, w_3, w_4, w_5, w_6, w_7, w_8, w_9, w_10, w_11, w_12, w_13, w_14, w_15, w_16, w_17, w_18, w_19, w_20⟩ : (ρ 24 ≥ ρ 49 + 8 * ρ 26) ∧ (ρ 25 ≤ 20) ∧ (¬ (0 ≤ -ρ 50)) ∧ (¬ (0 ≤ -ρ 50 + 1)) ∧ (¬ (0 ≤ -ρ 50 + 2)) ∧ (¬ (0 ≤ -ρ 50 + 3)) ∧ (¬ (0 ≤ -ρ 50 + 4)) ∧ (¬ (0 ≤ -ρ 50 + 5)) ∧ (¬ (0 ≤ -ρ 50 + 6)) ∧ (¬ (0 ≤ -ρ 50 + 7)) ∧ (¬ (0 ≤ -ρ 50 + 8)) ∧ (¬ (0 ≤ -ρ 50 + 9)) ∧ (¬ (0 ≤ -ρ 50 + 10)) ∧ (¬ (0 ≤ -ρ 50 + 11)) ∧ (¬ (0 ≤ -ρ 50 + 12)) ∧ (¬ (0 ≤ -ρ 50 + 13)) ∧ (¬ (0 ≤ -ρ 50 + 14)) ∧ (¬ (0 ≤ -ρ 50 + 15)) ∧ (¬ (0 ≤ -ρ 50 + 16)) ∧ (0 ≤ -ρ 50 + 17) ∧ (ρ 25 ≤ ρ 45) := ⟨by omega, by omega, by omega, by omega, by omega, by omega, by omega, by omega, by omega, by omega, by omega, by omega, by omega, by omega, by omega, by omega, by omega, by omega, by omega, by omega, by omega⟩
  have m24 : γ 1 92 0 0 = ρ 28 := zAllA hm 24
  have m25 : γ 1 92 0 1 = ρ 29 := zAllA hm 25
  have m26 : γ 1 92 0 2 = ρ 30 := zAllA hm 26
  have m27 : γ 1 92 0 3 = ρ 31 := zAllA hm 27
  have m28 : γ 1 92 0 4 = ρ 32 := zAllA hm 28
  have m29 : γ 1 92 0 5 = ρ 33 := zAllA hm 29
  have m30 : γ 1 92 0 6 = ρ 34 := zAllA hm 30
  have m31 : γ 1 92 0 7 = ρ 35 := zAllA hm 31
  have m32 : γ 1 92 0 8 = ρ 36 := zAllA hm 32
  have m33 : γ 1 92 0 9 = ρ 37 := zAllA hm 33
  have m34 : γ 1 92 0 10 = ρ 38 := zAllA hm 34
  have m35 : γ 1 92 0 11 = ρ 39 := zAllA hm 35
  have m36 : γ 1 92 0 12 = ρ 40 := zAllA hm 36
  have m37 : γ 1 92 0 13 = ρ 41 := zAllA hm 37
  have m38 : γ 1 92 0 14 = ρ 42 := zAllA hm 38
  have m39 : γ 1 92 0 15 = ρ 43 := zAllA hm 39
  have m40 : γ 1 92 0 16 = ρ 44 := zAllA hm 40
  have m41 : γ 1 92 0 17 = ρ 45 := zAllA hm 41
  have m42 : γ 1 92 0 18 = ρ 46 := zAllA hm 42
  have m43 : γ 1 92 0 19 = ρ 47 := zAllA hm 43
  have m45 : γ 0 73 0 (ρ 26) = ρ 49 := zAllA hm 45
  have m46 : γ 0 69 0 (ρ 26) = ρ 50 := zAllA hm 46
  show jn77 [ρ 0, ρ 1, ρ 2, ρ 3, ρ 4, ρ 5, ρ 6, ρ 7, ρ 8, ρ 9, ρ 10, ρ 11, ρ 12, ρ 13, ρ 14, ρ 15, ρ 16, ρ 17, ρ 18, ρ 19, ρ 20, ρ 21, ρ 22, ρ 23] (γ 0) 2 [ρ 0, ρ 1, ρ 2, ρ 3, ρ 4, ρ 5, ρ 6, ρ 7, ρ 8, ρ 9, ρ 10, ρ 11, ρ 12, ρ 13, ρ 14, ρ 15, ρ 16, ρ 17, ρ 18, ρ 19, ρ 20, ρ 21, ρ 22, ρ 23, ρ 26 + 1, ρ 27, ρ 28, ρ 29, ρ 30, ρ 31, ρ 32, ρ 33, ρ 34, ρ 35, ρ 36, ρ 37, ρ 38, ρ 39, ρ 40, ρ 41, ρ 42, ρ 43, ρ 44, ρ 45, ρ 46, ρ 47, ρ 48] (γ 1)
  have hD : en77 (γ 0) (3, [ρ 24, ρ 25, ρ 26, ρ 27], γ 1) = .inl (2, [ρ 26 + 1, ρ 27], γ 1) := by
    unfold en77
    refine zIN (show ¬ (3 : Nat) = 0 by decide) (zIN (show ¬ (3 : Nat) = 1 by decide) (zIN (show ¬ (3 : Nat) = 2 by decide) (zIP (show (3 : Nat) = 3 by decide) (zLV (γ 1) rfl (zLV (ρ 24) rfl (zLV (ρ 25) rfl (zLV (ρ 26) rfl ?_)))))))
    refine zLV (ρ 27) rfl (zLE m24 (zLE m25 (zLE m26 (zLE m27 (zLE m28 (zLE m29 (zLE m30 ?_)))))))
    refine zLE m31 (zLE m32 (zLE m33 (zLE m34 (zLE m35 (zLE m36 (zLE m37 (zLE m38 ?_)))))))
    refine zLE m39 (zLE m40 (zLE m41 (zLE m42 (zLE m43 (zLE m45 (zIP w_0 (zIP w_1 ?_)))))))
    refine zLE m46 (zIN w_2 (zIN w_3 (zIN w_4 (zIN w_5 (zIN w_6 (zIN w_7 (zIN w_8 ?_)))))))
    refine zIN w_9 (zIN w_10 (zIN w_11 (zIN w_12 (zIN w_13 (zIN w_14 (zIN w_15 (zIN w_16 ?_)))))))
    refine zIN w_17 (zIN w_18 (zIP w_19 (zIP w_20 ?_)))
    rfl
  exact zGoo_ato hJ hD
theorem vn77a3_35 {S : Nat → zSpc}  {a : List Int} {g : rHp} : ∀ (ρ : Nat → Int) (γ : Nat → rHp), jn77 a g 3 (zAg (zNA a77_ 3) ρ) (γ 1) → zO 24 S a g q77a3_35 ρ γ → zGl (fun i vs g1 => jn77 a g i vs g1) (sn77 a g) q77a3_35 ρ γ := by
  intro ρ γ hJ h
  obtain ⟨ha, hg, hr, hf, hm, hc, hl⟩ := h
  have ha : a = [ρ 0, ρ 1, ρ 2, ρ 3, ρ 4, ρ 5, ρ 6, ρ 7, ρ 8, ρ 9, ρ 10, ρ 11, ρ 12, ρ 13, ρ 14, ρ 15, ρ 16, ρ 17, ρ 18, ρ 19, ρ 20, ρ 21, ρ 22, ρ 23] := ha
  subst ha
  subst hg
  have hJ : jn77 [ρ 0, ρ 1, ρ 2, ρ 3, ρ 4, ρ 5, ρ 6, ρ 7, ρ 8, ρ 9, ρ 10, ρ 11, ρ 12, ρ 13, ρ 14, ρ 15, ρ 16, ρ 17, ρ 18, ρ 19, ρ 20, ρ 21, ρ 22, ρ 23] (γ 0) 3 [ρ 0, ρ 1, ρ 2, ρ 3, ρ 4, ρ 5, ρ 6, ρ 7, ρ 8, ρ 9, ρ 10, ρ 11, ρ 12, ρ 13, ρ 14, ρ 15, ρ 16, ρ 17, ρ 18, ρ 19, ρ 20, ρ 21, ρ 22, ρ 23, ρ 24, ρ 25, ρ 26, ρ 27, ρ 28, ρ 29, ρ 30, ρ 31, ρ 32, ρ 33, ρ 34, ρ 35, ρ 36, ρ 37, ρ 38, ρ 39, ρ 40, ρ 41, ρ 42, ρ 43, ρ 44, ρ 45, ρ 46, ρ 47, ρ 48] (γ 1) := hJ
  have r25 : (0 : Int) ≤ ρ 25 ∧ ρ 25 ≤ 20 := zRnA hr 25
  have r50 : (17 : Int) ≤ ρ 50 ∧ ρ 50 ≤ 17 := zRnA hr 50
  have f0 : (0 : Int) ≤ -ρ 45 + ρ 25 + (-1) := zAllA hf 0
  have f1 : (0 : Int) ≤ -ρ 49 + ((-8) * ρ 26 + ρ 24) := zAllA hf 1
  obtain ⟨w_0, w_1, w_2, w_3, w_4, w_5, w_6, w_7, w_8, w_9, w_10, w_11, w_12, w_13, w_14, w_15, w_16, w_17, w_18, w_19, w_20⟩ : (ρ 24 ≥ ρ 49 + 8 * ρ 26) ∧ (ρ 25 ≤ 20) ∧ (¬ (0 ≤ -ρ 50)) ∧ (¬ (0 ≤ -ρ 50 + 1)) ∧ (¬ (0 ≤ -ρ 50 + 2)) ∧ (¬ (0 ≤ -ρ 50 + 3)) ∧ (¬ (0 ≤ -ρ 50 + 4)) ∧ (¬ (0 ≤ -ρ 50 + 5)) ∧ (¬ (0 ≤ -ρ 50 + 6)) ∧ (¬ (0 ≤ -ρ 50 + 7)) ∧ (¬ (0 ≤ -ρ 50 + 8)) ∧ (¬ (0 ≤ -ρ 50 + 9)) ∧ (¬ (0 ≤ -ρ 50 + 10)) ∧ (¬ (0 ≤ -ρ 50 + 11)) ∧ (¬ (0 ≤ -ρ 50 + 12)) ∧ (¬ (0 ≤ -ρ 50 + 13)) ∧ (¬ (0 ≤ -ρ 50 + 14)) ∧ (¬ (0 ≤ -ρ 50 + 15)) ∧ (¬ (0 ≤ -ρ 50 + 16)) ∧ (0 ≤ -ρ 50 + 17) ∧ (¬ (ρ 25 ≤ ρ 45)) := ⟨by omega, by omega, by omega, by omega, by omega, by omega, by omega, by omega, by omega, by omega, by omega, by omega, by omega, by omega, by omega, by omega, by omega, by omega, by omega, by omega, by omega⟩
  have m24 : γ 1 92 0 0 = ρ 28 := zAllA hm 24
  have m25 : γ 1 92 0 1 = ρ 29 := zAllA hm 25
  have m26 : γ 1 92 0 2 = ρ 30 := zAllA hm 26
  have m27 : γ 1 92 0 3 = ρ 31 := zAllA hm 27
  have m28 : γ 1 92 0 4 = ρ 32 := zAllA hm 28
  have m29 : γ 1 92 0 5 = ρ 33 := zAllA hm 29
  have m30 : γ 1 92 0 6 = ρ 34 := zAllA hm 30
  have m31 : γ 1 92 0 7 = ρ 35 := zAllA hm 31
  have m32 : γ 1 92 0 8 = ρ 36 := zAllA hm 32
  have m33 : γ 1 92 0 9 = ρ 37 := zAllA hm 33
  have m34 : γ 1 92 0 10 = ρ 38 := zAllA hm 34
  have m35 : γ 1 92 0 11 = ρ 39 := zAllA hm 35
  have m36 : γ 1 92 0 12 = ρ 40 := zAllA hm 36
  have m37 : γ 1 92 0 13 = ρ 41 := zAllA hm 37
  have m38 : γ 1 92 0 14 = ρ 42 := zAllA hm 38
  have m39 : γ 1 92 0 15 = ρ 43 := zAllA hm 39
  have m40 : γ 1 92 0 16 = ρ 44 := zAllA hm 40
  have m41 : γ 1 92 0 17 = ρ 45 := zAllA hm 41
  have m42 : γ 1 92 0 18 = ρ 46 := zAllA hm 42
  have m43 : γ 1 92 0 19 = ρ 47 := zAllA hm 43
  have m45 : γ 0 73 0 (ρ 26) = ρ 49 := zAllA hm 45
  have m46 : γ 0 69 0 (ρ 26) = ρ 50 := zAllA hm 46
  have c2 : γ 2 = rUp (γ 1) 92 0 (ρ 50) (ρ 25) := And.right (zChA hc 0)
  show jn77 [ρ 0, ρ 1, ρ 2, ρ 3, ρ 4, ρ 5, ρ 6, ρ 7, ρ 8, ρ 9, ρ 10, ρ 11, ρ 12, ρ 13, ρ 14, ρ 15, ρ 16, ρ 17, ρ 18, ρ 19, ρ 20, ρ 21, ρ 22, ρ 23] (γ 0) 2 [ρ 0, ρ 1, ρ 2, ρ 3, ρ 4, ρ 5, ρ 6, ρ 7, ρ 8, ρ 9, ρ 10, ρ 11, ρ 12, ρ 13, ρ 14, ρ 15, ρ 16, ρ 17, ρ 18, ρ 19, ρ 20, ρ 21, ρ 22, ρ 23, ρ 26 + 1, 1, ρ 28, ρ 29, ρ 30, ρ 31, ρ 32, ρ 33, ρ 34, ρ 35, ρ 36, ρ 37, ρ 38, ρ 39, ρ 40, ρ 41, ρ 42, ρ 43, ρ 44, ρ 25, ρ 46, ρ 47, ρ 48] (γ 2)
  have hD : en77 (γ 0) (3, [ρ 24, ρ 25, ρ 26, ρ 27], γ 1) = .inl (2, [ρ 26 + 1, 1], γ 2) := by
    unfold en77
    refine zIN (show ¬ (3 : Nat) = 0 by decide) (zIN (show ¬ (3 : Nat) = 1 by decide) (zIN (show ¬ (3 : Nat) = 2 by decide) (zIP (show (3 : Nat) = 3 by decide) (zLV (γ 1) rfl (zLV (ρ 24) rfl (zLV (ρ 25) rfl (zLV (ρ 26) rfl ?_)))))))
    refine zLV (ρ 27) rfl (zLE m24 (zLE m25 (zLE m26 (zLE m27 (zLE m28 (zLE m29 (zLE m30 ?_)))))))
    refine zLE m31 (zLE m32 (zLE m33 (zLE m34 (zLE m35 (zLE m36 (zLE m37 (zLE m38 ?_)))))))
    refine zLE m39 (zLE m40 (zLE m41 (zLE m42 (zLE m43 (zLE m45 (zIP w_0 (zIP w_1 ?_)))))))
    refine zLE m46 (zIN w_2 (zIN w_3 (zIN w_4 (zIN w_5 (zIN w_6 (zIN w_7 (zIN w_8 ?_)))))))
    refine zIN w_9 (zIN w_10 (zIN w_11 (zIN w_12 (zIN w_13 (zIN w_14 (zIN w_15 (zIN w_16 ?_)))))))
    refine zIN w_17 (zIN w_18 (zIP w_19 (zIN w_20 (zLE c2.symm ?_))))
    rfl
  exact zGoo_ato hJ hD
theorem vn77a3_36 {S : Nat → zSpc}  {a : List Int} {g : rHp} : ∀ (ρ : Nat → Int) (γ : Nat → rHp), jn77 a g 3 (zAg (zNA a77_ 3) ρ) (γ 1) → zO 24 S a g q77a3_36 ρ γ → zGl (fun i vs g1 => jn77 a g i vs g1) (sn77 a g) q77a3_36 ρ γ := by
  intro ρ γ hJ h
  obtain ⟨ha, hg, hr, hf, hm, hc, hl⟩ := h
  have ha : a = [ρ 0, ρ 1, ρ 2, ρ 3, ρ 4, ρ 5, ρ 6, ρ 7, ρ 8, ρ 9, ρ 10, ρ 11, ρ 12, ρ 13, ρ 14, ρ 15, ρ 16, ρ 17, ρ 18, ρ 19, ρ 20, ρ 21, ρ 22, ρ 23] := ha
  subst ha
  subst hg
  have hJ : jn77 [ρ 0, ρ 1, ρ 2, ρ 3, ρ 4, ρ 5, ρ 6, ρ 7, ρ 8, ρ 9, ρ 10, ρ 11, ρ 12, ρ 13, ρ 14, ρ 15, ρ 16, ρ 17, ρ 18, ρ 19, ρ 20, ρ 21, ρ 22, ρ 23] (γ 0) 3 [ρ 0, ρ 1, ρ 2, ρ 3, ρ 4, ρ 5, ρ 6, ρ 7, ρ 8, ρ 9, ρ 10, ρ 11, ρ 12, ρ 13, ρ 14, ρ 15, ρ 16, ρ 17, ρ 18, ρ 19, ρ 20, ρ 21, ρ 22, ρ 23, ρ 24, ρ 25, ρ 26, ρ 27, ρ 28, ρ 29, ρ 30, ρ 31, ρ 32, ρ 33, ρ 34, ρ 35, ρ 36, ρ 37, ρ 38, ρ 39, ρ 40, ρ 41, ρ 42, ρ 43, ρ 44, ρ 45, ρ 46, ρ 47, ρ 48] (γ 1) := hJ
  have r25 : (0 : Int) ≤ ρ 25 ∧ ρ 25 ≤ 20 := zRnA hr 25
  have r50 : (18 : Int) ≤ ρ 50 ∧ ρ 50 ≤ 18 := zRnA hr 50
  have f0 : (0 : Int) ≤ ρ 46 + -ρ 25 := zAllA hf 0
  have f1 : (0 : Int) ≤ -ρ 49 + ((-8) * ρ 26 + ρ 24) := zAllA hf 1
  obtain ⟨w_0, w_1, w_2, w_3, w_4, w_5, w_6, w_7, w_8, w_9, w_10, w_11, w_12, w_13, w_14, w_15, w_16, w_17, w_18, w_19, w_20, w_21⟩ : (ρ 24 ≥ ρ 49 + 8 * ρ 26) ∧ (ρ 25 ≤ 20) ∧ (¬ (0 ≤ -ρ 50)) ∧ (¬ (0 ≤ -ρ 50 + 1)) ∧ (¬ (0 ≤ -ρ 50 + 2)) ∧ (¬ (0 ≤ -ρ 50 + 3)) ∧ (¬ (0 ≤ -ρ 50 + 4)) ∧ (¬ (0 ≤ -ρ 50 + 5)) ∧ (¬ (0 ≤ -ρ 50 + 6)) ∧ (¬ (0 ≤ -ρ 50 + 7)) ∧ (¬ (0 ≤ -ρ 50 + 8)) ∧ (¬ (0 ≤ -ρ 50 + 9)) ∧ (¬ (0 ≤ -ρ 50 + 10)) ∧ (¬ (0 ≤ -ρ 50 + 11)) ∧ (¬ (0 ≤ -ρ 50 + 12)) ∧ (¬ (0 ≤ -ρ 50 + 13)) ∧ (¬ (0 ≤ -ρ 50 + 14)) ∧ (¬ (0 ≤ -ρ 50 + 15)) ∧ (¬ (0 ≤ -ρ 50 + 16)) ∧ (¬ (0 ≤ -ρ 50 + 17)) ∧ (0 ≤ -ρ 50 + 18) ∧ (ρ 25 ≤ ρ 46) := ⟨by omega, by omega, by omega, by omega, by omega, by omega, by omega, by omega, by omega, by omega, by omega, by omega, by omega, by omega, by omega, by omega, by omega, by omega, by omega, by omega, by omega, by omega⟩
  have m24 : γ 1 92 0 0 = ρ 28 := zAllA hm 24
  have m25 : γ 1 92 0 1 = ρ 29 := zAllA hm 25
  have m26 : γ 1 92 0 2 = ρ 30 := zAllA hm 26
  have m27 : γ 1 92 0 3 = ρ 31 := zAllA hm 27
  have m28 : γ 1 92 0 4 = ρ 32 := zAllA hm 28
  have m29 : γ 1 92 0 5 = ρ 33 := zAllA hm 29
  have m30 : γ 1 92 0 6 = ρ 34 := zAllA hm 30
  have m31 : γ 1 92 0 7 = ρ 35 := zAllA hm 31
  have m32 : γ 1 92 0 8 = ρ 36 := zAllA hm 32
  have m33 : γ 1 92 0 9 = ρ 37 := zAllA hm 33
  have m34 : γ 1 92 0 10 = ρ 38 := zAllA hm 34
  have m35 : γ 1 92 0 11 = ρ 39 := zAllA hm 35
  have m36 : γ 1 92 0 12 = ρ 40 := zAllA hm 36
  have m37 : γ 1 92 0 13 = ρ 41 := zAllA hm 37
  have m38 : γ 1 92 0 14 = ρ 42 := zAllA hm 38
  have m39 : γ 1 92 0 15 = ρ 43 := zAllA hm 39
  have m40 : γ 1 92 0 16 = ρ 44 := zAllA hm 40
  have m41 : γ 1 92 0 17 = ρ 45 := zAllA hm 41
  have m42 : γ 1 92 0 18 = ρ 46 := zAllA hm 42
  have m43 : γ 1 92 0 19 = ρ 47 := zAllA hm 43
  have m45 : γ 0 73 0 (ρ 26) = ρ 49 := zAllA hm 45
  have m46 : γ 0 69 0 (ρ 26) = ρ 50 := zAllA hm 46
  show jn77 [ρ 0, ρ 1, ρ 2, ρ 3, ρ 4, ρ 5, ρ 6, ρ 7, ρ 8, ρ 9, ρ 10, ρ 11, ρ 12, ρ 13, ρ 14, ρ 15, ρ 16, ρ 17, ρ 18, ρ 19, ρ 20, ρ 21, ρ 22, ρ 23] (γ 0) 2 [ρ 0, ρ 1, ρ 2, ρ 3, ρ 4, ρ 5, ρ 6, ρ 7, ρ 8, ρ 9, ρ 10, ρ 11, ρ 12, ρ 13, ρ 14, ρ 15, ρ 16, ρ 17, ρ 18, ρ 19, ρ 20, ρ 21, ρ 22, ρ 23, ρ 26 + 1, ρ 27, ρ 28, ρ 29, ρ 30, ρ 31, ρ 32, ρ 33, ρ 34, ρ 35, ρ 36, ρ 37, ρ 38, ρ 39, ρ 40, ρ 41, ρ 42, ρ 43, ρ 44, ρ 45, ρ 46, ρ 47, ρ 48] (γ 1)
  have hD : en77 (γ 0) (3, [ρ 24, ρ 25, ρ 26, ρ 27], γ 1) = .inl (2, [ρ 26 + 1, ρ 27], γ 1) := by
    unfold en77
    refine zIN (show ¬ (3 : Nat) = 0 by decide) (zIN (show ¬ (3 : Nat) = 1 by decide) (zIN (show ¬ (3 : Nat) = 2 by decide) (zIP (show (3 : Nat) = 3 by decide) (zLV (γ 1) rfl (zLV (ρ 24) rfl (zLV (ρ 25) rfl (zLV (ρ 26) rfl ?_)))))))
    refine zLV (ρ 27) rfl (zLE m24 (zLE m25 (zLE m26 (zLE m27 (zLE m28 (zLE m29 (zLE m30 ?_)))))))
    refine zLE m31 (zLE m32 (zLE m33 (zLE m34 (zLE m35 (zLE m36 (zLE m37 (zLE m38 ?_)))))))
    refine zLE m39 (zLE m40 (zLE m41 (zLE m42 (zLE m43 (zLE m45 (zIP w_0 (zIP w_1 ?_)))))))
    refine zLE m46 (zIN w_2 (zIN w_3 (zIN w_4 (zIN w_5 (zIN w_6 (zIN w_7 (zIN w_8 ?_)))))))
    refine zIN w_9 (zIN w_10 (zIN w_11 (zIN w_12 (zIN w_13 (zIN w_14 (zIN w_15 (zIN w_16 ?_)))))))
    refine zIN w_17 (zIN w_18 (zIN w_19 (zIP w_20 (zIP w_21 ?_))))
    rfl
  exact zGoo_ato hJ hD
theorem vn77a3_37 {S : Nat → zSpc}  {a : List Int} {g : rHp} : ∀ (ρ : Nat → Int) (γ : Nat → rHp), jn77 a g 3 (zAg (zNA a77_ 3) ρ) (γ 1) → zO 24 S a g q77a3_37 ρ γ → zGl (fun i vs g1 => jn77 a g i vs g1) (sn77 a g) q77a3_37 ρ γ := by
  intro ρ γ hJ h
  obtain ⟨ha, hg, hr, hf, hm, hc, hl⟩ := h
  have ha : a = [ρ 0, ρ 1, ρ 2, ρ 3, ρ 4, ρ 5, ρ 6, ρ 7, ρ 8, ρ 9, ρ 10, ρ 11, ρ 12, ρ 13, ρ 14, ρ 15, ρ 16, ρ 17, ρ 18, ρ 19, ρ 20, ρ 21, ρ 22, ρ 23] := ha
  subst ha
  subst hg
  have hJ : jn77 [ρ 0, ρ 1, ρ 2, ρ 3, ρ 4, ρ 5, ρ 6, ρ 7, ρ 8, ρ 9, ρ 10, ρ 11, ρ 12, ρ 13, ρ 14, ρ 15, ρ 16, ρ 17, ρ 18, ρ 19, ρ 20, ρ 21, ρ 22, ρ 23] (γ 0) 3 [ρ 0, ρ 1, ρ 2, ρ 3, ρ 4, ρ 5, ρ 6, ρ 7, ρ 8, ρ 9, ρ 10, ρ 11, ρ 12, ρ 13, ρ 14, ρ 15, ρ 16, ρ 17, ρ 18, ρ 19, ρ 20, ρ 21, ρ 22, ρ 23, ρ 24, ρ 25, ρ 26, ρ 27, ρ 28, ρ 29, ρ 30, ρ 31, ρ 32, ρ 33, ρ 34, ρ 35, ρ 36, ρ 37, ρ 38, ρ 39, ρ 40, ρ 41, ρ 42, ρ 43, ρ 44, ρ 45, ρ 46, ρ 47, ρ 48] (γ 1) := hJ
  have r25 : (0 : Int) ≤ ρ 25 ∧ ρ 25 ≤ 20 := zRnA hr 25
  have r50 : (18 : Int) ≤ ρ 50 ∧ ρ 50 ≤ 18 := zRnA hr 50
  have f0 : (0 : Int) ≤ -ρ 46 + ρ 25 + (-1) := zAllA hf 0
  have f1 : (0 : Int) ≤ -ρ 49 + ((-8) * ρ 26 + ρ 24) := zAllA hf 1
  obtain ⟨w_0, w_1, w_2, w_3, w_4, w_5, w_6, w_7, w_8, w_9, w_10, w_11, w_12, w_13, w_14, w_15, w_16, w_17, w_18, w_19, w_20, w_21⟩ : (ρ 24 ≥ ρ 49 + 8 * ρ 26) ∧ (ρ 25 ≤ 20) ∧ (¬ (0 ≤ -ρ 50)) ∧ (¬ (0 ≤ -ρ 50 + 1)) ∧ (¬ (0 ≤ -ρ 50 + 2)) ∧ (¬ (0 ≤ -ρ 50 + 3)) ∧ (¬ (0 ≤ -ρ 50 + 4)) ∧ (¬ (0 ≤ -ρ 50 + 5)) ∧ (¬ (0 ≤ -ρ 50 + 6)) ∧ (¬ (0 ≤ -ρ 50 + 7)) ∧ (¬ (0 ≤ -ρ 50 + 8)) ∧ (¬ (0 ≤ -ρ 50 + 9)) ∧ (¬ (0 ≤ -ρ 50 + 10)) ∧ (¬ (0 ≤ -ρ 50 + 11)) ∧ (¬ (0 ≤ -ρ 50 + 12)) ∧ (¬ (0 ≤ -ρ 50 + 13)) ∧ (¬ (0 ≤ -ρ 50 + 14)) ∧ (¬ (0 ≤ -ρ 50 + 15)) ∧ (¬ (0 ≤ -ρ 50 + 16)) ∧ (¬ (0 ≤ -ρ 50 + 17)) ∧ (0 ≤ -ρ 50 + 18) ∧ (¬ (ρ 25 ≤ ρ 46)) := ⟨by omega, by omega, by omega, by omega, by omega, by omega, by omega, by omega, by omega, by omega, by omega, by omega, by omega, by omega, by omega, by omega, by omega, by omega, by omega, by omega, by omega, by omega⟩
  have m24 : γ 1 92 0 0 = ρ 28 := zAllA hm 24
  have m25 : γ 1 92 0 1 = ρ 29 := zAllA hm 25
  have m26 : γ 1 92 0 2 = ρ 30 := zAllA hm 26
  have m27 : γ 1 92 0 3 = ρ 31 := zAllA hm 27
  have m28 : γ 1 92 0 4 = ρ 32 := zAllA hm 28
  have m29 : γ 1 92 0 5 = ρ 33 := zAllA hm 29
  have m30 : γ 1 92 0 6 = ρ 34 := zAllA hm 30
  have m31 : γ 1 92 0 7 = ρ 35 := zAllA hm 31
  have m32 : γ 1 92 0 8 = ρ 36 := zAllA hm 32
  have m33 : γ 1 92 0 9 = ρ 37 := zAllA hm 33
  have m34 : γ 1 92 0 10 = ρ 38 := zAllA hm 34
  have m35 : γ 1 92 0 11 = ρ 39 := zAllA hm 35
  have m36 : γ 1 92 0 12 = ρ 40 := zAllA hm 36
  have m37 : γ 1 92 0 13 = ρ 41 := zAllA hm 37
  have m38 : γ 1 92 0 14 = ρ 42 := zAllA hm 38
  have m39 : γ 1 92 0 15 = ρ 43 := zAllA hm 39
  have m40 : γ 1 92 0 16 = ρ 44 := zAllA hm 40
  have m41 : γ 1 92 0 17 = ρ 45 := zAllA hm 41
  have m42 : γ 1 92 0 18 = ρ 46 := zAllA hm 42
  have m43 : γ 1 92 0 19 = ρ 47 := zAllA hm 43
  have m45 : γ 0 73 0 (ρ 26) = ρ 49 := zAllA hm 45
  have m46 : γ 0 69 0 (ρ 26) = ρ 50 := zAllA hm 46
  have c2 : γ 2 = rUp (γ 1) 92 0 (ρ 50) (ρ 25) := And.right (zChA hc 0)
  show jn77 [ρ 0, ρ 1, ρ 2, ρ 3, ρ 4, ρ 5, ρ 6, ρ 7, ρ 8, ρ 9, ρ 10, ρ 11, ρ 12, ρ 13, ρ 14, ρ 15, ρ 16, ρ 17, ρ 18, ρ 19, ρ 20, ρ 21, ρ 22, ρ 23] (γ 0) 2 [ρ 0, ρ 1, ρ 2, ρ 3, ρ 4, ρ 5, ρ 6, ρ 7, ρ 8, ρ 9, ρ 10, ρ 11, ρ 12, ρ 13, ρ 14, ρ 15, ρ 16, ρ 17, ρ 18, ρ 19, ρ 20, ρ 21, ρ 22, ρ 23, ρ 26 + 1, 1, ρ 28, ρ 29, ρ 30, ρ 31, ρ 32, ρ 33, ρ 34, ρ 35, ρ 36, ρ 37, ρ 38, ρ 39, ρ 40, ρ 41, ρ 42, ρ 43, ρ 44, ρ 45, ρ 25, ρ 47, ρ 48] (γ 2)
  have hD : en77 (γ 0) (3, [ρ 24, ρ 25, ρ 26, ρ 27], γ 1) = .inl (2, [ρ 26 + 1, 1], γ 2) := by
    unfold en77
    refine zIN (show ¬ (3 : Nat) = 0 by decide) (zIN (show ¬ (3 : Nat) = 1 by decide) (zIN (show ¬ (3 : Nat) = 2 by decide) (zIP (show (3 : Nat) = 3 by decide) (zLV (γ 1) rfl (zLV (ρ 24) rfl (zLV (ρ 25) rfl (zLV (ρ 26) rfl ?_)))))))
    refine zLV (ρ 27) rfl (zLE m24 (zLE m25 (zLE m26 (zLE m27 (zLE m28 (zLE m29 (zLE m30 ?_)))))))
    refine zLE m31 (zLE m32 (zLE m33 (zLE m34 (zLE m35 (zLE m36 (zLE m37 (zLE m38 ?_)))))))
    refine zLE m39 (zLE m40 (zLE m41 (zLE m42 (zLE m43 (zLE m45 (zIP w_0 (zIP w_1 ?_)))))))
    refine zLE m46 (zIN w_2 (zIN w_3 (zIN w_4 (zIN w_5 (zIN w_6 (zIN w_7 (zIN w_8 ?_)))))))
    refine zIN w_9 (zIN w_10 (zIN w_11 (zIN w_12 (zIN w_13 (zIN w_14 (zIN w_15 (zIN w_16 ?_)))))))
    refine zIN w_17 (zIN w_18 (zIN w_19 (zIP w_20 (zIN w_21 (zLE c2.symm ?_)))))
    rfl
  exact zGoo_ato hJ hD
theorem vn77a3_38 {S : Nat → zSpc}  {a : List Int} {g : rHp} : ∀ (ρ : Nat → Int) (γ : Nat → rHp), jn77 a g 3 (zAg (zNA a77_ 3) ρ) (γ 1) → zO 24 S a g q77a3_38 ρ γ → zGl (fun i vs g1 => jn77 a g i vs g1) (sn77 a g) q77a3_38 ρ γ := by
  intro ρ γ hJ h
  obtain ⟨ha, hg, hr, hf, hm, hc, hl⟩ := h
  have ha : a = [ρ 0, ρ 1, ρ 2, ρ 3, ρ 4, ρ 5, ρ 6, ρ 7, ρ 8, ρ 9, ρ 10, ρ 11, ρ 12, ρ 13, ρ 14, ρ 15, ρ 16, ρ 17, ρ 18, ρ 19, ρ 20, ρ 21, ρ 22, ρ 23] := ha
  subst ha
  subst hg
  have hJ : jn77 [ρ 0, ρ 1, ρ 2, ρ 3, ρ 4, ρ 5, ρ 6, ρ 7, ρ 8, ρ 9, ρ 10, ρ 11, ρ 12, ρ 13, ρ 14, ρ 15, ρ 16, ρ 17, ρ 18, ρ 19, ρ 20, ρ 21, ρ 22, ρ 23] (γ 0) 3 [ρ 0, ρ 1, ρ 2, ρ 3, ρ 4, ρ 5, ρ 6, ρ 7, ρ 8, ρ 9, ρ 10, ρ 11, ρ 12, ρ 13, ρ 14, ρ 15, ρ 16, ρ 17, ρ 18, ρ 19, ρ 20, ρ 21, ρ 22, ρ 23, ρ 24, ρ 25, ρ 26, ρ 27, ρ 28, ρ 29, ρ 30, ρ 31, ρ 32, ρ 33, ρ 34, ρ 35, ρ 36, ρ 37, ρ 38, ρ 39, ρ 40, ρ 41, ρ 42, ρ 43, ρ 44, ρ 45, ρ 46, ρ 47, ρ 48] (γ 1) := hJ
  have r25 : (0 : Int) ≤ ρ 25 ∧ ρ 25 ≤ 20 := zRnA hr 25
  have r50 : (19 : Int) ≤ ρ 50 ∧ ρ 50 ≤ 19 := zRnA hr 50
  have f0 : (0 : Int) ≤ ρ 47 + -ρ 25 := zAllA hf 0
  have f1 : (0 : Int) ≤ -ρ 49 + ((-8) * ρ 26 + ρ 24) := zAllA hf 1
  obtain ⟨w_0, w_1, w_2, w_3, w_4, w_5, w_6, w_7, w_8, w_9, w_10, w_11, w_12, w_13, w_14, w_15, w_16, w_17, w_18, w_19, w_20, w_21⟩ : (ρ 24 ≥ ρ 49 + 8 * ρ 26) ∧ (ρ 25 ≤ 20) ∧ (¬ (0 ≤ -ρ 50)) ∧ (¬ (0 ≤ -ρ 50 + 1)) ∧ (¬ (0 ≤ -ρ 50 + 2)) ∧ (¬ (0 ≤ -ρ 50 + 3)) ∧ (¬ (0 ≤ -ρ 50 + 4)) ∧ (¬ (0 ≤ -ρ 50 + 5)) ∧ (¬ (0 ≤ -ρ 50 + 6)) ∧ (¬ (0 ≤ -ρ 50 + 7)) ∧ (¬ (0 ≤ -ρ 50 + 8)) ∧ (¬ (0 ≤ -ρ 50 + 9)) ∧ (¬ (0 ≤ -ρ 50 + 10)) ∧ (¬ (0 ≤ -ρ 50 + 11)) ∧ (¬ (0 ≤ -ρ 50 + 12)) ∧ (¬ (0 ≤ -ρ 50 + 13)) ∧ (¬ (0 ≤ -ρ 50 + 14)) ∧ (¬ (0 ≤ -ρ 50 + 15)) ∧ (¬ (0 ≤ -ρ 50 + 16)) ∧ (¬ (0 ≤ -ρ 50 + 17)) ∧ (¬ (0 ≤ -ρ 50 + 18)) ∧ (ρ 25 ≤ ρ 47) := ⟨by omega, by omega, by omega, by omega, by omega, by omega, by omega, by omega, by omega, by omega, by omega, by omega, by omega, by omega, by omega, by omega, by omega, by omega, by omega, by omega, by omega, by omega⟩
  have m24 : γ 1 92 0 0 = ρ 28 := zAllA hm 24
  have m25 : γ 1 92 0 1 = ρ 29 := zAllA hm 25
  have m26 : γ 1 92 0 2 = ρ 30 := zAllA hm 26
  have m27 : γ 1 92 0 3 = ρ 31 := zAllA hm 27
  have m28 : γ 1 92 0 4 = ρ 32 := zAllA hm 28
  have m29 : γ 1 92 0 5 = ρ 33 := zAllA hm 29
  have m30 : γ 1 92 0 6 = ρ 34 := zAllA hm 30
  have m31 : γ 1 92 0 7 = ρ 35 := zAllA hm 31
  have m32 : γ 1 92 0 8 = ρ 36 := zAllA hm 32
  have m33 : γ 1 92 0 9 = ρ 37 := zAllA hm 33
  have m34 : γ 1 92 0 10 = ρ 38 := zAllA hm 34
  have m35 : γ 1 92 0 11 = ρ 39 := zAllA hm 35
  have m36 : γ 1 92 0 12 = ρ 40 := zAllA hm 36
  have m37 : γ 1 92 0 13 = ρ 41 := zAllA hm 37
  have m38 : γ 1 92 0 14 = ρ 42 := zAllA hm 38
  have m39 : γ 1 92 0 15 = ρ 43 := zAllA hm 39
  have m40 : γ 1 92 0 16 = ρ 44 := zAllA hm 40
  have m41 : γ 1 92 0 17 = ρ 45 := zAllA hm 41
  have m42 : γ 1 92 0 18 = ρ 46 := zAllA hm 42
  have m43 : γ 1 92 0 19 = ρ 47 := zAllA hm 43
  have m45 : γ 0 73 0 (ρ 26) = ρ 49 := zAllA hm 45
  have m46 : γ 0 69 0 (ρ 26) = ρ 50 := zAllA hm 46
  show jn77 [ρ 0, ρ 1, ρ 2, ρ 3, ρ 4, ρ 5, ρ 6, ρ 7, ρ 8, ρ 9, ρ 10, ρ 11, ρ 12, ρ 13, ρ 14, ρ 15, ρ 16, ρ 17, ρ 18, ρ 19, ρ 20, ρ 21, ρ 22, ρ 23] (γ 0) 2 [ρ 0, ρ 1, ρ 2, ρ 3, ρ 4, ρ 5, ρ 6, ρ 7, ρ 8, ρ 9, ρ 10, ρ 11, ρ 12, ρ 13, ρ 14, ρ 15, ρ 16, ρ 17, ρ 18, ρ 19, ρ 20, ρ 21, ρ 22, ρ 23, ρ 26 + 1, ρ 27, ρ 28, ρ 29, ρ 30, ρ 31, ρ 32, ρ 33, ρ 34, ρ 35, ρ 36, ρ 37, ρ 38, ρ 39, ρ 40, ρ 41, ρ 42, ρ 43, ρ 44, ρ 45, ρ 46, ρ 47, ρ 48] (γ 1)
  have hD : en77 (γ 0) (3, [ρ 24, ρ 25, ρ 26, ρ 27], γ 1) = .inl (2, [ρ 26 + 1, ρ 27], γ 1) := by
    unfold en77
    refine zIN (show ¬ (3 : Nat) = 0 by decide) (zIN (show ¬ (3 : Nat) = 1 by decide) (zIN (show ¬ (3 : Nat) = 2 by decide) (zIP (show (3 : Nat) = 3 by decide) (zLV (γ 1) rfl (zLV (ρ 24) rfl (zLV (ρ 25) rfl (zLV (ρ 26) rfl ?_)))))))
    refine zLV (ρ 27) rfl (zLE m24 (zLE m25 (zLE m26 (zLE m27 (zLE m28 (zLE m29 (zLE m30 ?_)))))))
    refine zLE m31 (zLE m32 (zLE m33 (zLE m34 (zLE m35 (zLE m36 (zLE m37 (zLE m38 ?_)))))))
    refine zLE m39 (zLE m40 (zLE m41 (zLE m42 (zLE m43 (zLE m45 (zIP w_0 (zIP w_1 ?_)))))))
    refine zLE m46 (zIN w_2 (zIN w_3 (zIN w_4 (zIN w_5 (zIN w_6 (zIN w_7 (zIN w_8 ?_)))))))
    refine zIN w_9 (zIN w_10 (zIN w_11 (zIN w_12 (zIN w_13 (zIN w_14 (zIN w_15 (zIN w_16 ?_)))))))
    refine zIN w_17 (zIN w_18 (zIN w_19 (zIN w_20 (zIP w_21 ?_))))
    rfl
  exact zGoo_ato hJ hD
theorem vn77a3_39 {S : Nat → zSpc}  {a : List Int} {g : rHp} : ∀ (ρ : Nat → Int) (γ : Nat → rHp), jn77 a g 3 (zAg (zNA a77_ 3) ρ) (γ 1) → zO 24 S a g q77a3_39 ρ γ → zGl (fun i vs g1 => jn77 a g i vs g1) (sn77 a g) q77a3_39 ρ γ := by
  intro ρ γ hJ h
  obtain ⟨ha, hg, hr, hf, hm, hc, hl⟩ := h
  have ha : a = [ρ 0, ρ 1, ρ 2, ρ 3, ρ 4, ρ 5, ρ 6, ρ 7, ρ 8, ρ 9, ρ 10, ρ 11, ρ 12, ρ 13, ρ 14, ρ 15, ρ 16, ρ 17, ρ 18, ρ 19, ρ 20, ρ 21, ρ 22, ρ 23] := ha
  subst ha
  subst hg
  have hJ : jn77 [ρ 0, ρ 1, ρ 2, ρ 3, ρ 4, ρ 5, ρ 6, ρ 7, ρ 8, ρ 9, ρ 10, ρ 11, ρ 12, ρ 13, ρ 14, ρ 15, ρ 16, ρ 17, ρ 18, ρ 19, ρ 20, ρ 21, ρ 22, ρ 23] (γ 0) 3 [ρ 0, ρ 1, ρ 2, ρ 3, ρ 4, ρ 5, ρ 6, ρ 7, ρ 8, ρ 9, ρ 10, ρ 11, ρ 12, ρ 13, ρ 14, ρ 15, ρ 16, ρ 17, ρ 18, ρ 19, ρ 20, ρ 21, ρ 22, ρ 23, ρ 24, ρ 25, ρ 26, ρ 27, ρ 28, ρ 29, ρ 30, ρ 31, ρ 32, ρ 33, ρ 34, ρ 35, ρ 36, ρ 37, ρ 38, ρ 39, ρ 40, ρ 41, ρ 42, ρ 43, ρ 44, ρ 45, ρ 46, ρ 47, ρ 48] (γ 1) := hJ
  have r25 : (0 : Int) ≤ ρ 25 ∧ ρ 25 ≤ 20 := zRnA hr 25
  have r50 : (19 : Int) ≤ ρ 50 ∧ ρ 50 ≤ 19 := zRnA hr 50
  have f0 : (0 : Int) ≤ -ρ 47 + ρ 25 + (-1) := zAllA hf 0
  have f1 : (0 : Int) ≤ -ρ 49 + ((-8) * ρ 26 + ρ 24) := zAllA hf 1
  obtain ⟨w_0, w_1, w_2, w_3, w_4, w_5, w_6, w_7, w_8, w_9, w_10, w_11, w_12, w_13, w_14, w_15, w_16, w_17, w_18, w_19, w_20, w_21⟩ : (ρ 24 ≥ ρ 49 + 8 * ρ 26) ∧ (ρ 25 ≤ 20) ∧ (¬ (0 ≤ -ρ 50)) ∧ (¬ (0 ≤ -ρ 50 + 1)) ∧ (¬ (0 ≤ -ρ 50 + 2)) ∧ (¬ (0 ≤ -ρ 50 + 3)) ∧ (¬ (0 ≤ -ρ 50 + 4)) ∧ (¬ (0 ≤ -ρ 50 + 5)) ∧ (¬ (0 ≤ -ρ 50 + 6)) ∧ (¬ (0 ≤ -ρ 50 + 7)) ∧ (¬ (0 ≤ -ρ 50 + 8)) ∧ (¬ (0 ≤ -ρ 50 + 9)) ∧ (¬ (0 ≤ -ρ 50 + 10)) ∧ (¬ (0 ≤ -ρ 50 + 11)) ∧ (¬ (0 ≤ -ρ 50 + 12)) ∧ (¬ (0 ≤ -ρ 50 + 13)) ∧ (¬ (0 ≤ -ρ 50 + 14)) ∧ (¬ (0 ≤ -ρ 50 + 15)) ∧ (¬ (0 ≤ -ρ 50 + 16)) ∧ (¬ (0 ≤ -ρ 50 + 17)) ∧ (¬ (0 ≤ -ρ 50 + 18)) ∧ (¬ (ρ 25 ≤ ρ 47)) := ⟨by omega, by omega, by omega, by omega, by omega, by omega, by omega, by omega, by omega, by omega, by omega, by omega, by omega, by omega, by omega, by omega, by omega, by omega, by omega, by omega, by omega, by omega⟩
  have m24 : γ 1 92 0 0 = ρ 28 := zAllA hm 24
  have m25 : γ 1 92 0 1 = ρ 29 := zAllA hm 25
  have m26 : γ 1 92 0 2 = ρ 30 := zAllA hm 26
  have m27 : γ 1 92 0 3 = ρ 31 := zAllA hm 27
  have m28 : γ 1 92 0 4 = ρ 32 := zAllA hm 28
  have m29 : γ 1 92 0 5 = ρ 33 := zAllA hm 29
  have m30 : γ 1 92 0 6 = ρ 34 := zAllA hm 30
  have m31 : γ 1 92 0 7 = ρ 35 := zAllA hm 31
  have m32 : γ 1 92 0 8 = ρ 36 := zAllA hm 32
  have m33 : γ 1 92 0 9 = ρ 37 := zAllA hm 33
  have m34 : γ 1 92 0 10 = ρ 38 := zAllA hm 34
  have m35 : γ 1 92 0 11 = ρ 39 := zAllA hm 35
  have m36 : γ 1 92 0 12 = ρ 40 := zAllA hm 36
  have m37 : γ 1 92 0 13 = ρ 41 := zAllA hm 37
  have m38 : γ 1 92 0 14 = ρ 42 := zAllA hm 38
  have m39 : γ 1 92 0 15 = ρ 43 := zAllA hm 39
  have m40 : γ 1 92 0 16 = ρ 44 := zAllA hm 40
  have m41 : γ 1 92 0 17 = ρ 45 := zAllA hm 41
  have m42 : γ 1 92 0 18 = ρ 46 := zAllA hm 42
  have m43 : γ 1 92 0 19 = ρ 47 := zAllA hm 43
  have m45 : γ 0 73 0 (ρ 26) = ρ 49 := zAllA hm 45
  have m46 : γ 0 69 0 (ρ 26) = ρ 50 := zAllA hm 46
  have c2 : γ 2 = rUp (γ 1) 92 0 (ρ 50) (ρ 25) := And.right (zChA hc 0)
  show jn77 [ρ 0, ρ 1, ρ 2, ρ 3, ρ 4, ρ 5, ρ 6, ρ 7, ρ 8, ρ 9, ρ 10, ρ 11, ρ 12, ρ 13, ρ 14, ρ 15, ρ 16, ρ 17, ρ 18, ρ 19, ρ 20, ρ 21, ρ 22, ρ 23] (γ 0) 2 [ρ 0, ρ 1, ρ 2, ρ 3, ρ 4, ρ 5, ρ 6, ρ 7, ρ 8, ρ 9, ρ 10, ρ 11, ρ 12, ρ 13, ρ 14, ρ 15, ρ 16, ρ 17, ρ 18, ρ 19, ρ 20, ρ 21, ρ 22, ρ 23, ρ 26 + 1, 1, ρ 28, ρ 29, ρ 30, ρ 31, ρ 32, ρ 33, ρ 34, ρ 35, ρ 36, ρ 37, ρ 38, ρ 39, ρ 40, ρ 41, ρ 42, ρ 43, ρ 44, ρ 45, ρ 46, ρ 25, ρ 48] (γ 2)
  have hD : en77 (γ 0) (3, [ρ 24, ρ 25, ρ 26, ρ 27], γ 1) = .inl (2, [ρ 26 + 1, 1], γ 2) := by
    unfold en77
    refine zIN (show ¬ (3 : Nat) = 0 by decide) (zIN (show ¬ (3 : Nat) = 1 by decide) (zIN (show ¬ (3 : Nat) = 2 by decide) (zIP (show (3 : Nat) = 3 by decide) (zLV (γ 1) rfl (zLV (ρ 24) rfl (zLV (ρ 25) rfl (zLV (ρ 26) rfl ?_)))))))
    refine zLV (ρ 27) rfl (zLE m24 (zLE m25 (zLE m26 (zLE m27 (zLE m28 (zLE m29 (zLE m30 ?_)))))))
    refine zLE m31 (zLE m32 (zLE m33 (zLE m34 (zLE m35 (zLE m36 (zLE m37 (zLE m38 ?_)))))))
    refine zLE m39 (zLE m40 (zLE m41 (zLE m42 (zLE m43 (zLE m45 (zIP w_0 (zIP w_1 ?_)))))))
    refine zLE m46 (zIN w_2 (zIN w_3 (zIN w_4 (zIN w_5 (zIN w_6 (zIN w_7 (zIN w_8 ?_)))))))
    refine zIN w_9 (zIN w_10 (zIN w_11 (zIN w_12 (zIN w_13 (zIN w_14 (zIN w_15 (zIN w_16 ?_)))))))
    refine zIN w_17 (zIN w_18 (zIN w_19 (zIN w_20 (zIN w_21 (zLE c2.symm ?_)))))
    rfl
  exact zGoo_ato hJ hD
theorem vn77a3_40 {S : Nat → zSpc}  {a : List Int} {g : rHp} : ∀ (ρ : Nat → Int) (γ : Nat → rHp), jn77 a g 3 (zAg (zNA a77_ 3) ρ) (γ 1) → zO 24 S a g q77a3_40 ρ γ → zGl (fun i vs g1 => jn77 a g i vs g1) (sn77 a g) q77a3_40 ρ γ := by
  intro ρ γ hJ h
  obtain ⟨ha, hg, hr, hf, hm, hc, hl⟩ := h
  have ha : a = [ρ 0, ρ 1, ρ 2, ρ 3, ρ 4, ρ 5, ρ 6, ρ 7, ρ 8, ρ 9, ρ 10, ρ 11, ρ 12, ρ 13, ρ 14, ρ 15, ρ 16, ρ 17, ρ 18, ρ 19, ρ 20, ρ 21, ρ 22, ρ 23] := ha
  subst ha
  subst hg
  have hJ : jn77 [ρ 0, ρ 1, ρ 2, ρ 3, ρ 4, ρ 5, ρ 6, ρ 7, ρ 8, ρ 9, ρ 10, ρ 11, ρ 12, ρ 13, ρ 14, ρ 15, ρ 16, ρ 17, ρ 18, ρ 19, ρ 20, ρ 21, ρ 22, ρ 23] (γ 0) 3 [ρ 0, ρ 1, ρ 2, ρ 3, ρ 4, ρ 5, ρ 6, ρ 7, ρ 8, ρ 9, ρ 10, ρ 11, ρ 12, ρ 13, ρ 14, ρ 15, ρ 16, ρ 17, ρ 18, ρ 19, ρ 20, ρ 21, ρ 22, ρ 23, ρ 24, ρ 25, ρ 26, ρ 27, ρ 28, ρ 29, ρ 30, ρ 31, ρ 32, ρ 33, ρ 34, ρ 35, ρ 36, ρ 37, ρ 38, ρ 39, ρ 40, ρ 41, ρ 42, ρ 43, ρ 44, ρ 45, ρ 46, ρ 47, ρ 48] (γ 1) := hJ
  have r25 : (21 : Int) ≤ ρ 25 ∧ ρ 25 ≤ 21 := zRnA hr 25
  have f0 : (0 : Int) ≤ -ρ 49 + ((-8) * ρ 26 + ρ 24) := zAllA hf 0
  obtain ⟨w_0, w_1⟩ : (ρ 24 ≥ ρ 49 + 8 * ρ 26) ∧ (¬ (ρ 25 ≤ 20)) := ⟨by omega, by omega⟩
  have m24 : γ 1 92 0 0 = ρ 28 := zAllA hm 24
  have m25 : γ 1 92 0 1 = ρ 29 := zAllA hm 25
  have m26 : γ 1 92 0 2 = ρ 30 := zAllA hm 26
  have m27 : γ 1 92 0 3 = ρ 31 := zAllA hm 27
  have m28 : γ 1 92 0 4 = ρ 32 := zAllA hm 28
  have m29 : γ 1 92 0 5 = ρ 33 := zAllA hm 29
  have m30 : γ 1 92 0 6 = ρ 34 := zAllA hm 30
  have m31 : γ 1 92 0 7 = ρ 35 := zAllA hm 31
  have m32 : γ 1 92 0 8 = ρ 36 := zAllA hm 32
  have m33 : γ 1 92 0 9 = ρ 37 := zAllA hm 33
  have m34 : γ 1 92 0 10 = ρ 38 := zAllA hm 34
  have m35 : γ 1 92 0 11 = ρ 39 := zAllA hm 35
  have m36 : γ 1 92 0 12 = ρ 40 := zAllA hm 36
  have m37 : γ 1 92 0 13 = ρ 41 := zAllA hm 37
  have m38 : γ 1 92 0 14 = ρ 42 := zAllA hm 38
  have m39 : γ 1 92 0 15 = ρ 43 := zAllA hm 39
  have m40 : γ 1 92 0 16 = ρ 44 := zAllA hm 40
  have m41 : γ 1 92 0 17 = ρ 45 := zAllA hm 41
  have m42 : γ 1 92 0 18 = ρ 46 := zAllA hm 42
  have m43 : γ 1 92 0 19 = ρ 47 := zAllA hm 43
  have m45 : γ 0 73 0 (ρ 26) = ρ 49 := zAllA hm 45
  show sn77 [ρ 0, ρ 1, ρ 2, ρ 3, ρ 4, ρ 5, ρ 6, ρ 7, ρ 8, ρ 9, ρ 10, ρ 11, ρ 12, ρ 13, ρ 14, ρ 15, ρ 16, ρ 17, ρ 18, ρ 19, ρ 20, ρ 21, ρ 22, ρ 23] (γ 0) 0 0 (γ 1)
  have hD : en77 (γ 0) (3, [ρ 24, ρ 25, ρ 26, ρ 27], γ 1) = .inr (0, 0, γ 1) := by
    unfold en77
    refine zIN (show ¬ (3 : Nat) = 0 by decide) (zIN (show ¬ (3 : Nat) = 1 by decide) (zIN (show ¬ (3 : Nat) = 2 by decide) (zIP (show (3 : Nat) = 3 by decide) (zLV (γ 1) rfl (zLV (ρ 24) rfl (zLV (ρ 25) rfl (zLV (ρ 26) rfl ?_)))))))
    refine zLV (ρ 27) rfl (zLE m24 (zLE m25 (zLE m26 (zLE m27 (zLE m28 (zLE m29 (zLE m30 ?_)))))))
    refine zLE m31 (zLE m32 (zLE m33 (zLE m34 (zLE m35 (zLE m36 (zLE m37 (zLE m38 ?_)))))))
    refine zLE m39 (zLE m40 (zLE m41 (zLE m42 (zLE m43 (zLE m45 (zIP w_0 (zIN w_1 ?_)))))))
    rfl
  exact zGoo_aend hJ hD
theorem vn77a3_41 {S : Nat → zSpc}  {a : List Int} {g : rHp} : ∀ (ρ : Nat → Int) (γ : Nat → rHp), jn77 a g 3 (zAg (zNA a77_ 3) ρ) (γ 1) → zO 24 S a g q77a3_41 ρ γ → zGl (fun i vs g1 => jn77 a g i vs g1) (sn77 a g) q77a3_41 ρ γ := by
  intro ρ γ hJ h
  obtain ⟨ha, hg, hr, hf, hm, hc, hl⟩ := h
  have ha : a = [ρ 0, ρ 1, ρ 2, ρ 3, ρ 4, ρ 5, ρ 6, ρ 7, ρ 8, ρ 9, ρ 10, ρ 11, ρ 12, ρ 13, ρ 14, ρ 15, ρ 16, ρ 17, ρ 18, ρ 19, ρ 20, ρ 21, ρ 22, ρ 23] := ha
  subst ha
  subst hg
  have hJ : jn77 [ρ 0, ρ 1, ρ 2, ρ 3, ρ 4, ρ 5, ρ 6, ρ 7, ρ 8, ρ 9, ρ 10, ρ 11, ρ 12, ρ 13, ρ 14, ρ 15, ρ 16, ρ 17, ρ 18, ρ 19, ρ 20, ρ 21, ρ 22, ρ 23] (γ 0) 3 [ρ 0, ρ 1, ρ 2, ρ 3, ρ 4, ρ 5, ρ 6, ρ 7, ρ 8, ρ 9, ρ 10, ρ 11, ρ 12, ρ 13, ρ 14, ρ 15, ρ 16, ρ 17, ρ 18, ρ 19, ρ 20, ρ 21, ρ 22, ρ 23, ρ 24, ρ 25, ρ 26, ρ 27, ρ 28, ρ 29, ρ 30, ρ 31, ρ 32, ρ 33, ρ 34, ρ 35, ρ 36, ρ 37, ρ 38, ρ 39, ρ 40, ρ 41, ρ 42, ρ 43, ρ 44, ρ 45, ρ 46, ρ 47, ρ 48] (γ 1) := hJ
  have r50 : (1 : Int) ≤ ρ 50 ∧ ρ 50 ≤ 1 := zRnA hr 50
  have f0 : (0 : Int) ≤ -ρ 52 + ρ 25 + (-1) := zAllA hf 0
  have f1 : (0 : Int) ≤ ρ 49 + (8 * ρ 26 + -ρ 24) + (-1) := zAllA hf 1
  obtain ⟨w_0, w_1, w_2, w_3⟩ : (¬ (ρ 24 ≥ ρ 49 + 8 * ρ 26)) ∧ (ρ 50 ≤ 1) ∧ (ρ 50 = 1) ∧ (ρ 52 + 1 ≤ ρ 25) := ⟨by omega, by omega, by omega, by omega⟩
  have m24 : γ 1 92 0 0 = ρ 28 := zAllA hm 24
  have m25 : γ 1 92 0 1 = ρ 29 := zAllA hm 25
  have m26 : γ 1 92 0 2 = ρ 30 := zAllA hm 26
  have m27 : γ 1 92 0 3 = ρ 31 := zAllA hm 27
  have m28 : γ 1 92 0 4 = ρ 32 := zAllA hm 28
  have m29 : γ 1 92 0 5 = ρ 33 := zAllA hm 29
  have m30 : γ 1 92 0 6 = ρ 34 := zAllA hm 30
  have m31 : γ 1 92 0 7 = ρ 35 := zAllA hm 31
  have m32 : γ 1 92 0 8 = ρ 36 := zAllA hm 32
  have m33 : γ 1 92 0 9 = ρ 37 := zAllA hm 33
  have m34 : γ 1 92 0 10 = ρ 38 := zAllA hm 34
  have m35 : γ 1 92 0 11 = ρ 39 := zAllA hm 35
  have m36 : γ 1 92 0 12 = ρ 40 := zAllA hm 36
  have m37 : γ 1 92 0 13 = ρ 41 := zAllA hm 37
  have m38 : γ 1 92 0 14 = ρ 42 := zAllA hm 38
  have m39 : γ 1 92 0 15 = ρ 43 := zAllA hm 39
  have m40 : γ 1 92 0 16 = ρ 44 := zAllA hm 40
  have m41 : γ 1 92 0 17 = ρ 45 := zAllA hm 41
  have m42 : γ 1 92 0 18 = ρ 46 := zAllA hm 42
  have m43 : γ 1 92 0 19 = ρ 47 := zAllA hm 43
  have m45 : γ 0 73 0 (ρ 26) = ρ 49 := zAllA hm 45
  have m46 : γ 0 77 0 (ρ 24) = ρ 50 := zAllA hm 46
  have m47 : γ 0 78 0 (ρ 24) = ρ 51 := zAllA hm 47
  have m48 : γ 1 92 0 (ρ 51) = ρ 52 := zAllA hm 48
  show jn77 [ρ 0, ρ 1, ρ 2, ρ 3, ρ 4, ρ 5, ρ 6, ρ 7, ρ 8, ρ 9, ρ 10, ρ 11, ρ 12, ρ 13, ρ 14, ρ 15, ρ 16, ρ 17, ρ 18, ρ 19, ρ 20, ρ 21, ρ 22, ρ 23] (γ 0) 3 [ρ 0, ρ 1, ρ 2, ρ 3, ρ 4, ρ 5, ρ 6, ρ 7, ρ 8, ρ 9, ρ 10, ρ 11, ρ 12, ρ 13, ρ 14, ρ 15, ρ 16, ρ 17, ρ 18, ρ 19, ρ 20, ρ 21, ρ 22, ρ 23, ρ 24 + 1, ρ 25, ρ 26, ρ 27, ρ 28, ρ 29, ρ 30, ρ 31, ρ 32, ρ 33, ρ 34, ρ 35, ρ 36, ρ 37, ρ 38, ρ 39, ρ 40, ρ 41, ρ 42, ρ 43, ρ 44, ρ 45, ρ 46, ρ 47, ρ 48] (γ 1)
  have hD : en77 (γ 0) (3, [ρ 24, ρ 25, ρ 26, ρ 27], γ 1) = .inl (3, [ρ 24 + 1, ρ 25, ρ 26, ρ 27], γ 1) := by
    unfold en77
    refine zIN (show ¬ (3 : Nat) = 0 by decide) (zIN (show ¬ (3 : Nat) = 1 by decide) (zIN (show ¬ (3 : Nat) = 2 by decide) (zIP (show (3 : Nat) = 3 by decide) (zLV (γ 1) rfl (zLV (ρ 24) rfl (zLV (ρ 25) rfl (zLV (ρ 26) rfl ?_)))))))
    refine zLV (ρ 27) rfl (zLE m24 (zLE m25 (zLE m26 (zLE m27 (zLE m28 (zLE m29 (zLE m30 ?_)))))))
    refine zLE m31 (zLE m32 (zLE m33 (zLE m34 (zLE m35 (zLE m36 (zLE m37 (zLE m38 ?_)))))))
    refine zLE m39 (zLE m40 (zLE m41 (zLE m42 (zLE m43 (zLE m45 (zIN w_0 (zLE m46 ?_)))))))
    refine zIP w_1 (zLE m47 (zLE m48 (zIP w_2 (zIP w_3 ?_))))
    rfl
  exact zGoo_ato hJ hD
theorem vn77a3_42 {S : Nat → zSpc}  {a : List Int} {g : rHp} : ∀ (ρ : Nat → Int) (γ : Nat → rHp), jn77 a g 3 (zAg (zNA a77_ 3) ρ) (γ 1) → zO 24 S a g q77a3_42 ρ γ → zGl (fun i vs g1 => jn77 a g i vs g1) (sn77 a g) q77a3_42 ρ γ := by
  intro ρ γ hJ h
  obtain ⟨ha, hg, hr, hf, hm, hc, hl⟩ := h
  have ha : a = [ρ 0, ρ 1, ρ 2, ρ 3, ρ 4, ρ 5, ρ 6, ρ 7, ρ 8, ρ 9, ρ 10, ρ 11, ρ 12, ρ 13, ρ 14, ρ 15, ρ 16, ρ 17, ρ 18, ρ 19, ρ 20, ρ 21, ρ 22, ρ 23] := ha
  subst ha
  subst hg
  have hJ : jn77 [ρ 0, ρ 1, ρ 2, ρ 3, ρ 4, ρ 5, ρ 6, ρ 7, ρ 8, ρ 9, ρ 10, ρ 11, ρ 12, ρ 13, ρ 14, ρ 15, ρ 16, ρ 17, ρ 18, ρ 19, ρ 20, ρ 21, ρ 22, ρ 23] (γ 0) 3 [ρ 0, ρ 1, ρ 2, ρ 3, ρ 4, ρ 5, ρ 6, ρ 7, ρ 8, ρ 9, ρ 10, ρ 11, ρ 12, ρ 13, ρ 14, ρ 15, ρ 16, ρ 17, ρ 18, ρ 19, ρ 20, ρ 21, ρ 22, ρ 23, ρ 24, ρ 25, ρ 26, ρ 27, ρ 28, ρ 29, ρ 30, ρ 31, ρ 32, ρ 33, ρ 34, ρ 35, ρ 36, ρ 37, ρ 38, ρ 39, ρ 40, ρ 41, ρ 42, ρ 43, ρ 44, ρ 45, ρ 46, ρ 47, ρ 48] (γ 1) := hJ
  have r50 : (1 : Int) ≤ ρ 50 ∧ ρ 50 ≤ 1 := zRnA hr 50
  have f0 : (0 : Int) ≤ ρ 52 + -ρ 25 := zAllA hf 0
  have f1 : (0 : Int) ≤ ρ 49 + (8 * ρ 26 + -ρ 24) + (-1) := zAllA hf 1
  obtain ⟨w_0, w_1, w_2, w_3⟩ : (¬ (ρ 24 ≥ ρ 49 + 8 * ρ 26)) ∧ (ρ 50 ≤ 1) ∧ (ρ 50 = 1) ∧ (¬ (ρ 52 + 1 ≤ ρ 25)) := ⟨by omega, by omega, by omega, by omega⟩
  have m24 : γ 1 92 0 0 = ρ 28 := zAllA hm 24
  have m25 : γ 1 92 0 1 = ρ 29 := zAllA hm 25
  have m26 : γ 1 92 0 2 = ρ 30 := zAllA hm 26
  have m27 : γ 1 92 0 3 = ρ 31 := zAllA hm 27
  have m28 : γ 1 92 0 4 = ρ 32 := zAllA hm 28
  have m29 : γ 1 92 0 5 = ρ 33 := zAllA hm 29
  have m30 : γ 1 92 0 6 = ρ 34 := zAllA hm 30
  have m31 : γ 1 92 0 7 = ρ 35 := zAllA hm 31
  have m32 : γ 1 92 0 8 = ρ 36 := zAllA hm 32
  have m33 : γ 1 92 0 9 = ρ 37 := zAllA hm 33
  have m34 : γ 1 92 0 10 = ρ 38 := zAllA hm 34
  have m35 : γ 1 92 0 11 = ρ 39 := zAllA hm 35
  have m36 : γ 1 92 0 12 = ρ 40 := zAllA hm 36
  have m37 : γ 1 92 0 13 = ρ 41 := zAllA hm 37
  have m38 : γ 1 92 0 14 = ρ 42 := zAllA hm 38
  have m39 : γ 1 92 0 15 = ρ 43 := zAllA hm 39
  have m40 : γ 1 92 0 16 = ρ 44 := zAllA hm 40
  have m41 : γ 1 92 0 17 = ρ 45 := zAllA hm 41
  have m42 : γ 1 92 0 18 = ρ 46 := zAllA hm 42
  have m43 : γ 1 92 0 19 = ρ 47 := zAllA hm 43
  have m45 : γ 0 73 0 (ρ 26) = ρ 49 := zAllA hm 45
  have m46 : γ 0 77 0 (ρ 24) = ρ 50 := zAllA hm 46
  have m47 : γ 0 78 0 (ρ 24) = ρ 51 := zAllA hm 47
  have m48 : γ 1 92 0 (ρ 51) = ρ 52 := zAllA hm 48
  show jn77 [ρ 0, ρ 1, ρ 2, ρ 3, ρ 4, ρ 5, ρ 6, ρ 7, ρ 8, ρ 9, ρ 10, ρ 11, ρ 12, ρ 13, ρ 14, ρ 15, ρ 16, ρ 17, ρ 18, ρ 19, ρ 20, ρ 21, ρ 22, ρ 23] (γ 0) 3 [ρ 0, ρ 1, ρ 2, ρ 3, ρ 4, ρ 5, ρ 6, ρ 7, ρ 8, ρ 9, ρ 10, ρ 11, ρ 12, ρ 13, ρ 14, ρ 15, ρ 16, ρ 17, ρ 18, ρ 19, ρ 20, ρ 21, ρ 22, ρ 23, ρ 24 + 1, ρ 52 + 1, ρ 26, ρ 27, ρ 28, ρ 29, ρ 30, ρ 31, ρ 32, ρ 33, ρ 34, ρ 35, ρ 36, ρ 37, ρ 38, ρ 39, ρ 40, ρ 41, ρ 42, ρ 43, ρ 44, ρ 45, ρ 46, ρ 47, ρ 48] (γ 1)
  have hD : en77 (γ 0) (3, [ρ 24, ρ 25, ρ 26, ρ 27], γ 1) = .inl (3, [ρ 24 + 1, ρ 52 + 1, ρ 26, ρ 27], γ 1) := by
    unfold en77
    refine zIN (show ¬ (3 : Nat) = 0 by decide) (zIN (show ¬ (3 : Nat) = 1 by decide) (zIN (show ¬ (3 : Nat) = 2 by decide) (zIP (show (3 : Nat) = 3 by decide) (zLV (γ 1) rfl (zLV (ρ 24) rfl (zLV (ρ 25) rfl (zLV (ρ 26) rfl ?_)))))))
    refine zLV (ρ 27) rfl (zLE m24 (zLE m25 (zLE m26 (zLE m27 (zLE m28 (zLE m29 (zLE m30 ?_)))))))
    refine zLE m31 (zLE m32 (zLE m33 (zLE m34 (zLE m35 (zLE m36 (zLE m37 (zLE m38 ?_)))))))
    refine zLE m39 (zLE m40 (zLE m41 (zLE m42 (zLE m43 (zLE m45 (zIN w_0 (zLE m46 ?_)))))))
    refine zIP w_1 (zLE m47 (zLE m48 (zIP w_2 (zIN w_3 ?_))))
    rfl
  exact zGoo_ato hJ hD
theorem vn77a3_43 {S : Nat → zSpc}  {a : List Int} {g : rHp} : ∀ (ρ : Nat → Int) (γ : Nat → rHp), jn77 a g 3 (zAg (zNA a77_ 3) ρ) (γ 1) → zO 24 S a g q77a3_43 ρ γ → zGl (fun i vs g1 => jn77 a g i vs g1) (sn77 a g) q77a3_43 ρ γ := by
  intro ρ γ hJ h
  obtain ⟨ha, hg, hr, hf, hm, hc, hl⟩ := h
  have ha : a = [ρ 0, ρ 1, ρ 2, ρ 3, ρ 4, ρ 5, ρ 6, ρ 7, ρ 8, ρ 9, ρ 10, ρ 11, ρ 12, ρ 13, ρ 14, ρ 15, ρ 16, ρ 17, ρ 18, ρ 19, ρ 20, ρ 21, ρ 22, ρ 23] := ha
  subst ha
  subst hg
  have hJ : jn77 [ρ 0, ρ 1, ρ 2, ρ 3, ρ 4, ρ 5, ρ 6, ρ 7, ρ 8, ρ 9, ρ 10, ρ 11, ρ 12, ρ 13, ρ 14, ρ 15, ρ 16, ρ 17, ρ 18, ρ 19, ρ 20, ρ 21, ρ 22, ρ 23] (γ 0) 3 [ρ 0, ρ 1, ρ 2, ρ 3, ρ 4, ρ 5, ρ 6, ρ 7, ρ 8, ρ 9, ρ 10, ρ 11, ρ 12, ρ 13, ρ 14, ρ 15, ρ 16, ρ 17, ρ 18, ρ 19, ρ 20, ρ 21, ρ 22, ρ 23, ρ 24, ρ 25, ρ 26, ρ 27, ρ 28, ρ 29, ρ 30, ρ 31, ρ 32, ρ 33, ρ 34, ρ 35, ρ 36, ρ 37, ρ 38, ρ 39, ρ 40, ρ 41, ρ 42, ρ 43, ρ 44, ρ 45, ρ 46, ρ 47, ρ 48] (γ 1) := hJ
  have r50 : (0 : Int) ≤ ρ 50 ∧ ρ 50 ≤ 0 := zRnA hr 50
  have r53 : (0 : Int) ≤ ρ 53 ∧ ρ 53 ≤ 0 := zRnA hr 53
  have f0 : (0 : Int) ≤ -ρ 52 + ρ 25 := zAllA hf 0
  have f1 : (0 : Int) ≤ ρ 49 + (8 * ρ 26 + -ρ 24) + (-1) := zAllA hf 1
  obtain ⟨w_0, w_1, w_2, w_3, w_4⟩ : (¬ (ρ 24 ≥ ρ 49 + 8 * ρ 26)) ∧ (ρ 50 ≤ 1) ∧ (¬ (ρ 50 = 1)) ∧ (ρ 53 ≤ 0) ∧ (ρ 52 ≤ ρ 25) := ⟨by omega, by omega, by omega, by omega, by omega⟩
  have m24 : γ 1 92 0 0 = ρ 28 := zAllA hm 24
  have m25 : γ 1 92 0 1 = ρ 29 := zAllA hm 25
  have m26 : γ 1 92 0 2 = ρ 30 := zAllA hm 26
  have m27 : γ 1 92 0 3 = ρ 31 := zAllA hm 27
  have m28 : γ 1 92 0 4 = ρ 32 := zAllA hm 28
  have m29 : γ 1 92 0 5 = ρ 33 := zAllA hm 29
  have m30 : γ 1 92 0 6 = ρ 34 := zAllA hm 30
  have m31 : γ 1 92 0 7 = ρ 35 := zAllA hm 31
  have m32 : γ 1 92 0 8 = ρ 36 := zAllA hm 32
  have m33 : γ 1 92 0 9 = ρ 37 := zAllA hm 33
  have m34 : γ 1 92 0 10 = ρ 38 := zAllA hm 34
  have m35 : γ 1 92 0 11 = ρ 39 := zAllA hm 35
  have m36 : γ 1 92 0 12 = ρ 40 := zAllA hm 36
  have m37 : γ 1 92 0 13 = ρ 41 := zAllA hm 37
  have m38 : γ 1 92 0 14 = ρ 42 := zAllA hm 38
  have m39 : γ 1 92 0 15 = ρ 43 := zAllA hm 39
  have m40 : γ 1 92 0 16 = ρ 44 := zAllA hm 40
  have m41 : γ 1 92 0 17 = ρ 45 := zAllA hm 41
  have m42 : γ 1 92 0 18 = ρ 46 := zAllA hm 42
  have m43 : γ 1 92 0 19 = ρ 47 := zAllA hm 43
  have m45 : γ 0 73 0 (ρ 26) = ρ 49 := zAllA hm 45
  have m46 : γ 0 77 0 (ρ 24) = ρ 50 := zAllA hm 46
  have m47 : γ 0 78 0 (ρ 24) = ρ 51 := zAllA hm 47
  have m48 : γ 1 92 0 (ρ 51) = ρ 52 := zAllA hm 48
  have m49 : γ 0 71 0 (ρ 26) = ρ 53 := zAllA hm 49
  show jn77 [ρ 0, ρ 1, ρ 2, ρ 3, ρ 4, ρ 5, ρ 6, ρ 7, ρ 8, ρ 9, ρ 10, ρ 11, ρ 12, ρ 13, ρ 14, ρ 15, ρ 16, ρ 17, ρ 18, ρ 19, ρ 20, ρ 21, ρ 22, ρ 23] (γ 0) 3 [ρ 0, ρ 1, ρ 2, ρ 3, ρ 4, ρ 5, ρ 6, ρ 7, ρ 8, ρ 9, ρ 10, ρ 11, ρ 12, ρ 13, ρ 14, ρ 15, ρ 16, ρ 17, ρ 18, ρ 19, ρ 20, ρ 21, ρ 22, ρ 23, ρ 24 + 1, ρ 25, ρ 26, ρ 27, ρ 28, ρ 29, ρ 30, ρ 31, ρ 32, ρ 33, ρ 34, ρ 35, ρ 36, ρ 37, ρ 38, ρ 39, ρ 40, ρ 41, ρ 42, ρ 43, ρ 44, ρ 45, ρ 46, ρ 47, ρ 48] (γ 1)
  have hD : en77 (γ 0) (3, [ρ 24, ρ 25, ρ 26, ρ 27], γ 1) = .inl (3, [ρ 24 + 1, ρ 25, ρ 26, ρ 27], γ 1) := by
    unfold en77
    refine zIN (show ¬ (3 : Nat) = 0 by decide) (zIN (show ¬ (3 : Nat) = 1 by decide) (zIN (show ¬ (3 : Nat) = 2 by decide) (zIP (show (3 : Nat) = 3 by decide) (zLV (γ 1) rfl (zLV (ρ 24) rfl (zLV (ρ 25) rfl (zLV (ρ 26) rfl ?_)))))))
    refine zLV (ρ 27) rfl (zLE m24 (zLE m25 (zLE m26 (zLE m27 (zLE m28 (zLE m29 (zLE m30 ?_)))))))
    refine zLE m31 (zLE m32 (zLE m33 (zLE m34 (zLE m35 (zLE m36 (zLE m37 (zLE m38 ?_)))))))
    refine zLE m39 (zLE m40 (zLE m41 (zLE m42 (zLE m43 (zLE m45 (zIN w_0 (zLE m46 ?_)))))))
    refine zIP w_1 (zLE m47 (zLE m48 (zIN w_2 (zLE m49 (zIP w_3 (zIP w_4 ?_))))))
    rfl
  exact zGoo_ato hJ hD
theorem vn77a3_44 {S : Nat → zSpc}  {a : List Int} {g : rHp} : ∀ (ρ : Nat → Int) (γ : Nat → rHp), jn77 a g 3 (zAg (zNA a77_ 3) ρ) (γ 1) → zO 24 S a g q77a3_44 ρ γ → zGl (fun i vs g1 => jn77 a g i vs g1) (sn77 a g) q77a3_44 ρ γ := by
  intro ρ γ hJ h
  obtain ⟨ha, hg, hr, hf, hm, hc, hl⟩ := h
  have ha : a = [ρ 0, ρ 1, ρ 2, ρ 3, ρ 4, ρ 5, ρ 6, ρ 7, ρ 8, ρ 9, ρ 10, ρ 11, ρ 12, ρ 13, ρ 14, ρ 15, ρ 16, ρ 17, ρ 18, ρ 19, ρ 20, ρ 21, ρ 22, ρ 23] := ha
  subst ha
  subst hg
  have hJ : jn77 [ρ 0, ρ 1, ρ 2, ρ 3, ρ 4, ρ 5, ρ 6, ρ 7, ρ 8, ρ 9, ρ 10, ρ 11, ρ 12, ρ 13, ρ 14, ρ 15, ρ 16, ρ 17, ρ 18, ρ 19, ρ 20, ρ 21, ρ 22, ρ 23] (γ 0) 3 [ρ 0, ρ 1, ρ 2, ρ 3, ρ 4, ρ 5, ρ 6, ρ 7, ρ 8, ρ 9, ρ 10, ρ 11, ρ 12, ρ 13, ρ 14, ρ 15, ρ 16, ρ 17, ρ 18, ρ 19, ρ 20, ρ 21, ρ 22, ρ 23, ρ 24, ρ 25, ρ 26, ρ 27, ρ 28, ρ 29, ρ 30, ρ 31, ρ 32, ρ 33, ρ 34, ρ 35, ρ 36, ρ 37, ρ 38, ρ 39, ρ 40, ρ 41, ρ 42, ρ 43, ρ 44, ρ 45, ρ 46, ρ 47, ρ 48] (γ 1) := hJ
  have r50 : (0 : Int) ≤ ρ 50 ∧ ρ 50 ≤ 0 := zRnA hr 50
  have r53 : (0 : Int) ≤ ρ 53 ∧ ρ 53 ≤ 0 := zRnA hr 53
  have f0 : (0 : Int) ≤ ρ 52 + -ρ 25 + (-1) := zAllA hf 0
  have f1 : (0 : Int) ≤ ρ 49 + (8 * ρ 26 + -ρ 24) + (-1) := zAllA hf 1
  obtain ⟨w_0, w_1, w_2, w_3, w_4⟩ : (¬ (ρ 24 ≥ ρ 49 + 8 * ρ 26)) ∧ (ρ 50 ≤ 1) ∧ (¬ (ρ 50 = 1)) ∧ (ρ 53 ≤ 0) ∧ (¬ (ρ 52 ≤ ρ 25)) := ⟨by omega, by omega, by omega, by omega, by omega⟩
  have m24 : γ 1 92 0 0 = ρ 28 := zAllA hm 24
  have m25 : γ 1 92 0 1 = ρ 29 := zAllA hm 25
  have m26 : γ 1 92 0 2 = ρ 30 := zAllA hm 26
  have m27 : γ 1 92 0 3 = ρ 31 := zAllA hm 27
  have m28 : γ 1 92 0 4 = ρ 32 := zAllA hm 28
  have m29 : γ 1 92 0 5 = ρ 33 := zAllA hm 29
  have m30 : γ 1 92 0 6 = ρ 34 := zAllA hm 30
  have m31 : γ 1 92 0 7 = ρ 35 := zAllA hm 31
  have m32 : γ 1 92 0 8 = ρ 36 := zAllA hm 32
  have m33 : γ 1 92 0 9 = ρ 37 := zAllA hm 33
  have m34 : γ 1 92 0 10 = ρ 38 := zAllA hm 34
  have m35 : γ 1 92 0 11 = ρ 39 := zAllA hm 35
  have m36 : γ 1 92 0 12 = ρ 40 := zAllA hm 36
  have m37 : γ 1 92 0 13 = ρ 41 := zAllA hm 37
  have m38 : γ 1 92 0 14 = ρ 42 := zAllA hm 38
  have m39 : γ 1 92 0 15 = ρ 43 := zAllA hm 39
  have m40 : γ 1 92 0 16 = ρ 44 := zAllA hm 40
  have m41 : γ 1 92 0 17 = ρ 45 := zAllA hm 41
  have m42 : γ 1 92 0 18 = ρ 46 := zAllA hm 42
  have m43 : γ 1 92 0 19 = ρ 47 := zAllA hm 43
  have m45 : γ 0 73 0 (ρ 26) = ρ 49 := zAllA hm 45
  have m46 : γ 0 77 0 (ρ 24) = ρ 50 := zAllA hm 46
  have m47 : γ 0 78 0 (ρ 24) = ρ 51 := zAllA hm 47
  have m48 : γ 1 92 0 (ρ 51) = ρ 52 := zAllA hm 48
  have m49 : γ 0 71 0 (ρ 26) = ρ 53 := zAllA hm 49
  show jn77 [ρ 0, ρ 1, ρ 2, ρ 3, ρ 4, ρ 5, ρ 6, ρ 7, ρ 8, ρ 9, ρ 10, ρ 11, ρ 12, ρ 13, ρ 14, ρ 15, ρ 16, ρ 17, ρ 18, ρ 19, ρ 20, ρ 21, ρ 22, ρ 23] (γ 0) 3 [ρ 0, ρ 1, ρ 2, ρ 3, ρ 4, ρ 5, ρ 6, ρ 7, ρ 8, ρ 9, ρ 10, ρ 11, ρ 12, ρ 13, ρ 14, ρ 15, ρ 16, ρ 17, ρ 18, ρ 19, ρ 20, ρ 21, ρ 22, ρ 23, ρ 24 + 1, ρ 52, ρ 26, ρ 27, ρ 28, ρ 29, ρ 30, ρ 31, ρ 32, ρ 33, ρ 34, ρ 35, ρ 36, ρ 37, ρ 38, ρ 39, ρ 40, ρ 41, ρ 42, ρ 43, ρ 44, ρ 45, ρ 46, ρ 47, ρ 48] (γ 1)
  have hD : en77 (γ 0) (3, [ρ 24, ρ 25, ρ 26, ρ 27], γ 1) = .inl (3, [ρ 24 + 1, ρ 52, ρ 26, ρ 27], γ 1) := by
    unfold en77
    refine zIN (show ¬ (3 : Nat) = 0 by decide) (zIN (show ¬ (3 : Nat) = 1 by decide) (zIN (show ¬ (3 : Nat) = 2 by decide) (zIP (show (3 : Nat) = 3 by decide) (zLV (γ 1) rfl (zLV (ρ 24) rfl (zLV (ρ 25) rfl (zLV (ρ 26) rfl ?_)))))))
    refine zLV (ρ 27) rfl (zLE m24 (zLE m25 (zLE m26 (zLE m27 (zLE m28 (zLE m29 (zLE m30 ?_)))))))
    refine zLE m31 (zLE m32 (zLE m33 (zLE m34 (zLE m35 (zLE m36 (zLE m37 (zLE m38 ?_)))))))
    refine zLE m39 (zLE m40 (zLE m41 (zLE m42 (zLE m43 (zLE m45 (zIN w_0 (zLE m46 ?_)))))))
    refine zIP w_1 (zLE m47 (zLE m48 (zIN w_2 (zLE m49 (zIP w_3 (zIN w_4 ?_))))))
    rfl
  exact zGoo_ato hJ hD
theorem vn77a3_45 {S : Nat → zSpc}  {a : List Int} {g : rHp} : ∀ (ρ : Nat → Int) (γ : Nat → rHp), jn77 a g 3 (zAg (zNA a77_ 3) ρ) (γ 1) → zO 24 S a g q77a3_45 ρ γ → zGl (fun i vs g1 => jn77 a g i vs g1) (sn77 a g) q77a3_45 ρ γ := by
  intro ρ γ hJ h
  obtain ⟨ha, hg, hr, hf, hm, hc, hl⟩ := h
  have ha : a = [ρ 0, ρ 1, ρ 2, ρ 3, ρ 4, ρ 5, ρ 6, ρ 7, ρ 8, ρ 9, ρ 10, ρ 11, ρ 12, ρ 13, ρ 14, ρ 15, ρ 16, ρ 17, ρ 18, ρ 19, ρ 20, ρ 21, ρ 22, ρ 23] := ha
  subst ha
  subst hg
  have hJ : jn77 [ρ 0, ρ 1, ρ 2, ρ 3, ρ 4, ρ 5, ρ 6, ρ 7, ρ 8, ρ 9, ρ 10, ρ 11, ρ 12, ρ 13, ρ 14, ρ 15, ρ 16, ρ 17, ρ 18, ρ 19, ρ 20, ρ 21, ρ 22, ρ 23] (γ 0) 3 [ρ 0, ρ 1, ρ 2, ρ 3, ρ 4, ρ 5, ρ 6, ρ 7, ρ 8, ρ 9, ρ 10, ρ 11, ρ 12, ρ 13, ρ 14, ρ 15, ρ 16, ρ 17, ρ 18, ρ 19, ρ 20, ρ 21, ρ 22, ρ 23, ρ 24, ρ 25, ρ 26, ρ 27, ρ 28, ρ 29, ρ 30, ρ 31, ρ 32, ρ 33, ρ 34, ρ 35, ρ 36, ρ 37, ρ 38, ρ 39, ρ 40, ρ 41, ρ 42, ρ 43, ρ 44, ρ 45, ρ 46, ρ 47, ρ 48] (γ 1) := hJ
  have r50 : (0 : Int) ≤ ρ 50 ∧ ρ 50 ≤ 0 := zRnA hr 50
  have r53 : (1 : Int) ≤ ρ 53 ∧ ρ 53 ≤ 4 := zRnA hr 53
  have f0 : (0 : Int) ≤ -ρ 52 + ρ 25 + (-1) := zAllA hf 0
  have f1 : (0 : Int) ≤ ρ 49 + (8 * ρ 26 + -ρ 24) + (-1) := zAllA hf 1
  obtain ⟨w_0, w_1, w_2, w_3, w_4⟩ : (¬ (ρ 24 ≥ ρ 49 + 8 * ρ 26)) ∧ (ρ 50 ≤ 1) ∧ (¬ (ρ 50 = 1)) ∧ (¬ (ρ 53 ≤ 0)) ∧ (ρ 52 + 1 ≤ ρ 25) := ⟨by omega, by omega, by omega, by omega, by omega⟩
  have m24 : γ 1 92 0 0 = ρ 28 := zAllA hm 24
  have m25 : γ 1 92 0 1 = ρ 29 := zAllA hm 25
  have m26 : γ 1 92 0 2 = ρ 30 := zAllA hm 26
  have m27 : γ 1 92 0 3 = ρ 31 := zAllA hm 27
  have m28 : γ 1 92 0 4 = ρ 32 := zAllA hm 28
  have m29 : γ 1 92 0 5 = ρ 33 := zAllA hm 29
  have m30 : γ 1 92 0 6 = ρ 34 := zAllA hm 30
  have m31 : γ 1 92 0 7 = ρ 35 := zAllA hm 31
  have m32 : γ 1 92 0 8 = ρ 36 := zAllA hm 32
  have m33 : γ 1 92 0 9 = ρ 37 := zAllA hm 33
  have m34 : γ 1 92 0 10 = ρ 38 := zAllA hm 34
  have m35 : γ 1 92 0 11 = ρ 39 := zAllA hm 35
  have m36 : γ 1 92 0 12 = ρ 40 := zAllA hm 36
  have m37 : γ 1 92 0 13 = ρ 41 := zAllA hm 37
  have m38 : γ 1 92 0 14 = ρ 42 := zAllA hm 38
  have m39 : γ 1 92 0 15 = ρ 43 := zAllA hm 39
  have m40 : γ 1 92 0 16 = ρ 44 := zAllA hm 40
  have m41 : γ 1 92 0 17 = ρ 45 := zAllA hm 41
  have m42 : γ 1 92 0 18 = ρ 46 := zAllA hm 42
  have m43 : γ 1 92 0 19 = ρ 47 := zAllA hm 43
  have m45 : γ 0 73 0 (ρ 26) = ρ 49 := zAllA hm 45
  have m46 : γ 0 77 0 (ρ 24) = ρ 50 := zAllA hm 46
  have m47 : γ 0 78 0 (ρ 24) = ρ 51 := zAllA hm 47
  have m48 : γ 1 92 0 (ρ 51) = ρ 52 := zAllA hm 48
  have m49 : γ 0 71 0 (ρ 26) = ρ 53 := zAllA hm 49
  show jn77 [ρ 0, ρ 1, ρ 2, ρ 3, ρ 4, ρ 5, ρ 6, ρ 7, ρ 8, ρ 9, ρ 10, ρ 11, ρ 12, ρ 13, ρ 14, ρ 15, ρ 16, ρ 17, ρ 18, ρ 19, ρ 20, ρ 21, ρ 22, ρ 23] (γ 0) 3 [ρ 0, ρ 1, ρ 2, ρ 3, ρ 4, ρ 5, ρ 6, ρ 7, ρ 8, ρ 9, ρ 10, ρ 11, ρ 12, ρ 13, ρ 14, ρ 15, ρ 16, ρ 17, ρ 18, ρ 19, ρ 20, ρ 21, ρ 22, ρ 23, ρ 24 + 1, ρ 25, ρ 26, ρ 27, ρ 28, ρ 29, ρ 30, ρ 31, ρ 32, ρ 33, ρ 34, ρ 35, ρ 36, ρ 37, ρ 38, ρ 39, ρ 40, ρ 41, ρ 42, ρ 43, ρ 44, ρ 45, ρ 46, ρ 47, ρ 48] (γ 1)
  have hD : en77 (γ 0) (3, [ρ 24, ρ 25, ρ 26, ρ 27], γ 1) = .inl (3, [ρ 24 + 1, ρ 25, ρ 26, ρ 27], γ 1) := by
    unfold en77
    refine zIN (show ¬ (3 : Nat) = 0 by decide) (zIN (show ¬ (3 : Nat) = 1 by decide) (zIN (show ¬ (3 : Nat) = 2 by decide) (zIP (show (3 : Nat) = 3 by decide) (zLV (γ 1) rfl (zLV (ρ 24) rfl (zLV (ρ 25) rfl (zLV (ρ 26) rfl ?_)))))))
    refine zLV (ρ 27) rfl (zLE m24 (zLE m25 (zLE m26 (zLE m27 (zLE m28 (zLE m29 (zLE m30 ?_)))))))
    refine zLE m31 (zLE m32 (zLE m33 (zLE m34 (zLE m35 (zLE m36 (zLE m37 (zLE m38 ?_)))))))
    refine zLE m39 (zLE m40 (zLE m41 (zLE m42 (zLE m43 (zLE m45 (zIN w_0 (zLE m46 ?_)))))))
    refine zIP w_1 (zLE m47 (zLE m48 (zIN w_2 (zLE m49 (zIN w_3 (zIP w_4 ?_))))))
    rfl
  exact zGoo_ato hJ hD
theorem vn77a3_46 {S : Nat → zSpc}  {a : List Int} {g : rHp} : ∀ (ρ : Nat → Int) (γ : Nat → rHp), jn77 a g 3 (zAg (zNA a77_ 3) ρ) (γ 1) → zO 24 S a g q77a3_46 ρ γ → zGl (fun i vs g1 => jn77 a g i vs g1) (sn77 a g) q77a3_46 ρ γ := by
  intro ρ γ hJ h
  obtain ⟨ha, hg, hr, hf, hm, hc, hl⟩ := h
  have ha : a = [ρ 0, ρ 1, ρ 2, ρ 3, ρ 4, ρ 5, ρ 6, ρ 7, ρ 8, ρ 9, ρ 10, ρ 11, ρ 12, ρ 13, ρ 14, ρ 15, ρ 16, ρ 17, ρ 18, ρ 19, ρ 20, ρ 21, ρ 22, ρ 23] := ha
  subst ha
  subst hg
  have hJ : jn77 [ρ 0, ρ 1, ρ 2, ρ 3, ρ 4, ρ 5, ρ 6, ρ 7, ρ 8, ρ 9, ρ 10, ρ 11, ρ 12, ρ 13, ρ 14, ρ 15, ρ 16, ρ 17, ρ 18, ρ 19, ρ 20, ρ 21, ρ 22, ρ 23] (γ 0) 3 [ρ 0, ρ 1, ρ 2, ρ 3, ρ 4, ρ 5, ρ 6, ρ 7, ρ 8, ρ 9, ρ 10, ρ 11, ρ 12, ρ 13, ρ 14, ρ 15, ρ 16, ρ 17, ρ 18, ρ 19, ρ 20, ρ 21, ρ 22, ρ 23, ρ 24, ρ 25, ρ 26, ρ 27, ρ 28, ρ 29, ρ 30, ρ 31, ρ 32, ρ 33, ρ 34, ρ 35, ρ 36, ρ 37, ρ 38, ρ 39, ρ 40, ρ 41, ρ 42, ρ 43, ρ 44, ρ 45, ρ 46, ρ 47, ρ 48] (γ 1) := hJ
  have r50 : (0 : Int) ≤ ρ 50 ∧ ρ 50 ≤ 0 := zRnA hr 50
  have r53 : (1 : Int) ≤ ρ 53 ∧ ρ 53 ≤ 4 := zRnA hr 53
  have f0 : (0 : Int) ≤ ρ 52 + -ρ 25 := zAllA hf 0
  have f1 : (0 : Int) ≤ ρ 49 + (8 * ρ 26 + -ρ 24) + (-1) := zAllA hf 1
  obtain ⟨w_0, w_1, w_2, w_3, w_4⟩ : (¬ (ρ 24 ≥ ρ 49 + 8 * ρ 26)) ∧ (ρ 50 ≤ 1) ∧ (¬ (ρ 50 = 1)) ∧ (¬ (ρ 53 ≤ 0)) ∧ (¬ (ρ 52 + 1 ≤ ρ 25)) := ⟨by omega, by omega, by omega, by omega, by omega⟩
  have m24 : γ 1 92 0 0 = ρ 28 := zAllA hm 24
  have m25 : γ 1 92 0 1 = ρ 29 := zAllA hm 25
  have m26 : γ 1 92 0 2 = ρ 30 := zAllA hm 26
  have m27 : γ 1 92 0 3 = ρ 31 := zAllA hm 27
  have m28 : γ 1 92 0 4 = ρ 32 := zAllA hm 28
  have m29 : γ 1 92 0 5 = ρ 33 := zAllA hm 29
  have m30 : γ 1 92 0 6 = ρ 34 := zAllA hm 30
  have m31 : γ 1 92 0 7 = ρ 35 := zAllA hm 31
  have m32 : γ 1 92 0 8 = ρ 36 := zAllA hm 32
  have m33 : γ 1 92 0 9 = ρ 37 := zAllA hm 33
  have m34 : γ 1 92 0 10 = ρ 38 := zAllA hm 34
  have m35 : γ 1 92 0 11 = ρ 39 := zAllA hm 35
  have m36 : γ 1 92 0 12 = ρ 40 := zAllA hm 36
  have m37 : γ 1 92 0 13 = ρ 41 := zAllA hm 37
  have m38 : γ 1 92 0 14 = ρ 42 := zAllA hm 38
  have m39 : γ 1 92 0 15 = ρ 43 := zAllA hm 39
  have m40 : γ 1 92 0 16 = ρ 44 := zAllA hm 40
  have m41 : γ 1 92 0 17 = ρ 45 := zAllA hm 41
  have m42 : γ 1 92 0 18 = ρ 46 := zAllA hm 42
  have m43 : γ 1 92 0 19 = ρ 47 := zAllA hm 43
  have m45 : γ 0 73 0 (ρ 26) = ρ 49 := zAllA hm 45
  have m46 : γ 0 77 0 (ρ 24) = ρ 50 := zAllA hm 46
  have m47 : γ 0 78 0 (ρ 24) = ρ 51 := zAllA hm 47
  have m48 : γ 1 92 0 (ρ 51) = ρ 52 := zAllA hm 48
  have m49 : γ 0 71 0 (ρ 26) = ρ 53 := zAllA hm 49
  show jn77 [ρ 0, ρ 1, ρ 2, ρ 3, ρ 4, ρ 5, ρ 6, ρ 7, ρ 8, ρ 9, ρ 10, ρ 11, ρ 12, ρ 13, ρ 14, ρ 15, ρ 16, ρ 17, ρ 18, ρ 19, ρ 20, ρ 21, ρ 22, ρ 23] (γ 0) 3 [ρ 0, ρ 1, ρ 2, ρ 3, ρ 4, ρ 5, ρ 6, ρ 7, ρ 8, ρ 9, ρ 10, ρ 11, ρ 12, ρ 13, ρ 14, ρ 15, ρ 16, ρ 17, ρ 18, ρ 19, ρ 20, ρ 21, ρ 22, ρ 23, ρ 24 + 1, ρ 52 + 1, ρ 26, ρ 27, ρ 28, ρ 29, ρ 30, ρ 31, ρ 32, ρ 33, ρ 34, ρ 35, ρ 36, ρ 37, ρ 38, ρ 39, ρ 40, ρ 41, ρ 42, ρ 43, ρ 44, ρ 45, ρ 46, ρ 47, ρ 48] (γ 1)
  have hD : en77 (γ 0) (3, [ρ 24, ρ 25, ρ 26, ρ 27], γ 1) = .inl (3, [ρ 24 + 1, ρ 52 + 1, ρ 26, ρ 27], γ 1) := by
    unfold en77
    refine zIN (show ¬ (3 : Nat) = 0 by decide) (zIN (show ¬ (3 : Nat) = 1 by decide) (zIN (show ¬ (3 : Nat) = 2 by decide) (zIP (show (3 : Nat) = 3 by decide) (zLV (γ 1) rfl (zLV (ρ 24) rfl (zLV (ρ 25) rfl (zLV (ρ 26) rfl ?_)))))))
    refine zLV (ρ 27) rfl (zLE m24 (zLE m25 (zLE m26 (zLE m27 (zLE m28 (zLE m29 (zLE m30 ?_)))))))
    refine zLE m31 (zLE m32 (zLE m33 (zLE m34 (zLE m35 (zLE m36 (zLE m37 (zLE m38 ?_)))))))
    refine zLE m39 (zLE m40 (zLE m41 (zLE m42 (zLE m43 (zLE m45 (zIN w_0 (zLE m46 ?_)))))))
    refine zIP w_1 (zLE m47 (zLE m48 (zIN w_2 (zLE m49 (zIN w_3 (zIN w_4 ?_))))))
    rfl
  exact zGoo_ato hJ hD
theorem vn77a3_47 {S : Nat → zSpc}  {a : List Int} {g : rHp} : ∀ (ρ : Nat → Int) (γ : Nat → rHp), jn77 a g 3 (zAg (zNA a77_ 3) ρ) (γ 1) → zO 24 S a g q77a3_47 ρ γ → zGl (fun i vs g1 => jn77 a g i vs g1) (sn77 a g) q77a3_47 ρ γ := by
  intro ρ γ hJ h
  obtain ⟨ha, hg, hr, hf, hm, hc, hl⟩ := h
  have ha : a = [ρ 0, ρ 1, ρ 2, ρ 3, ρ 4, ρ 5, ρ 6, ρ 7, ρ 8, ρ 9, ρ 10, ρ 11, ρ 12, ρ 13, ρ 14, ρ 15, ρ 16, ρ 17, ρ 18, ρ 19, ρ 20, ρ 21, ρ 22, ρ 23] := ha
  subst ha
  subst hg
  have hJ : jn77 [ρ 0, ρ 1, ρ 2, ρ 3, ρ 4, ρ 5, ρ 6, ρ 7, ρ 8, ρ 9, ρ 10, ρ 11, ρ 12, ρ 13, ρ 14, ρ 15, ρ 16, ρ 17, ρ 18, ρ 19, ρ 20, ρ 21, ρ 22, ρ 23] (γ 0) 3 [ρ 0, ρ 1, ρ 2, ρ 3, ρ 4, ρ 5, ρ 6, ρ 7, ρ 8, ρ 9, ρ 10, ρ 11, ρ 12, ρ 13, ρ 14, ρ 15, ρ 16, ρ 17, ρ 18, ρ 19, ρ 20, ρ 21, ρ 22, ρ 23, ρ 24, ρ 25, ρ 26, ρ 27, ρ 28, ρ 29, ρ 30, ρ 31, ρ 32, ρ 33, ρ 34, ρ 35, ρ 36, ρ 37, ρ 38, ρ 39, ρ 40, ρ 41, ρ 42, ρ 43, ρ 44, ρ 45, ρ 46, ρ 47, ρ 48] (γ 1) := hJ
  have r50 : (2 : Int) ≤ ρ 50 ∧ ρ 50 ≤ 7 := zRnA hr 50
  have f0 : (0 : Int) ≤ ρ 49 + (8 * ρ 26 + -ρ 24) + (-1) := zAllA hf 0
  obtain ⟨w_0, w_1⟩ : (¬ (ρ 24 ≥ ρ 49 + 8 * ρ 26)) ∧ (¬ (ρ 50 ≤ 1)) := ⟨by omega, by omega⟩
  have m24 : γ 1 92 0 0 = ρ 28 := zAllA hm 24
  have m25 : γ 1 92 0 1 = ρ 29 := zAllA hm 25
  have m26 : γ 1 92 0 2 = ρ 30 := zAllA hm 26
  have m27 : γ 1 92 0 3 = ρ 31 := zAllA hm 27
  have m28 : γ 1 92 0 4 = ρ 32 := zAllA hm 28
  have m29 : γ 1 92 0 5 = ρ 33 := zAllA hm 29
  have m30 : γ 1 92 0 6 = ρ 34 := zAllA hm 30
  have m31 : γ 1 92 0 7 = ρ 35 := zAllA hm 31
  have m32 : γ 1 92 0 8 = ρ 36 := zAllA hm 32
  have m33 : γ 1 92 0 9 = ρ 37 := zAllA hm 33
  have m34 : γ 1 92 0 10 = ρ 38 := zAllA hm 34
  have m35 : γ 1 92 0 11 = ρ 39 := zAllA hm 35
  have m36 : γ 1 92 0 12 = ρ 40 := zAllA hm 36
  have m37 : γ 1 92 0 13 = ρ 41 := zAllA hm 37
  have m38 : γ 1 92 0 14 = ρ 42 := zAllA hm 38
  have m39 : γ 1 92 0 15 = ρ 43 := zAllA hm 39
  have m40 : γ 1 92 0 16 = ρ 44 := zAllA hm 40
  have m41 : γ 1 92 0 17 = ρ 45 := zAllA hm 41
  have m42 : γ 1 92 0 18 = ρ 46 := zAllA hm 42
  have m43 : γ 1 92 0 19 = ρ 47 := zAllA hm 43
  have m45 : γ 0 73 0 (ρ 26) = ρ 49 := zAllA hm 45
  have m46 : γ 0 77 0 (ρ 24) = ρ 50 := zAllA hm 46
  show jn77 [ρ 0, ρ 1, ρ 2, ρ 3, ρ 4, ρ 5, ρ 6, ρ 7, ρ 8, ρ 9, ρ 10, ρ 11, ρ 12, ρ 13, ρ 14, ρ 15, ρ 16, ρ 17, ρ 18, ρ 19, ρ 20, ρ 21, ρ 22, ρ 23] (γ 0) 3 [ρ 0, ρ 1, ρ 2, ρ 3, ρ 4, ρ 5, ρ 6, ρ 7, ρ 8, ρ 9, ρ 10, ρ 11, ρ 12, ρ 13, ρ 14, ρ 15, ρ 16, ρ 17, ρ 18, ρ 19, ρ 20, ρ 21, ρ 22, ρ 23, ρ 24 + 1, ρ 25, ρ 26, ρ 27, ρ 28, ρ 29, ρ 30, ρ 31, ρ 32, ρ 33, ρ 34, ρ 35, ρ 36, ρ 37, ρ 38, ρ 39, ρ 40, ρ 41, ρ 42, ρ 43, ρ 44, ρ 45, ρ 46, ρ 47, ρ 48] (γ 1)
  have hD : en77 (γ 0) (3, [ρ 24, ρ 25, ρ 26, ρ 27], γ 1) = .inl (3, [ρ 24 + 1, ρ 25, ρ 26, ρ 27], γ 1) := by
    unfold en77
    refine zIN (show ¬ (3 : Nat) = 0 by decide) (zIN (show ¬ (3 : Nat) = 1 by decide) (zIN (show ¬ (3 : Nat) = 2 by decide) (zIP (show (3 : Nat) = 3 by decide) (zLV (γ 1) rfl (zLV (ρ 24) rfl (zLV (ρ 25) rfl (zLV (ρ 26) rfl ?_)))))))
    refine zLV (ρ 27) rfl (zLE m24 (zLE m25 (zLE m26 (zLE m27 (zLE m28 (zLE m29 (zLE m30 ?_)))))))
    refine zLE m31 (zLE m32 (zLE m33 (zLE m34 (zLE m35 (zLE m36 (zLE m37 (zLE m38 ?_)))))))
    refine zLE m39 (zLE m40 (zLE m41 (zLE m42 (zLE m43 (zLE m45 (zIN w_0 (zLE m46 ?_)))))))
    refine zIN w_1 ?_
    rfl
  exact zGoo_ato hJ hD
theorem vn77a4_0 {S : Nat → zSpc}  {a : List Int} {g : rHp} : ∀ (ρ : Nat → Int) (γ : Nat → rHp), jn77 a g 4 (zAg (zNA a77_ 4) ρ) (γ 1) → zO 24 S a g q77a4_0 ρ γ → zGl (fun i vs g1 => jn77 a g i vs g1) (sn77 a g) q77a4_0 ρ γ := by
  intro ρ γ hJ h
  obtain ⟨ha, hg, hr, hf, hm, hc, hl⟩ := h
  have ha : a = [ρ 0, ρ 1, ρ 2, ρ 3, ρ 4, ρ 5, ρ 6, ρ 7, ρ 8, ρ 9, ρ 10, ρ 11, ρ 12, ρ 13, ρ 14, ρ 15, ρ 16, ρ 17, ρ 18, ρ 19, ρ 20, ρ 21, ρ 22, ρ 23] := ha
  subst ha
  subst hg
  have hJ : jn77 [ρ 0, ρ 1, ρ 2, ρ 3, ρ 4, ρ 5, ρ 6, ρ 7, ρ 8, ρ 9, ρ 10, ρ 11, ρ 12, ρ 13, ρ 14, ρ 15, ρ 16, ρ 17, ρ 18, ρ 19, ρ 20, ρ 21, ρ 22, ρ 23] (γ 0) 4 [ρ 0, ρ 1, ρ 2, ρ 3, ρ 4, ρ 5, ρ 6, ρ 7, ρ 8, ρ 9, ρ 10, ρ 11, ρ 12, ρ 13, ρ 14, ρ 15, ρ 16, ρ 17, ρ 18, ρ 19, ρ 20, ρ 21, ρ 22, ρ 23, ρ 24, ρ 25, ρ 26, ρ 27, ρ 28, ρ 29, ρ 30, ρ 31, ρ 32, ρ 33, ρ 34, ρ 35, ρ 36, ρ 37, ρ 38, ρ 39, ρ 40, ρ 41, ρ 42, ρ 43, ρ 44, ρ 45, ρ 46, ρ 47] (γ 1) := hJ
  have f0 : (0 : Int) ≤ ρ 24 + -ρ 1 := zAllA hf 0
  have w_0 : ρ 24 ≥ ρ 1 := by omega
  have m1 : γ 0 15 0 13 = ρ 1 := zAllA hm 1
  have m24 : γ 1 15 0 61 = ρ 26 := zAllA hm 24
  show sn77 [ρ 0, ρ 1, ρ 2, ρ 3, ρ 4, ρ 5, ρ 6, ρ 7, ρ 8, ρ 9, ρ 10, ρ 11, ρ 12, ρ 13, ρ 14, ρ 15, ρ 16, ρ 17, ρ 18, ρ 19, ρ 20, ρ 21, ρ 22, ρ 23] (γ 0) 0 1 (γ 1)
  have hD : en77 (γ 0) (4, [ρ 24, ρ 25], γ 1) = .inr (0, 1, γ 1) := by
    unfold en77
    refine zIN (show ¬ (4 : Nat) = 0 by decide) (zIN (show ¬ (4 : Nat) = 1 by decide) (zIN (show ¬ (4 : Nat) = 2 by decide) (zIN (show ¬ (4 : Nat) = 3 by decide) (zIP (show (4 : Nat) = 4 by decide) (zLV (γ 1) rfl (zLV (ρ 24) rfl (zLV (ρ 25) rfl ?_)))))))
    refine zLE m1 (zLE m24 (zIP w_0 ?_))
    rfl
  exact zGoo_aend hJ hD
theorem vn77a4_1 {S : Nat → zSpc}  {a : List Int} {g : rHp} : ∀ (ρ : Nat → Int) (γ : Nat → rHp), jn77 a g 4 (zAg (zNA a77_ 4) ρ) (γ 1) → zO 24 S a g q77a4_1 ρ γ → zGl (fun i vs g1 => jn77 a g i vs g1) (sn77 a g) q77a4_1 ρ γ := by
  intro ρ γ hJ h
  obtain ⟨ha, hg, hr, hf, hm, hc, hl⟩ := h
  have ha : a = [ρ 0, ρ 1, ρ 2, ρ 3, ρ 4, ρ 5, ρ 6, ρ 7, ρ 8, ρ 9, ρ 10, ρ 11, ρ 12, ρ 13, ρ 14, ρ 15, ρ 16, ρ 17, ρ 18, ρ 19, ρ 20, ρ 21, ρ 22, ρ 23] := ha
  subst ha
  subst hg
  have hJ : jn77 [ρ 0, ρ 1, ρ 2, ρ 3, ρ 4, ρ 5, ρ 6, ρ 7, ρ 8, ρ 9, ρ 10, ρ 11, ρ 12, ρ 13, ρ 14, ρ 15, ρ 16, ρ 17, ρ 18, ρ 19, ρ 20, ρ 21, ρ 22, ρ 23] (γ 0) 4 [ρ 0, ρ 1, ρ 2, ρ 3, ρ 4, ρ 5, ρ 6, ρ 7, ρ 8, ρ 9, ρ 10, ρ 11, ρ 12, ρ 13, ρ 14, ρ 15, ρ 16, ρ 17, ρ 18, ρ 19, ρ 20, ρ 21, ρ 22, ρ 23, ρ 24, ρ 25, ρ 26, ρ 27, ρ 28, ρ 29, ρ 30, ρ 31, ρ 32, ρ 33, ρ 34, ρ 35, ρ 36, ρ 37, ρ 38, ρ 39, ρ 40, ρ 41, ρ 42, ρ 43, ρ 44, ρ 45, ρ 46, ρ 47] (γ 1) := hJ
  have f0 : (0 : Int) ≤ -ρ 48 + ρ 26 + (-1) := zAllA hf 0
  have f1 : (0 : Int) ≤ -ρ 24 + ρ 1 + (-1) := zAllA hf 1
  obtain ⟨w_0, w_1⟩ : (¬ (ρ 24 ≥ ρ 1)) ∧ (ρ 48 < ρ 26) := ⟨by omega, by omega⟩
  have m1 : γ 0 15 0 13 = ρ 1 := zAllA hm 1
  have m24 : γ 1 15 0 61 = ρ 26 := zAllA hm 24
  have m46 : γ 1 92 0 (ρ 24) = ρ 48 := zAllA hm 46
  show jn77 [ρ 0, ρ 1, ρ 2, ρ 3, ρ 4, ρ 5, ρ 6, ρ 7, ρ 8, ρ 9, ρ 10, ρ 11, ρ 12, ρ 13, ρ 14, ρ 15, ρ 16, ρ 17, ρ 18, ρ 19, ρ 20, ρ 21, ρ 22, ρ 23] (γ 0) 4 [ρ 0, ρ 1, ρ 2, ρ 3, ρ 4, ρ 5, ρ 6, ρ 7, ρ 8, ρ 9, ρ 10, ρ 11, ρ 12, ρ 13, ρ 14, ρ 15, ρ 16, ρ 17, ρ 18, ρ 19, ρ 20, ρ 21, ρ 22, ρ 23, ρ 24 + 1, ρ 25, ρ 26, ρ 27, ρ 28, ρ 29, ρ 30, ρ 31, ρ 32, ρ 33, ρ 34, ρ 35, ρ 36, ρ 37, ρ 38, ρ 39, ρ 40, ρ 41, ρ 42, ρ 43, ρ 44, ρ 45, ρ 46, ρ 47] (γ 1)
  have hD : en77 (γ 0) (4, [ρ 24, ρ 25], γ 1) = .inl (4, [ρ 24 + 1, ρ 25], γ 1) := by
    unfold en77
    refine zIN (show ¬ (4 : Nat) = 0 by decide) (zIN (show ¬ (4 : Nat) = 1 by decide) (zIN (show ¬ (4 : Nat) = 2 by decide) (zIN (show ¬ (4 : Nat) = 3 by decide) (zIP (show (4 : Nat) = 4 by decide) (zLV (γ 1) rfl (zLV (ρ 24) rfl (zLV (ρ 25) rfl ?_)))))))
    refine zLE m1 (zLE m24 (zIN w_0 (zLE m46 (zIP w_1 ?_))))
    rfl
  exact zGoo_ato hJ hD
theorem vn77a4_2 {S : Nat → zSpc}  {a : List Int} {g : rHp} : ∀ (ρ : Nat → Int) (γ : Nat → rHp), jn77 a g 4 (zAg (zNA a77_ 4) ρ) (γ 1) → zO 24 S a g q77a4_2 ρ γ → zGl (fun i vs g1 => jn77 a g i vs g1) (sn77 a g) q77a4_2 ρ γ := by
  intro ρ γ hJ h
  obtain ⟨ha, hg, hr, hf, hm, hc, hl⟩ := h
  have ha : a = [ρ 0, ρ 1, ρ 2, ρ 3, ρ 4, ρ 5, ρ 6, ρ 7, ρ 8, ρ 9, ρ 10, ρ 11, ρ 12, ρ 13, ρ 14, ρ 15, ρ 16, ρ 17, ρ 18, ρ 19, ρ 20, ρ 21, ρ 22, ρ 23] := ha
  subst ha
  subst hg
  have hJ : jn77 [ρ 0, ρ 1, ρ 2, ρ 3, ρ 4, ρ 5, ρ 6, ρ 7, ρ 8, ρ 9, ρ 10, ρ 11, ρ 12, ρ 13, ρ 14, ρ 15, ρ 16, ρ 17, ρ 18, ρ 19, ρ 20, ρ 21, ρ 22, ρ 23] (γ 0) 4 [ρ 0, ρ 1, ρ 2, ρ 3, ρ 4, ρ 5, ρ 6, ρ 7, ρ 8, ρ 9, ρ 10, ρ 11, ρ 12, ρ 13, ρ 14, ρ 15, ρ 16, ρ 17, ρ 18, ρ 19, ρ 20, ρ 21, ρ 22, ρ 23, ρ 24, ρ 25, ρ 26, ρ 27, ρ 28, ρ 29, ρ 30, ρ 31, ρ 32, ρ 33, ρ 34, ρ 35, ρ 36, ρ 37, ρ 38, ρ 39, ρ 40, ρ 41, ρ 42, ρ 43, ρ 44, ρ 45, ρ 46, ρ 47] (γ 1) := hJ
  have f0 : (0 : Int) ≤ ρ 48 + -ρ 26 := zAllA hf 0
  have f1 : (0 : Int) ≤ -ρ 24 + ρ 1 + (-1) := zAllA hf 1
  obtain ⟨w_0, w_1⟩ : (¬ (ρ 24 ≥ ρ 1)) ∧ (¬ (ρ 48 < ρ 26)) := ⟨by omega, by omega⟩
  have m1 : γ 0 15 0 13 = ρ 1 := zAllA hm 1
  have m24 : γ 1 15 0 61 = ρ 26 := zAllA hm 24
  have m46 : γ 1 92 0 (ρ 24) = ρ 48 := zAllA hm 46
  have c2 : γ 2 = rUp (γ 1) 15 0 61 (ρ 48 + 1) := And.right (zChA hc 0)
  show jn77 [ρ 0, ρ 1, ρ 2, ρ 3, ρ 4, ρ 5, ρ 6, ρ 7, ρ 8, ρ 9, ρ 10, ρ 11, ρ 12, ρ 13, ρ 14, ρ 15, ρ 16, ρ 17, ρ 18, ρ 19, ρ 20, ρ 21, ρ 22, ρ 23] (γ 0) 4 [ρ 0, ρ 1, ρ 2, ρ 3, ρ 4, ρ 5, ρ 6, ρ 7, ρ 8, ρ 9, ρ 10, ρ 11, ρ 12, ρ 13, ρ 14, ρ 15, ρ 16, ρ 17, ρ 18, ρ 19, ρ 20, ρ 21, ρ 22, ρ 23, ρ 24 + 1, ρ 25, ρ 48 + 1, ρ 27, ρ 28, ρ 29, ρ 30, ρ 31, ρ 32, ρ 33, ρ 34, ρ 35, ρ 36, ρ 37, ρ 38, ρ 39, ρ 40, ρ 41, ρ 42, ρ 43, ρ 44, ρ 45, ρ 46, ρ 47] (γ 2)
  have hD : en77 (γ 0) (4, [ρ 24, ρ 25], γ 1) = .inl (4, [ρ 24 + 1, ρ 25], γ 2) := by
    unfold en77
    refine zIN (show ¬ (4 : Nat) = 0 by decide) (zIN (show ¬ (4 : Nat) = 1 by decide) (zIN (show ¬ (4 : Nat) = 2 by decide) (zIN (show ¬ (4 : Nat) = 3 by decide) (zIP (show (4 : Nat) = 4 by decide) (zLV (γ 1) rfl (zLV (ρ 24) rfl (zLV (ρ 25) rfl ?_)))))))
    refine zLE m1 (zLE m24 (zIN w_0 (zLE m46 (zIN w_1 (zLE c2.symm ?_)))))
    rfl
  exact zGoo_ato hJ hD
theorem yn77 {S : Nat → zSpc}  : ∀ x g o v gz, zSem uW uT w77_.2.2.2.1 w77_.2.2.1.1.length S q77 (fun i => q77a.getD i []) (zNA a77_) x g o v gz → sn77 x g o v gz := by
  intro a g o v gz h
  exact zSem_all (l0 := q77) (las := q77a) (S := S) (J := (fun i vs g1 => jn77 a g i vs g1)) (P := sn77 a g) (fun _ => (show zAll _ [q77_0] from (zAll_c (vn77_0 ) zAll_n))) (fun _ => (show zAllI _ 0 [q77a0, q77a1, q77a2, q77a3, q77a4] from ⟨(show zAll _ [q77a0_0, q77a0_1] from (zAll_c (vn77a0_0 ) (zAll_c (vn77a0_1 ) zAll_n))), ⟨(show zAll _ [q77a1_0, q77a1_1] from (zAll_c (vn77a1_0 ) (zAll_c (vn77a1_1 ) zAll_n))), ⟨(show zAll _ [q77a2_0, q77a2_1] from (zAll_c (vn77a2_0 ) (zAll_c (vn77a2_1 ) zAll_n))), ⟨(show zAll _ [q77a3_0, q77a3_1, q77a3_2, q77a3_3, q77a3_4, q77a3_5, q77a3_6, q77a3_7, q77a3_8, q77a3_9, q77a3_10, q77a3_11, q77a3_12, q77a3_13, q77a3_14, q77a3_15, q77a3_16, q77a3_17, q77a3_18, q77a3_19, q77a3_20, q77a3_21, q77a3_22, q77a3_23, q77a3_24, q77a3_25, q77a3_26, q77a3_27, q77a3_28, q77a3_29, q77a3_30, q77a3_31, q77a3_32, q77a3_33, q77a3_34, q77a3_35, q77a3_36, q77a3_37, q77a3_38, q77a3_39, q77a3_40, q77a3_41, q77a3_42, q77a3_43, q77a3_44, q77a3_45, q77a3_46, q77a3_47] from (zAll_c (vn77a3_0 ) (zAll_c (vn77a3_1 ) (zAll_c (vn77a3_2 ) (zAll_c (vn77a3_3 ) (zAll_c (vn77a3_4 ) (zAll_c (vn77a3_5 ) (zAll_c (vn77a3_6 ) (zAll_c (vn77a3_7 ) (zAll_c (vn77a3_8 ) (zAll_c (vn77a3_9 ) (zAll_c (vn77a3_10 ) (zAll_c (vn77a3_11 ) (zAll_c (vn77a3_12 ) (zAll_c (vn77a3_13 ) (zAll_c (vn77a3_14 ) (zAll_c (vn77a3_15 ) (zAll_c (vn77a3_16 ) (zAll_c (vn77a3_17 ) (zAll_c (vn77a3_18 ) (zAll_c (vn77a3_19 ) (zAll_c (vn77a3_20 ) (zAll_c (vn77a3_21 ) (zAll_c (vn77a3_22 ) (zAll_c (vn77a3_23 ) (zAll_c (vn77a3_24 ) (zAll_c (vn77a3_25 ) (zAll_c (vn77a3_26 ) (zAll_c (vn77a3_27 ) (zAll_c (vn77a3_28 ) (zAll_c (vn77a3_29 ) (zAll_c (vn77a3_30 ) (zAll_c (vn77a3_31 ) (zAll_c (vn77a3_32 ) (zAll_c (vn77a3_33 ) (zAll_c (vn77a3_34 ) (zAll_c (vn77a3_35 ) (zAll_c (vn77a3_36 ) (zAll_c (vn77a3_37 ) (zAll_c (vn77a3_38 ) (zAll_c (vn77a3_39 ) (zAll_c (vn77a3_40 ) (zAll_c (vn77a3_41 ) (zAll_c (vn77a3_42 ) (zAll_c (vn77a3_43 ) (zAll_c (vn77a3_44 ) (zAll_c (vn77a3_45 ) (zAll_c (vn77a3_46 ) (zAll_c (vn77a3_47 ) zAll_n))))))))))))))))))))))))))))))))))))))))))))))))), ⟨(show zAll _ [q77a4_0, q77a4_1, q77a4_2] from (zAll_c (vn77a4_0 ) (zAll_c (vn77a4_1 ) (zAll_c (vn77a4_2 ) zAll_n)))), trivial⟩⟩⟩⟩⟩)) h
