/-! ===== the runs are the functions ===== -/
theorem vn77_0 {S : Nat → zSpc}  {a : List Int} {g : rHp} : ∀ (ρ : Nat → Int) (γ : Nat → rHp), zO 24 S a g q77_0 ρ γ → zGl (fun i vs g1 => jn77 a g i vs g1) (sn77 a g) q77_0 ρ γ := by
  intro ρ γ h
  obtain ⟨ha, hg, hr, hf, hm, hc, hl⟩ := h
  have ha : a = [ρ 0, ρ 1, ρ 2, ρ 3, ρ 4, ρ 5, ρ 6, ρ 7, ρ 8, ρ 9, ρ 10, ρ 11, ρ 12, ρ 13, ρ 14, ρ 15, ρ 16, ρ 17, ρ 18, ρ 19, ρ 20, ρ 21, ρ 22, ρ 23] := ha
  subst ha
  subst hg
  show jn77 [ρ 0, ρ 1, ρ 2, ρ 3, ρ 4, ρ 5, ρ 6, ρ 7, ρ 8, ρ 9, ρ 10, ρ 11, ρ 12, ρ 13, ρ 14, ρ 15, ρ 16, ρ 17, ρ 18, ρ 19, ρ 20, ρ 21, ρ 22, ρ 23] (γ 0) 0 [ρ 0, ρ 1, ρ 2, ρ 3, ρ 4, ρ 5, ρ 6, ρ 7, ρ 8, ρ 9, ρ 10, ρ 11, ρ 12, ρ 13, ρ 14, ρ 15, ρ 16, ρ 17, ρ 18, ρ 19, ρ 20, ρ 21, ρ 22, ρ 23, 0, ρ 3, ρ 4, ρ 5, ρ 6, ρ 7, ρ 8, ρ 9, ρ 10, ρ 11, ρ 12, ρ 13, ρ 14, ρ 15, ρ 16, ρ 17, ρ 18, ρ 19, ρ 20, ρ 21, ρ 22, ρ 23] (γ 0)
  have hD : dn77 [] (γ 0) = .inl (0, [0], γ 0) := by
    unfold dn77
    rfl
  exact zGoo_to hD
theorem vn77a0_0 {S : Nat → zSpc}  {a : List Int} {g : rHp} : ∀ (ρ : Nat → Int) (γ : Nat → rHp), jn77 a g 0 (zAg (zNA a77_ 0) ρ) (γ 1) → zO 24 S a g q77a0_0 ρ γ → zGl (fun i vs g1 => jn77 a g i vs g1) (sn77 a g) q77a0_0 ρ γ := by
  intro ρ γ hJ h
  obtain ⟨ha, hg, hr, hf, hm, hc, hl⟩ := h
  have ha : a = [ρ 0, ρ 1, ρ 2, ρ 3, ρ 4, ρ 5, ρ 6, ρ 7, ρ 8, ρ 9, ρ 10, ρ 11, ρ 12, ρ 13, ρ 14, ρ 15, ρ 16, ρ 17, ρ 18, ρ 19, ρ 20, ρ 21, ρ 22, ρ 23] := ha
  subst ha
  subst hg
  have hJ : jn77 [ρ 0, ρ 1, ρ 2, ρ 3, ρ 4, ρ 5, ρ 6, ρ 7, ρ 8, ρ 9, ρ 10, ρ 11, ρ 12, ρ 13, ρ 14, ρ 15, ρ 16, ρ 17, ρ 18, ρ 19, ρ 20, ρ 21, ρ 22, ρ 23] (γ 0) 0 [ρ 0, ρ 1, ρ 2, ρ 3, ρ 4, ρ 5, ρ 6, ρ 7, ρ 8, ρ 9, ρ 10, ρ 11, ρ 12, ρ 13, ρ 14, ρ 15, ρ 16, ρ 17, ρ 18, ρ 19, ρ 20, ρ 21, ρ 22, ρ 23, ρ 24, ρ 25, ρ 26, ρ 27, ρ 28, ρ 29, ρ 30, ρ 31, ρ 32, ρ 33, ρ 34, ρ 35, ρ 36, ρ 37, ρ 38, ρ 39, ρ 40, ρ 41, ρ 42, ρ 43, ρ 44, ρ 45] (γ 1) := hJ
  obtain ⟨f0, -⟩ := hf
  have f0 : (0 : Int) ≤ ρ 24 + -ρ 1 := f0
  have w_0 : ρ 24 ≥ ρ 1 := by omega
  obtain ⟨-, m1, -⟩ := hm
  have m1 : γ 0 15 0 13 = ρ 1 := m1
  show jn77 [ρ 0, ρ 1, ρ 2, ρ 3, ρ 4, ρ 5, ρ 6, ρ 7, ρ 8, ρ 9, ρ 10, ρ 11, ρ 12, ρ 13, ρ 14, ρ 15, ρ 16, ρ 17, ρ 18, ρ 19, ρ 20, ρ 21, ρ 22, ρ 23] (γ 0) 1 [ρ 0, ρ 1, ρ 2, ρ 3, ρ 4, ρ 5, ρ 6, ρ 7, ρ 8, ρ 9, ρ 10, ρ 11, ρ 12, ρ 13, ρ 14, ρ 15, ρ 16, ρ 17, ρ 18, ρ 19, ρ 20, ρ 21, ρ 22, ρ 23, 1, ρ 25, ρ 26, ρ 27, ρ 28, ρ 29, ρ 30, ρ 31, ρ 32, ρ 33, ρ 34, ρ 35, ρ 36, ρ 37, ρ 38, ρ 39, ρ 40, ρ 41, ρ 42, ρ 43, ρ 44, ρ 45] (γ 1)
  have hD : en77 (γ 0) (0, [ρ 24], γ 1) = .inl (1, [1], γ 1) := by
    unfold en77
    refine (if_pos (show (0 : Nat) = 0 by decide)).trans ?_
    refine (zLet_eq (show _ = γ 1 from rfl)).trans ?_
    refine (zLet_eq (show _ = ρ 24 from rfl)).trans ?_
    refine (zLet_eq m1).trans ?_
    refine (if_pos w_0).trans ?_
    rfl
  exact zGoo_ato hJ hD
theorem vn77a0_1 {S : Nat → zSpc}  {a : List Int} {g : rHp} : ∀ (ρ : Nat → Int) (γ : Nat → rHp), jn77 a g 0 (zAg (zNA a77_ 0) ρ) (γ 1) → zO 24 S a g q77a0_1 ρ γ → zGl (fun i vs g1 => jn77 a g i vs g1) (sn77 a g) q77a0_1 ρ γ := by
  intro ρ γ hJ h
  obtain ⟨ha, hg, hr, hf, hm, hc, hl⟩ := h
  have ha : a = [ρ 0, ρ 1, ρ 2, ρ 3, ρ 4, ρ 5, ρ 6, ρ 7, ρ 8, ρ 9, ρ 10, ρ 11, ρ 12, ρ 13, ρ 14, ρ 15, ρ 16, ρ 17, ρ 18, ρ 19, ρ 20, ρ 21, ρ 22, ρ 23] := ha
  subst ha
  subst hg
  have hJ : jn77 [ρ 0, ρ 1, ρ 2, ρ 3, ρ 4, ρ 5, ρ 6, ρ 7, ρ 8, ρ 9, ρ 10, ρ 11, ρ 12, ρ 13, ρ 14, ρ 15, ρ 16, ρ 17, ρ 18, ρ 19, ρ 20, ρ 21, ρ 22, ρ 23] (γ 0) 0 [ρ 0, ρ 1, ρ 2, ρ 3, ρ 4, ρ 5, ρ 6, ρ 7, ρ 8, ρ 9, ρ 10, ρ 11, ρ 12, ρ 13, ρ 14, ρ 15, ρ 16, ρ 17, ρ 18, ρ 19, ρ 20, ρ 21, ρ 22, ρ 23, ρ 24, ρ 25, ρ 26, ρ 27, ρ 28, ρ 29, ρ 30, ρ 31, ρ 32, ρ 33, ρ 34, ρ 35, ρ 36, ρ 37, ρ 38, ρ 39, ρ 40, ρ 41, ρ 42, ρ 43, ρ 44, ρ 45] (γ 1) := hJ
  obtain ⟨f0, -⟩ := hf
  have f0 : (0 : Int) ≤ -ρ 24 + ρ 1 + (-1) := f0
  have w_0 : ¬ (ρ 24 ≥ ρ 1) := by omega
  obtain ⟨-, m1, -⟩ := hm
  have m1 : γ 0 15 0 13 = ρ 1 := m1
  obtain ⟨-, c2⟩ := hc
  have c2 : γ 2 = rUp (γ 1) 92 0 (ρ 24) 0 := c2
  show jn77 [ρ 0, ρ 1, ρ 2, ρ 3, ρ 4, ρ 5, ρ 6, ρ 7, ρ 8, ρ 9, ρ 10, ρ 11, ρ 12, ρ 13, ρ 14, ρ 15, ρ 16, ρ 17, ρ 18, ρ 19, ρ 20, ρ 21, ρ 22, ρ 23] (γ 0) 0 [ρ 0, ρ 1, ρ 2, ρ 3, ρ 4, ρ 5, ρ 6, ρ 7, ρ 8, ρ 9, ρ 10, ρ 11, ρ 12, ρ 13, ρ 14, ρ 15, ρ 16, ρ 17, ρ 18, ρ 19, ρ 20, ρ 21, ρ 22, ρ 23, ρ 24 + 1, ρ 46, ρ 47, ρ 48, ρ 49, ρ 50, ρ 51, ρ 52, ρ 53, ρ 54, ρ 55, ρ 56, ρ 57, ρ 58, ρ 59, ρ 60, ρ 61, ρ 62, ρ 63, ρ 64, ρ 65, ρ 45] (γ 2)
  have hD : en77 (γ 0) (0, [ρ 24], γ 1) = .inl (0, [ρ 24 + 1], γ 2) := by
    unfold en77
    refine (if_pos (show (0 : Nat) = 0 by decide)).trans ?_
    refine (zLet_eq (show _ = γ 1 from rfl)).trans ?_
    refine (zLet_eq (show _ = ρ 24 from rfl)).trans ?_
    refine (zLet_eq m1).trans ?_
    refine (if_neg w_0).trans ?_
    refine (zLet_eq c2.symm).trans ?_
    rfl
  exact zGoo_ato hJ hD
theorem vn77a1_0 {S : Nat → zSpc}  {a : List Int} {g : rHp} : ∀ (ρ : Nat → Int) (γ : Nat → rHp), jn77 a g 1 (zAg (zNA a77_ 1) ρ) (γ 1) → zO 24 S a g q77a1_0 ρ γ → zGl (fun i vs g1 => jn77 a g i vs g1) (sn77 a g) q77a1_0 ρ γ := by
  intro ρ γ hJ h
  obtain ⟨ha, hg, hr, hf, hm, hc, hl⟩ := h
  have ha : a = [ρ 0, ρ 1, ρ 2, ρ 3, ρ 4, ρ 5, ρ 6, ρ 7, ρ 8, ρ 9, ρ 10, ρ 11, ρ 12, ρ 13, ρ 14, ρ 15, ρ 16, ρ 17, ρ 18, ρ 19, ρ 20, ρ 21, ρ 22, ρ 23] := ha
  subst ha
  subst hg
  have hJ : jn77 [ρ 0, ρ 1, ρ 2, ρ 3, ρ 4, ρ 5, ρ 6, ρ 7, ρ 8, ρ 9, ρ 10, ρ 11, ρ 12, ρ 13, ρ 14, ρ 15, ρ 16, ρ 17, ρ 18, ρ 19, ρ 20, ρ 21, ρ 22, ρ 23] (γ 0) 1 [ρ 0, ρ 1, ρ 2, ρ 3, ρ 4, ρ 5, ρ 6, ρ 7, ρ 8, ρ 9, ρ 10, ρ 11, ρ 12, ρ 13, ρ 14, ρ 15, ρ 16, ρ 17, ρ 18, ρ 19, ρ 20, ρ 21, ρ 22, ρ 23, ρ 24, ρ 25, ρ 26, ρ 27, ρ 28, ρ 29, ρ 30, ρ 31, ρ 32, ρ 33, ρ 34, ρ 35, ρ 36, ρ 37, ρ 38, ρ 39, ρ 40, ρ 41, ρ 42, ρ 43, ρ 44, ρ 45] (γ 1) := hJ
  obtain ⟨-, -, -, -, -, -, -, -, -, -, -, -, -, -, -, -, -, -, -, -, -, -, -, -, r24, -⟩ := hr
  have r24 : (0 : Int) ≤ ρ 24 ∧ ρ 24 ≤ 0 := r24
  have w_0 : ρ 24 = 0 := by omega
  obtain ⟨-, c2⟩ := hc
  have c2 : γ 2 = rUp (γ 1) 15 0 61 0 := c2
  show jn77 [ρ 0, ρ 1, ρ 2, ρ 3, ρ 4, ρ 5, ρ 6, ρ 7, ρ 8, ρ 9, ρ 10, ρ 11, ρ 12, ρ 13, ρ 14, ρ 15, ρ 16, ρ 17, ρ 18, ρ 19, ρ 20, ρ 21, ρ 22, ρ 23] (γ 0) 4 [ρ 0, ρ 1, ρ 2, ρ 3, ρ 4, ρ 5, ρ 6, ρ 7, ρ 8, ρ 9, ρ 10, ρ 11, ρ 12, ρ 13, ρ 14, ρ 15, ρ 16, ρ 17, ρ 18, ρ 19, ρ 20, ρ 21, ρ 22, ρ 23, 0, ρ 24, 0, ρ 25, ρ 26, ρ 27, ρ 28, ρ 29, ρ 30, ρ 31, ρ 32, ρ 33, ρ 34, ρ 35, ρ 36, ρ 37, ρ 38, ρ 39, ρ 40, ρ 41, ρ 42, ρ 43, ρ 44, ρ 45] (γ 2)
  have hD : en77 (γ 0) (1, [ρ 24], γ 1) = .inl (4, [0, ρ 24], γ 2) := by
    unfold en77
    refine (if_neg (show ¬ (1 : Nat) = 0 by decide)).trans ?_
    refine (if_pos (show (1 : Nat) = 1 by decide)).trans ?_
    refine (zLet_eq (show _ = γ 1 from rfl)).trans ?_
    refine (zLet_eq (show _ = ρ 24 from rfl)).trans ?_
    refine (if_pos w_0).trans ?_
    refine (zLet_eq c2.symm).trans ?_
    rfl
  exact zGoo_ato hJ hD
theorem vn77a1_1 {S : Nat → zSpc}  {a : List Int} {g : rHp} : ∀ (ρ : Nat → Int) (γ : Nat → rHp), jn77 a g 1 (zAg (zNA a77_ 1) ρ) (γ 1) → zO 24 S a g q77a1_1 ρ γ → zGl (fun i vs g1 => jn77 a g i vs g1) (sn77 a g) q77a1_1 ρ γ := by
  intro ρ γ hJ h
  obtain ⟨ha, hg, hr, hf, hm, hc, hl⟩ := h
  have ha : a = [ρ 0, ρ 1, ρ 2, ρ 3, ρ 4, ρ 5, ρ 6, ρ 7, ρ 8, ρ 9, ρ 10, ρ 11, ρ 12, ρ 13, ρ 14, ρ 15, ρ 16, ρ 17, ρ 18, ρ 19, ρ 20, ρ 21, ρ 22, ρ 23] := ha
  subst ha
  subst hg
  have hJ : jn77 [ρ 0, ρ 1, ρ 2, ρ 3, ρ 4, ρ 5, ρ 6, ρ 7, ρ 8, ρ 9, ρ 10, ρ 11, ρ 12, ρ 13, ρ 14, ρ 15, ρ 16, ρ 17, ρ 18, ρ 19, ρ 20, ρ 21, ρ 22, ρ 23] (γ 0) 1 [ρ 0, ρ 1, ρ 2, ρ 3, ρ 4, ρ 5, ρ 6, ρ 7, ρ 8, ρ 9, ρ 10, ρ 11, ρ 12, ρ 13, ρ 14, ρ 15, ρ 16, ρ 17, ρ 18, ρ 19, ρ 20, ρ 21, ρ 22, ρ 23, ρ 24, ρ 25, ρ 26, ρ 27, ρ 28, ρ 29, ρ 30, ρ 31, ρ 32, ρ 33, ρ 34, ρ 35, ρ 36, ρ 37, ρ 38, ρ 39, ρ 40, ρ 41, ρ 42, ρ 43, ρ 44, ρ 45] (γ 1) := hJ
  obtain ⟨-, -, -, -, -, -, -, -, -, -, -, -, -, -, -, -, -, -, -, -, -, -, -, -, r24, -⟩ := hr
  have r24 : (1 : Int) ≤ ρ 24 ∧ ρ 24 ≤ 1 := r24
  have w_0 : ¬ (ρ 24 = 0) := by omega
  show jn77 [ρ 0, ρ 1, ρ 2, ρ 3, ρ 4, ρ 5, ρ 6, ρ 7, ρ 8, ρ 9, ρ 10, ρ 11, ρ 12, ρ 13, ρ 14, ρ 15, ρ 16, ρ 17, ρ 18, ρ 19, ρ 20, ρ 21, ρ 22, ρ 23] (γ 0) 2 [ρ 0, ρ 1, ρ 2, ρ 3, ρ 4, ρ 5, ρ 6, ρ 7, ρ 8, ρ 9, ρ 10, ρ 11, ρ 12, ρ 13, ρ 14, ρ 15, ρ 16, ρ 17, ρ 18, ρ 19, ρ 20, ρ 21, ρ 22, ρ 23, 0, 0, ρ 25, ρ 26, ρ 27, ρ 28, ρ 29, ρ 30, ρ 31, ρ 32, ρ 33, ρ 34, ρ 35, ρ 36, ρ 37, ρ 38, ρ 39, ρ 40, ρ 41, ρ 42, ρ 43, ρ 44, ρ 45] (γ 1)
  have hD : en77 (γ 0) (1, [ρ 24], γ 1) = .inl (2, [0, 0], γ 1) := by
    unfold en77
    refine (if_neg (show ¬ (1 : Nat) = 0 by decide)).trans ?_
    refine (if_pos (show (1 : Nat) = 1 by decide)).trans ?_
    refine (zLet_eq (show _ = γ 1 from rfl)).trans ?_
    refine (zLet_eq (show _ = ρ 24 from rfl)).trans ?_
    refine (if_neg w_0).trans ?_
    rfl
  exact zGoo_ato hJ hD
theorem vn77a2_0 {S : Nat → zSpc}  {a : List Int} {g : rHp} : ∀ (ρ : Nat → Int) (γ : Nat → rHp), jn77 a g 2 (zAg (zNA a77_ 2) ρ) (γ 1) → zO 24 S a g q77a2_0 ρ γ → zGl (fun i vs g1 => jn77 a g i vs g1) (sn77 a g) q77a2_0 ρ γ := by
  intro ρ γ hJ h
  obtain ⟨ha, hg, hr, hf, hm, hc, hl⟩ := h
  have ha : a = [ρ 0, ρ 1, ρ 2, ρ 3, ρ 4, ρ 5, ρ 6, ρ 7, ρ 8, ρ 9, ρ 10, ρ 11, ρ 12, ρ 13, ρ 14, ρ 15, ρ 16, ρ 17, ρ 18, ρ 19, ρ 20, ρ 21, ρ 22, ρ 23] := ha
  subst ha
  subst hg
  have hJ : jn77 [ρ 0, ρ 1, ρ 2, ρ 3, ρ 4, ρ 5, ρ 6, ρ 7, ρ 8, ρ 9, ρ 10, ρ 11, ρ 12, ρ 13, ρ 14, ρ 15, ρ 16, ρ 17, ρ 18, ρ 19, ρ 20, ρ 21, ρ 22, ρ 23] (γ 0) 2 [ρ 0, ρ 1, ρ 2, ρ 3, ρ 4, ρ 5, ρ 6, ρ 7, ρ 8, ρ 9, ρ 10, ρ 11, ρ 12, ρ 13, ρ 14, ρ 15, ρ 16, ρ 17, ρ 18, ρ 19, ρ 20, ρ 21, ρ 22, ρ 23, ρ 24, ρ 25, ρ 26, ρ 27, ρ 28, ρ 29, ρ 30, ρ 31, ρ 32, ρ 33, ρ 34, ρ 35, ρ 36, ρ 37, ρ 38, ρ 39, ρ 40, ρ 41, ρ 42, ρ 43, ρ 44, ρ 45, ρ 46] (γ 1) := hJ
  obtain ⟨f0, -⟩ := hf
  have f0 : (0 : Int) ≤ ρ 24 + -ρ 0 := f0
  have w_0 : ρ 24 ≥ ρ 0 := by omega
  obtain ⟨m0, -⟩ := hm
  have m0 : γ 0 15 0 32 = ρ 0 := m0
  show jn77 [ρ 0, ρ 1, ρ 2, ρ 3, ρ 4, ρ 5, ρ 6, ρ 7, ρ 8, ρ 9, ρ 10, ρ 11, ρ 12, ρ 13, ρ 14, ρ 15, ρ 16, ρ 17, ρ 18, ρ 19, ρ 20, ρ 21, ρ 22, ρ 23] (γ 0) 1 [ρ 0, ρ 1, ρ 2, ρ 3, ρ 4, ρ 5, ρ 6, ρ 7, ρ 8, ρ 9, ρ 10, ρ 11, ρ 12, ρ 13, ρ 14, ρ 15, ρ 16, ρ 17, ρ 18, ρ 19, ρ 20, ρ 21, ρ 22, ρ 23, ρ 25, ρ 26, ρ 27, ρ 28, ρ 29, ρ 30, ρ 31, ρ 32, ρ 33, ρ 34, ρ 35, ρ 36, ρ 37, ρ 38, ρ 39, ρ 40, ρ 41, ρ 42, ρ 43, ρ 44, ρ 45, ρ 46] (γ 1)
  have hD : en77 (γ 0) (2, [ρ 24, ρ 25], γ 1) = .inl (1, [ρ 25], γ 1) := by
    unfold en77
    refine (if_neg (show ¬ (2 : Nat) = 0 by decide)).trans ?_
    refine (if_neg (show ¬ (2 : Nat) = 1 by decide)).trans ?_
    refine (if_pos (show (2 : Nat) = 2 by decide)).trans ?_
    refine (zLet_eq (show _ = γ 1 from rfl)).trans ?_
    refine (zLet_eq (show _ = ρ 24 from rfl)).trans ?_
    refine (zLet_eq (show _ = ρ 25 from rfl)).trans ?_
    refine (zLet_eq m0).trans ?_
    refine (if_pos w_0).trans ?_
    rfl
  exact zGoo_ato hJ hD
theorem vn77a2_1 {S : Nat → zSpc}  {a : List Int} {g : rHp} : ∀ (ρ : Nat → Int) (γ : Nat → rHp), jn77 a g 2 (zAg (zNA a77_ 2) ρ) (γ 1) → zO 24 S a g q77a2_1 ρ γ → zGl (fun i vs g1 => jn77 a g i vs g1) (sn77 a g) q77a2_1 ρ γ := by
  intro ρ γ hJ h
  obtain ⟨ha, hg, hr, hf, hm, hc, hl⟩ := h
  have ha : a = [ρ 0, ρ 1, ρ 2, ρ 3, ρ 4, ρ 5, ρ 6, ρ 7, ρ 8, ρ 9, ρ 10, ρ 11, ρ 12, ρ 13, ρ 14, ρ 15, ρ 16, ρ 17, ρ 18, ρ 19, ρ 20, ρ 21, ρ 22, ρ 23] := ha
  subst ha
  subst hg
  have hJ : jn77 [ρ 0, ρ 1, ρ 2, ρ 3, ρ 4, ρ 5, ρ 6, ρ 7, ρ 8, ρ 9, ρ 10, ρ 11, ρ 12, ρ 13, ρ 14, ρ 15, ρ 16, ρ 17, ρ 18, ρ 19, ρ 20, ρ 21, ρ 22, ρ 23] (γ 0) 2 [ρ 0, ρ 1, ρ 2, ρ 3, ρ 4, ρ 5, ρ 6, ρ 7, ρ 8, ρ 9, ρ 10, ρ 11, ρ 12, ρ 13, ρ 14, ρ 15, ρ 16, ρ 17, ρ 18, ρ 19, ρ 20, ρ 21, ρ 22, ρ 23, ρ 24, ρ 25, ρ 26, ρ 27, ρ 28, ρ 29, ρ 30, ρ 31, ρ 32, ρ 33, ρ 34, ρ 35, ρ 36, ρ 37, ρ 38, ρ 39, ρ 40, ρ 41, ρ 42, ρ 43, ρ 44, ρ 45, ρ 46] (γ 1) := hJ
  obtain ⟨f0, -⟩ := hf
  have f0 : (0 : Int) ≤ -ρ 24 + ρ 0 + (-1) := f0
  have w_0 : ¬ (ρ 24 ≥ ρ 0) := by omega
  obtain ⟨m0, -, -, -, -, -, -, -, -, -, -, -, -, -, -, -, -, -, -, -, -, -, -, -, -, -, -, -, -, -, -, -, -, -, -, -, -, -, -, -, -, -, -, -, -, m45, m46, -⟩ := hm
  have m0 : γ 0 15 0 32 = ρ 0 := m0
  have m45 : γ 0 69 0 (ρ 24) = ρ 47 := m45
  have m46 : γ 1 92 0 (ρ 47) = ρ 48 := m46
  show jn77 [ρ 0, ρ 1, ρ 2, ρ 3, ρ 4, ρ 5, ρ 6, ρ 7, ρ 8, ρ 9, ρ 10, ρ 11, ρ 12, ρ 13, ρ 14, ρ 15, ρ 16, ρ 17, ρ 18, ρ 19, ρ 20, ρ 21, ρ 22, ρ 23] (γ 0) 3 [ρ 0, ρ 1, ρ 2, ρ 3, ρ 4, ρ 5, ρ 6, ρ 7, ρ 8, ρ 9, ρ 10, ρ 11, ρ 12, ρ 13, ρ 14, ρ 15, ρ 16, ρ 17, ρ 18, ρ 19, ρ 20, ρ 21, ρ 22, ρ 23, 8 * ρ 24, ρ 48, ρ 24, ρ 25, ρ 26, ρ 27, ρ 28, ρ 29, ρ 30, ρ 31, ρ 32, ρ 33, ρ 34, ρ 35, ρ 36, ρ 37, ρ 38, ρ 39, ρ 40, ρ 41, ρ 42, ρ 43, ρ 44, ρ 45, ρ 46] (γ 1)
  have hD : en77 (γ 0) (2, [ρ 24, ρ 25], γ 1) = .inl (3, [8 * ρ 24, ρ 48, ρ 24, ρ 25], γ 1) := by
    unfold en77
    refine (if_neg (show ¬ (2 : Nat) = 0 by decide)).trans ?_
    refine (if_neg (show ¬ (2 : Nat) = 1 by decide)).trans ?_
    refine (if_pos (show (2 : Nat) = 2 by decide)).trans ?_
    refine (zLet_eq (show _ = γ 1 from rfl)).trans ?_
    refine (zLet_eq (show _ = ρ 24 from rfl)).trans ?_
    refine (zLet_eq (show _ = ρ 25 from rfl)).trans ?_
    refine (zLet_eq m0).trans ?_
    refine (if_neg w_0).trans ?_
    refine (zLet_eq m45).trans ?_
    refine (zLet_eq m46).trans ?_
    rfl
  exact zGoo_ato hJ hD
theorem vn77a3_0 {S : Nat → zSpc}  {a : List Int} {g : rHp} : ∀ (ρ : Nat → Int) (γ : Nat → rHp), jn77 a g 3 (zAg (zNA a77_ 3) ρ) (γ 1) → zO 24 S a g q77a3_0 ρ γ → zGl (fun i vs g1 => jn77 a g i vs g1) (sn77 a g) q77a3_0 ρ γ := by
  intro ρ γ hJ h
  obtain ⟨ha, hg, hr, hf, hm, hc, hl⟩ := h
  have ha : a = [ρ 0, ρ 1, ρ 2, ρ 3, ρ 4, ρ 5, ρ 6, ρ 7, ρ 8, ρ 9, ρ 10, ρ 11, ρ 12, ρ 13, ρ 14, ρ 15, ρ 16, ρ 17, ρ 18, ρ 19, ρ 20, ρ 21, ρ 22, ρ 23] := ha
  subst ha
  subst hg
  have hJ : jn77 [ρ 0, ρ 1, ρ 2, ρ 3, ρ 4, ρ 5, ρ 6, ρ 7, ρ 8, ρ 9, ρ 10, ρ 11, ρ 12, ρ 13, ρ 14, ρ 15, ρ 16, ρ 17, ρ 18, ρ 19, ρ 20, ρ 21, ρ 22, ρ 23] (γ 0) 3 [ρ 0, ρ 1, ρ 2, ρ 3, ρ 4, ρ 5, ρ 6, ρ 7, ρ 8, ρ 9, ρ 10, ρ 11, ρ 12, ρ 13, ρ 14, ρ 15, ρ 16, ρ 17, ρ 18, ρ 19, ρ 20, ρ 21, ρ 22, ρ 23, ρ 24, ρ 25, ρ 26, ρ 27, ρ 28, ρ 29, ρ 30, ρ 31, ρ 32, ρ 33, ρ 34, ρ 35, ρ 36, ρ 37, ρ 38, ρ 39, ρ 40, ρ 41, ρ 42, ρ 43, ρ 44, ρ 45, ρ 46, ρ 47, ρ 48] (γ 1) := hJ
  obtain ⟨-, -, -, -, -, -, -, -, -, -, -, -, -, -, -, -, -, -, -, -, -, -, -, -, -, r25, -, -, -, -, -, -, -, -, -, -, -, -, -, -, -, -, -, -, -, -, -, -, -, -, r50, -⟩ := hr
  have r25 : (0 : Int) ≤ ρ 25 ∧ ρ 25 ≤ 20 := r25
  have r50 : (0 : Int) ≤ ρ 50 ∧ ρ 50 ≤ 0 := r50
  obtain ⟨f0, f1, -⟩ := hf
  have f0 : (0 : Int) ≤ ρ 28 + -ρ 25 := f0
  have f1 : (0 : Int) ≤ -ρ 49 + ((-8) * ρ 26 + ρ 24) := f1
  obtain ⟨w_0, w_1, w_2, w_3⟩ : (ρ 24 ≥ ρ 49 + 8 * ρ 26) ∧ (ρ 25 ≤ 20) ∧ (0 ≤ -ρ 50) ∧ (ρ 25 ≤ ρ 28) := ⟨by omega, by omega, by omega, by omega⟩
  obtain ⟨-, -, -, -, -, -, -, -, -, -, -, -, -, -, -, -, -, -, -, -, -, -, -, -, m24, m25, m26, m27, m28, m29, m30, m31, m32, m33, m34, m35, m36, m37, m38, m39, m40, m41, m42, m43, -, m45, m46, -⟩ := hm
  have m24 : γ 1 92 0 0 = ρ 28 := m24
  have m25 : γ 1 92 0 1 = ρ 29 := m25
  have m26 : γ 1 92 0 2 = ρ 30 := m26
  have m27 : γ 1 92 0 3 = ρ 31 := m27
  have m28 : γ 1 92 0 4 = ρ 32 := m28
  have m29 : γ 1 92 0 5 = ρ 33 := m29
  have m30 : γ 1 92 0 6 = ρ 34 := m30
  have m31 : γ 1 92 0 7 = ρ 35 := m31
  have m32 : γ 1 92 0 8 = ρ 36 := m32
  have m33 : γ 1 92 0 9 = ρ 37 := m33
  have m34 : γ 1 92 0 10 = ρ 38 := m34
  have m35 : γ 1 92 0 11 = ρ 39 := m35
  have m36 : γ 1 92 0 12 = ρ 40 := m36
  have m37 : γ 1 92 0 13 = ρ 41 := m37
  have m38 : γ 1 92 0 14 = ρ 42 := m38
  have m39 : γ 1 92 0 15 = ρ 43 := m39
  have m40 : γ 1 92 0 16 = ρ 44 := m40
  have m41 : γ 1 92 0 17 = ρ 45 := m41
  have m42 : γ 1 92 0 18 = ρ 46 := m42
  have m43 : γ 1 92 0 19 = ρ 47 := m43
  have m45 : γ 0 73 0 (ρ 26) = ρ 49 := m45
  have m46 : γ 0 69 0 (ρ 26) = ρ 50 := m46
  show jn77 [ρ 0, ρ 1, ρ 2, ρ 3, ρ 4, ρ 5, ρ 6, ρ 7, ρ 8, ρ 9, ρ 10, ρ 11, ρ 12, ρ 13, ρ 14, ρ 15, ρ 16, ρ 17, ρ 18, ρ 19, ρ 20, ρ 21, ρ 22, ρ 23] (γ 0) 2 [ρ 0, ρ 1, ρ 2, ρ 3, ρ 4, ρ 5, ρ 6, ρ 7, ρ 8, ρ 9, ρ 10, ρ 11, ρ 12, ρ 13, ρ 14, ρ 15, ρ 16, ρ 17, ρ 18, ρ 19, ρ 20, ρ 21, ρ 22, ρ 23, ρ 26 + 1, ρ 27, ρ 28, ρ 29, ρ 30, ρ 31, ρ 32, ρ 33, ρ 34, ρ 35, ρ 36, ρ 37, ρ 38, ρ 39, ρ 40, ρ 41, ρ 42, ρ 43, ρ 44, ρ 45, ρ 46, ρ 47, ρ 48] (γ 1)
  have hD : en77 (γ 0) (3, [ρ 24, ρ 25, ρ 26, ρ 27], γ 1) = .inl (2, [ρ 26 + 1, ρ 27], γ 1) := by
    unfold en77
    refine (if_neg (show ¬ (3 : Nat) = 0 by decide)).trans ?_
    refine (if_neg (show ¬ (3 : Nat) = 1 by decide)).trans ?_
    refine (if_neg (show ¬ (3 : Nat) = 2 by decide)).trans ?_
    refine (if_pos (show (3 : Nat) = 3 by decide)).trans ?_
    refine (zLet_eq (show _ = γ 1 from rfl)).trans ?_
    refine (zLet_eq (show _ = ρ 24 from rfl)).trans ?_
    refine (zLet_eq (show _ = ρ 25 from rfl)).trans ?_
    refine (zLet_eq (show _ = ρ 26 from rfl)).trans ?_
    refine (zLet_eq (show _ = ρ 27 from rfl)).trans ?_
    refine (zLet_eq m24).trans ?_
    refine (zLet_eq m25).trans ?_
    refine (zLet_eq m26).trans ?_
    refine (zLet_eq m27).trans ?_
    refine (zLet_eq m28).trans ?_
    refine (zLet_eq m29).trans ?_
    refine (zLet_eq m30).trans ?_
    refine (zLet_eq m31).trans ?_
    refine (zLet_eq m32).trans ?_
    refine (zLet_eq m33).trans ?_
    refine (zLet_eq m34).trans ?_
    refine (zLet_eq m35).trans ?_
    refine (zLet_eq m36).trans ?_
    refine (zLet_eq m37).trans ?_
    refine (zLet_eq m38).trans ?_
    refine (zLet_eq m39).trans ?_
    refine (zLet_eq m40).trans ?_
    refine (zLet_eq m41).trans ?_
    refine (zLet_eq m42).trans ?_
    refine (zLet_eq m43).trans ?_
    refine (zLet_eq m45).trans ?_
    refine (if_pos w_0).trans ?_
    refine (if_pos w_1).trans ?_
    refine (zLet_eq m46).trans ?_
    refine (if_pos w_2).trans ?_
    refine (if_pos w_3).trans ?_
    rfl
  exact zGoo_ato hJ hD
theorem vn77a3_1 {S : Nat → zSpc}  {a : List Int} {g : rHp} : ∀ (ρ : Nat → Int) (γ : Nat → rHp), jn77 a g 3 (zAg (zNA a77_ 3) ρ) (γ 1) → zO 24 S a g q77a3_1 ρ γ → zGl (fun i vs g1 => jn77 a g i vs g1) (sn77 a g) q77a3_1 ρ γ := by
  intro ρ γ hJ h
  obtain ⟨ha, hg, hr, hf, hm, hc, hl⟩ := h
  have ha : a = [ρ 0, ρ 1, ρ 2, ρ 3, ρ 4, ρ 5, ρ 6, ρ 7, ρ 8, ρ 9, ρ 10, ρ 11, ρ 12, ρ 13, ρ 14, ρ 15, ρ 16, ρ 17, ρ 18, ρ 19, ρ 20, ρ 21, ρ 22, ρ 23] := ha
  subst ha
  subst hg
  have hJ : jn77 [ρ 0, ρ 1, ρ 2, ρ 3, ρ 4, ρ 5, ρ 6, ρ 7, ρ 8, ρ 9, ρ 10, ρ 11, ρ 12, ρ 13, ρ 14, ρ 15, ρ 16, ρ 17, ρ 18, ρ 19, ρ 20, ρ 21, ρ 22, ρ 23] (γ 0) 3 [ρ 0, ρ 1, ρ 2, ρ 3, ρ 4, ρ 5, ρ 6, ρ 7, ρ 8, ρ 9, ρ 10, ρ 11, ρ 12, ρ 13, ρ 14, ρ 15, ρ 16, ρ 17, ρ 18, ρ 19, ρ 20, ρ 21, ρ 22, ρ 23, ρ 24, ρ 25, ρ 26, ρ 27, ρ 28, ρ 29, ρ 30, ρ 31, ρ 32, ρ 33, ρ 34, ρ 35, ρ 36, ρ 37, ρ 38, ρ 39, ρ 40, ρ 41, ρ 42, ρ 43, ρ 44, ρ 45, ρ 46, ρ 47, ρ 48] (γ 1) := hJ
  obtain ⟨-, -, -, -, -, -, -, -, -, -, -, -, -, -, -, -, -, -, -, -, -, -, -, -, -, r25, -, -, -, -, -, -, -, -, -, -, -, -, -, -, -, -, -, -, -, -, -, -, -, -, r50, -⟩ := hr
  have r25 : (0 : Int) ≤ ρ 25 ∧ ρ 25 ≤ 20 := r25
  have r50 : (0 : Int) ≤ ρ 50 ∧ ρ 50 ≤ 0 := r50
  obtain ⟨f0, f1, -⟩ := hf
  have f0 : (0 : Int) ≤ -ρ 28 + ρ 25 + (-1) := f0
  have f1 : (0 : Int) ≤ -ρ 49 + ((-8) * ρ 26 + ρ 24) := f1
  obtain ⟨w_0, w_1, w_2, w_3⟩ : (ρ 24 ≥ ρ 49 + 8 * ρ 26) ∧ (ρ 25 ≤ 20) ∧ (0 ≤ -ρ 50) ∧ (¬ (ρ 25 ≤ ρ 28)) := ⟨by omega, by omega, by omega, by omega⟩
  obtain ⟨-, -, -, -, -, -, -, -, -, -, -, -, -, -, -, -, -, -, -, -, -, -, -, -, m24, m25, m26, m27, m28, m29, m30, m31, m32, m33, m34, m35, m36, m37, m38, m39, m40, m41, m42, m43, -, m45, m46, -⟩ := hm
  have m24 : γ 1 92 0 0 = ρ 28 := m24
  have m25 : γ 1 92 0 1 = ρ 29 := m25
  have m26 : γ 1 92 0 2 = ρ 30 := m26
  have m27 : γ 1 92 0 3 = ρ 31 := m27
  have m28 : γ 1 92 0 4 = ρ 32 := m28
  have m29 : γ 1 92 0 5 = ρ 33 := m29
  have m30 : γ 1 92 0 6 = ρ 34 := m30
  have m31 : γ 1 92 0 7 = ρ 35 := m31
  have m32 : γ 1 92 0 8 = ρ 36 := m32
  have m33 : γ 1 92 0 9 = ρ 37 := m33
  have m34 : γ 1 92 0 10 = ρ 38 := m34
  have m35 : γ 1 92 0 11 = ρ 39 := m35
  have m36 : γ 1 92 0 12 = ρ 40 := m36
  have m37 : γ 1 92 0 13 = ρ 41 := m37
  have m38 : γ 1 92 0 14 = ρ 42 := m38
  have m39 : γ 1 92 0 15 = ρ 43 := m39
  have m40 : γ 1 92 0 16 = ρ 44 := m40
  have m41 : γ 1 92 0 17 = ρ 45 := m41
  have m42 : γ 1 92 0 18 = ρ 46 := m42
  have m43 : γ 1 92 0 19 = ρ 47 := m43
  have m45 : γ 0 73 0 (ρ 26) = ρ 49 := m45
  have m46 : γ 0 69 0 (ρ 26) = ρ 50 := m46
  obtain ⟨-, c2⟩ := hc
  have c2 : γ 2 = rUp (γ 1) 92 0 (ρ 50) (ρ 25) := c2
  show jn77 [ρ 0, ρ 1, ρ 2, ρ 3, ρ 4, ρ 5, ρ 6, ρ 7, ρ 8, ρ 9, ρ 10, ρ 11, ρ 12, ρ 13, ρ 14, ρ 15, ρ 16, ρ 17, ρ 18, ρ 19, ρ 20, ρ 21, ρ 22, ρ 23] (γ 0) 2 [ρ 0, ρ 1, ρ 2, ρ 3, ρ 4, ρ 5, ρ 6, ρ 7, ρ 8, ρ 9, ρ 10, ρ 11, ρ 12, ρ 13, ρ 14, ρ 15, ρ 16, ρ 17, ρ 18, ρ 19, ρ 20, ρ 21, ρ 22, ρ 23, ρ 26 + 1, 1, ρ 25, ρ 29, ρ 30, ρ 31, ρ 32, ρ 33, ρ 34, ρ 35, ρ 36, ρ 37, ρ 38, ρ 39, ρ 40, ρ 41, ρ 42, ρ 43, ρ 44, ρ 45, ρ 46, ρ 47, ρ 48] (γ 2)
  have hD : en77 (γ 0) (3, [ρ 24, ρ 25, ρ 26, ρ 27], γ 1) = .inl (2, [ρ 26 + 1, 1], γ 2) := by
    unfold en77
    refine (if_neg (show ¬ (3 : Nat) = 0 by decide)).trans ?_
    refine (if_neg (show ¬ (3 : Nat) = 1 by decide)).trans ?_
    refine (if_neg (show ¬ (3 : Nat) = 2 by decide)).trans ?_
    refine (if_pos (show (3 : Nat) = 3 by decide)).trans ?_
    refine (zLet_eq (show _ = γ 1 from rfl)).trans ?_
    refine (zLet_eq (show _ = ρ 24 from rfl)).trans ?_
    refine (zLet_eq (show _ = ρ 25 from rfl)).trans ?_
    refine (zLet_eq (show _ = ρ 26 from rfl)).trans ?_
    refine (zLet_eq (show _ = ρ 27 from rfl)).trans ?_
    refine (zLet_eq m24).trans ?_
    refine (zLet_eq m25).trans ?_
    refine (zLet_eq m26).trans ?_
    refine (zLet_eq m27).trans ?_
    refine (zLet_eq m28).trans ?_
    refine (zLet_eq m29).trans ?_
    refine (zLet_eq m30).trans ?_
    refine (zLet_eq m31).trans ?_
    refine (zLet_eq m32).trans ?_
    refine (zLet_eq m33).trans ?_
    refine (zLet_eq m34).trans ?_
    refine (zLet_eq m35).trans ?_
    refine (zLet_eq m36).trans ?_
    refine (zLet_eq m37).trans ?_
    refine (zLet_eq m38).trans ?_
    refine (zLet_eq m39).trans ?_
    refine (zLet_eq m40).trans ?_
    refine (zLet_eq m41).trans ?_
    refine (zLet_eq m42).trans ?_
    refine (zLet_eq m43).trans ?_
    refine (zLet_eq m45).trans ?_
    refine (if_pos w_0).trans ?_
    refine (if_pos w_1).trans ?_
    refine (zLet_eq m46).trans ?_
    refine (if_pos w_2).trans ?_
    refine (if_neg w_3).trans ?_
    refine (zLet_eq c2.symm).trans ?_
    rfl
  exact zGoo_ato hJ hD
theorem vn77a3_2 {S : Nat → zSpc}  {a : List Int} {g : rHp} : ∀ (ρ : Nat → Int) (γ : Nat → rHp), jn77 a g 3 (zAg (zNA a77_ 3) ρ) (γ 1) → zO 24 S a g q77a3_2 ρ γ → zGl (fun i vs g1 => jn77 a g i vs g1) (sn77 a g) q77a3_2 ρ γ := by
  intro ρ γ hJ h
  obtain ⟨ha, hg, hr, hf, hm, hc, hl⟩ := h
  have ha : a = [ρ 0, ρ 1, ρ 2, ρ 3, ρ 4, ρ 5, ρ 6, ρ 7, ρ 8, ρ 9, ρ 10, ρ 11, ρ 12, ρ 13, ρ 14, ρ 15, ρ 16, ρ 17, ρ 18, ρ 19, ρ 20, ρ 21, ρ 22, ρ 23] := ha
  subst ha
  subst hg
  have hJ : jn77 [ρ 0, ρ 1, ρ 2, ρ 3, ρ 4, ρ 5, ρ 6, ρ 7, ρ 8, ρ 9, ρ 10, ρ 11, ρ 12, ρ 13, ρ 14, ρ 15, ρ 16, ρ 17, ρ 18, ρ 19, ρ 20, ρ 21, ρ 22, ρ 23] (γ 0) 3 [ρ 0, ρ 1, ρ 2, ρ 3, ρ 4, ρ 5, ρ 6, ρ 7, ρ 8, ρ 9, ρ 10, ρ 11, ρ 12, ρ 13, ρ 14, ρ 15, ρ 16, ρ 17, ρ 18, ρ 19, ρ 20, ρ 21, ρ 22, ρ 23, ρ 24, ρ 25, ρ 26, ρ 27, ρ 28, ρ 29, ρ 30, ρ 31, ρ 32, ρ 33, ρ 34, ρ 35, ρ 36, ρ 37, ρ 38, ρ 39, ρ 40, ρ 41, ρ 42, ρ 43, ρ 44, ρ 45, ρ 46, ρ 47, ρ 48] (γ 1) := hJ
  obtain ⟨-, -, -, -, -, -, -, -, -, -, -, -, -, -, -, -, -, -, -, -, -, -, -, -, -, r25, -, -, -, -, -, -, -, -, -, -, -, -, -, -, -, -, -, -, -, -, -, -, -, -, r50, -⟩ := hr
  have r25 : (0 : Int) ≤ ρ 25 ∧ ρ 25 ≤ 20 := r25
  have r50 : (1 : Int) ≤ ρ 50 ∧ ρ 50 ≤ 1 := r50
  obtain ⟨f0, f1, -⟩ := hf
  have f0 : (0 : Int) ≤ ρ 29 + -ρ 25 := f0
  have f1 : (0 : Int) ≤ -ρ 49 + ((-8) * ρ 26 + ρ 24) := f1
  obtain ⟨w_0, w_1, w_2, w_3, w_4⟩ : (ρ 24 ≥ ρ 49 + 8 * ρ 26) ∧ (ρ 25 ≤ 20) ∧ (¬ (0 ≤ -ρ 50)) ∧ (0 ≤ -ρ 50 + 1) ∧ (ρ 25 ≤ ρ 29) := ⟨by omega, by omega, by omega, by omega, by omega⟩
  obtain ⟨-, -, -, -, -, -, -, -, -, -, -, -, -, -, -, -, -, -, -, -, -, -, -, -, m24, m25, m26, m27, m28, m29, m30, m31, m32, m33, m34, m35, m36, m37, m38, m39, m40, m41, m42, m43, -, m45, m46, -⟩ := hm
  have m24 : γ 1 92 0 0 = ρ 28 := m24
  have m25 : γ 1 92 0 1 = ρ 29 := m25
  have m26 : γ 1 92 0 2 = ρ 30 := m26
  have m27 : γ 1 92 0 3 = ρ 31 := m27
  have m28 : γ 1 92 0 4 = ρ 32 := m28
  have m29 : γ 1 92 0 5 = ρ 33 := m29
  have m30 : γ 1 92 0 6 = ρ 34 := m30
  have m31 : γ 1 92 0 7 = ρ 35 := m31
  have m32 : γ 1 92 0 8 = ρ 36 := m32
  have m33 : γ 1 92 0 9 = ρ 37 := m33
  have m34 : γ 1 92 0 10 = ρ 38 := m34
  have m35 : γ 1 92 0 11 = ρ 39 := m35
  have m36 : γ 1 92 0 12 = ρ 40 := m36
  have m37 : γ 1 92 0 13 = ρ 41 := m37
  have m38 : γ 1 92 0 14 = ρ 42 := m38
  have m39 : γ 1 92 0 15 = ρ 43 := m39
  have m40 : γ 1 92 0 16 = ρ 44 := m40
  have m41 : γ 1 92 0 17 = ρ 45 := m41
  have m42 : γ 1 92 0 18 = ρ 46 := m42
  have m43 : γ 1 92 0 19 = ρ 47 := m43
  have m45 : γ 0 73 0 (ρ 26) = ρ 49 := m45
  have m46 : γ 0 69 0 (ρ 26) = ρ 50 := m46
  show jn77 [ρ 0, ρ 1, ρ 2, ρ 3, ρ 4, ρ 5, ρ 6, ρ 7, ρ 8, ρ 9, ρ 10, ρ 11, ρ 12, ρ 13, ρ 14, ρ 15, ρ 16, ρ 17, ρ 18, ρ 19, ρ 20, ρ 21, ρ 22, ρ 23] (γ 0) 2 [ρ 0, ρ 1, ρ 2, ρ 3, ρ 4, ρ 5, ρ 6, ρ 7, ρ 8, ρ 9, ρ 10, ρ 11, ρ 12, ρ 13, ρ 14, ρ 15, ρ 16, ρ 17, ρ 18, ρ 19, ρ 20, ρ 21, ρ 22, ρ 23, ρ 26 + 1, ρ 27, ρ 28, ρ 29, ρ 30, ρ 31, ρ 32, ρ 33, ρ 34, ρ 35, ρ 36, ρ 37, ρ 38, ρ 39, ρ 40, ρ 41, ρ 42, ρ 43, ρ 44, ρ 45, ρ 46, ρ 47, ρ 48] (γ 1)
  have hD : en77 (γ 0) (3, [ρ 24, ρ 25, ρ 26, ρ 27], γ 1) = .inl (2, [ρ 26 + 1, ρ 27], γ 1) := by
    unfold en77
    refine (if_neg (show ¬ (3 : Nat) = 0 by decide)).trans ?_
    refine (if_neg (show ¬ (3 : Nat) = 1 by decide)).trans ?_
    refine (if_neg (show ¬ (3 : Nat) = 2 by decide)).trans ?_
    refine (if_pos (show (3 : Nat) = 3 by decide)).trans ?_
    refine (zLet_eq (show _ = γ 1 from rfl)).trans ?_
    refine (zLet_eq (show _ = ρ 24 from rfl)).trans ?_
    refine (zLet_eq (show _ = ρ 25 from rfl)).trans ?_
    refine (zLet_eq (show _ = ρ 26 from rfl)).trans ?_
    refine (zLet_eq (show _ = ρ 27 from rfl)).trans ?_
    refine (zLet_eq m24).trans ?_
    refine (zLet_eq m25).trans ?_
    refine (zLet_eq m26).trans ?_
    refine (zLet_eq m27).trans ?_
    refine (zLet_eq m28).trans ?_
    refine (zLet_eq m29).trans ?_
    refine (zLet_eq m30).trans ?_
    refine (zLet_eq m31).trans ?_
    refine (zLet_eq m32).trans ?_
    refine (zLet_eq m33).trans ?_
    refine (zLet_eq m34).trans ?_
    refine (zLet_eq m35).trans ?_
    refine (zLet_eq m36).trans ?_
    refine (zLet_eq m37).trans ?_
    refine (zLet_eq m38).trans ?_
    refine (zLet_eq m39).trans ?_
    refine (zLet_eq m40).trans ?_
    refine (zLet_eq m41).trans ?_
    refine (zLet_eq m42).trans ?_
    refine (zLet_eq m43).trans ?_
    refine (zLet_eq m45).trans ?_
    refine (if_pos w_0).trans ?_
    refine (if_pos w_1).trans ?_
    refine (zLet_eq m46).trans ?_
    refine (if_neg w_2).trans ?_
    refine (if_pos w_3).trans ?_
    refine (if_pos w_4).trans ?_
    rfl
  exact zGoo_ato hJ hD
theorem vn77a3_3 {S : Nat → zSpc}  {a : List Int} {g : rHp} : ∀ (ρ : Nat → Int) (γ : Nat → rHp), jn77 a g 3 (zAg (zNA a77_ 3) ρ) (γ 1) → zO 24 S a g q77a3_3 ρ γ → zGl (fun i vs g1 => jn77 a g i vs g1) (sn77 a g) q77a3_3 ρ γ := by
  intro ρ γ hJ h
  obtain ⟨ha, hg, hr, hf, hm, hc, hl⟩ := h
  have ha : a = [ρ 0, ρ 1, ρ 2, ρ 3, ρ 4, ρ 5, ρ 6, ρ 7, ρ 8, ρ 9, ρ 10, ρ 11, ρ 12, ρ 13, ρ 14, ρ 15, ρ 16, ρ 17, ρ 18, ρ 19, ρ 20, ρ 21, ρ 22, ρ 23] := ha
  subst ha
  subst hg
  have hJ : jn77 [ρ 0, ρ 1, ρ 2, ρ 3, ρ 4, ρ 5, ρ 6, ρ 7, ρ 8, ρ 9, ρ 10, ρ 11, ρ 12, ρ 13, ρ 14, ρ 15, ρ 16, ρ 17, ρ 18, ρ 19, ρ 20, ρ 21, ρ 22, ρ 23] (γ 0) 3 [ρ 0, ρ 1, ρ 2, ρ 3, ρ 4, ρ 5, ρ 6, ρ 7, ρ 8, ρ 9, ρ 10, ρ 11, ρ 12, ρ 13, ρ 14, ρ 15, ρ 16, ρ 17, ρ 18, ρ 19, ρ 20, ρ 21, ρ 22, ρ 23, ρ 24, ρ 25, ρ 26, ρ 27, ρ 28, ρ 29, ρ 30, ρ 31, ρ 32, ρ 33, ρ 34, ρ 35, ρ 36, ρ 37, ρ 38, ρ 39, ρ 40, ρ 41, ρ 42, ρ 43, ρ 44, ρ 45, ρ 46, ρ 47, ρ 48] (γ 1) := hJ
  obtain ⟨-, -, -, -, -, -, -, -, -, -, -, -, -, -, -, -, -, -, -, -, -, -, -, -, -, r25, -, -, -, -, -, -, -, -, -, -, -, -, -, -, -, -, -, -, -, -, -, -, -, -, r50, -⟩ := hr
  have r25 : (0 : Int) ≤ ρ 25 ∧ ρ 25 ≤ 20 := r25
  have r50 : (1 : Int) ≤ ρ 50 ∧ ρ 50 ≤ 1 := r50
  obtain ⟨f0, f1, -⟩ := hf
  have f0 : (0 : Int) ≤ -ρ 29 + ρ 25 + (-1) := f0
  have f1 : (0 : Int) ≤ -ρ 49 + ((-8) * ρ 26 + ρ 24) := f1
  obtain ⟨w_0, w_1, w_2, w_3, w_4⟩ : (ρ 24 ≥ ρ 49 + 8 * ρ 26) ∧ (ρ 25 ≤ 20) ∧ (¬ (0 ≤ -ρ 50)) ∧ (0 ≤ -ρ 50 + 1) ∧ (¬ (ρ 25 ≤ ρ 29)) := ⟨by omega, by omega, by omega, by omega, by omega⟩
  obtain ⟨-, -, -, -, -, -, -, -, -, -, -, -, -, -, -, -, -, -, -, -, -, -, -, -, m24, m25, m26, m27, m28, m29, m30, m31, m32, m33, m34, m35, m36, m37, m38, m39, m40, m41, m42, m43, -, m45, m46, -⟩ := hm
  have m24 : γ 1 92 0 0 = ρ 28 := m24
  have m25 : γ 1 92 0 1 = ρ 29 := m25
  have m26 : γ 1 92 0 2 = ρ 30 := m26
  have m27 : γ 1 92 0 3 = ρ 31 := m27
  have m28 : γ 1 92 0 4 = ρ 32 := m28
  have m29 : γ 1 92 0 5 = ρ 33 := m29
  have m30 : γ 1 92 0 6 = ρ 34 := m30
  have m31 : γ 1 92 0 7 = ρ 35 := m31
  have m32 : γ 1 92 0 8 = ρ 36 := m32
  have m33 : γ 1 92 0 9 = ρ 37 := m33
  have m34 : γ 1 92 0 10 = ρ 38 := m34
  have m35 : γ 1 92 0 11 = ρ 39 := m35
  have m36 : γ 1 92 0 12 = ρ 40 := m36
  have m37 : γ 1 92 0 13 = ρ 41 := m37
  have m38 : γ 1 92 0 14 = ρ 42 := m38
  have m39 : γ 1 92 0 15 = ρ 43 := m39
  have m40 : γ 1 92 0 16 = ρ 44 := m40
  have m41 : γ 1 92 0 17 = ρ 45 := m41
  have m42 : γ 1 92 0 18 = ρ 46 := m42
  have m43 : γ 1 92 0 19 = ρ 47 := m43
  have m45 : γ 0 73 0 (ρ 26) = ρ 49 := m45
  have m46 : γ 0 69 0 (ρ 26) = ρ 50 := m46
  obtain ⟨-, c2⟩ := hc
  have c2 : γ 2 = rUp (γ 1) 92 0 (ρ 50) (ρ 25) := c2
  show jn77 [ρ 0, ρ 1, ρ 2, ρ 3, ρ 4, ρ 5, ρ 6, ρ 7, ρ 8, ρ 9, ρ 10, ρ 11, ρ 12, ρ 13, ρ 14, ρ 15, ρ 16, ρ 17, ρ 18, ρ 19, ρ 20, ρ 21, ρ 22, ρ 23] (γ 0) 2 [ρ 0, ρ 1, ρ 2, ρ 3, ρ 4, ρ 5, ρ 6, ρ 7, ρ 8, ρ 9, ρ 10, ρ 11, ρ 12, ρ 13, ρ 14, ρ 15, ρ 16, ρ 17, ρ 18, ρ 19, ρ 20, ρ 21, ρ 22, ρ 23, ρ 26 + 1, 1, ρ 28, ρ 25, ρ 30, ρ 31, ρ 32, ρ 33, ρ 34, ρ 35, ρ 36, ρ 37, ρ 38, ρ 39, ρ 40, ρ 41, ρ 42, ρ 43, ρ 44, ρ 45, ρ 46, ρ 47, ρ 48] (γ 2)
  have hD : en77 (γ 0) (3, [ρ 24, ρ 25, ρ 26, ρ 27], γ 1) = .inl (2, [ρ 26 + 1, 1], γ 2) := by
    unfold en77
    refine (if_neg (show ¬ (3 : Nat) = 0 by decide)).trans ?_
    refine (if_neg (show ¬ (3 : Nat) = 1 by decide)).trans ?_
    refine (if_neg (show ¬ (3 : Nat) = 2 by decide)).trans ?_
    refine (if_pos (show (3 : Nat) = 3 by decide)).trans ?_
    refine (zLet_eq (show _ = γ 1 from rfl)).trans ?_
    refine (zLet_eq (show _ = ρ 24 from rfl)).trans ?_
    refine (zLet_eq (show _ = ρ 25 from rfl)).trans ?_
    refine (zLet_eq (show _ = ρ 26 from rfl)).trans ?_
    refine (zLet_eq (show _ = ρ 27 from rfl)).trans ?_
    refine (zLet_eq m24).trans ?_
    refine (zLet_eq m25).trans ?_
    refine (zLet_eq m26).trans ?_
    refine (zLet_eq m27).trans ?_
    refine (zLet_eq m28).trans ?_
    refine (zLet_eq m29).trans ?_
    refine (zLet_eq m30).trans ?_
    refine (zLet_eq m31).trans ?_
    refine (zLet_eq m32).trans ?_
    refine (zLet_eq m33).trans ?_
    refine (zLet_eq m34).trans ?_
    refine (zLet_eq m35).trans ?_
    refine (zLet_eq m36).trans ?_
    refine (zLet_eq m37).trans ?_
    refine (zLet_eq m38).trans ?_
    refine (zLet_eq m39).trans ?_
    refine (zLet_eq m40).trans ?_
    refine (zLet_eq m41).trans ?_
    refine (zLet_eq m42).trans ?_
    refine (zLet_eq m43).trans ?_
    refine (zLet_eq m45).trans ?_
    refine (if_pos w_0).trans ?_
    refine (if_pos w_1).trans ?_
    refine (zLet_eq m46).trans ?_
    refine (if_neg w_2).trans ?_
    refine (if_pos w_3).trans ?_
    refine (if_neg w_4).trans ?_
    refine (zLet_eq c2.symm).trans ?_
    rfl
  exact zGoo_ato hJ hD
theorem vn77a3_4 {S : Nat → zSpc}  {a : List Int} {g : rHp} : ∀ (ρ : Nat → Int) (γ : Nat → rHp), jn77 a g 3 (zAg (zNA a77_ 3) ρ) (γ 1) → zO 24 S a g q77a3_4 ρ γ → zGl (fun i vs g1 => jn77 a g i vs g1) (sn77 a g) q77a3_4 ρ γ := by
  intro ρ γ hJ h
  obtain ⟨ha, hg, hr, hf, hm, hc, hl⟩ := h
  have ha : a = [ρ 0, ρ 1, ρ 2, ρ 3, ρ 4, ρ 5, ρ 6, ρ 7, ρ 8, ρ 9, ρ 10, ρ 11, ρ 12, ρ 13, ρ 14, ρ 15, ρ 16, ρ 17, ρ 18, ρ 19, ρ 20, ρ 21, ρ 22, ρ 23] := ha
  subst ha
  subst hg
  have hJ : jn77 [ρ 0, ρ 1, ρ 2, ρ 3, ρ 4, ρ 5, ρ 6, ρ 7, ρ 8, ρ 9, ρ 10, ρ 11, ρ 12, ρ 13, ρ 14, ρ 15, ρ 16, ρ 17, ρ 18, ρ 19, ρ 20, ρ 21, ρ 22, ρ 23] (γ 0) 3 [ρ 0, ρ 1, ρ 2, ρ 3, ρ 4, ρ 5, ρ 6, ρ 7, ρ 8, ρ 9, ρ 10, ρ 11, ρ 12, ρ 13, ρ 14, ρ 15, ρ 16, ρ 17, ρ 18, ρ 19, ρ 20, ρ 21, ρ 22, ρ 23, ρ 24, ρ 25, ρ 26, ρ 27, ρ 28, ρ 29, ρ 30, ρ 31, ρ 32, ρ 33, ρ 34, ρ 35, ρ 36, ρ 37, ρ 38, ρ 39, ρ 40, ρ 41, ρ 42, ρ 43, ρ 44, ρ 45, ρ 46, ρ 47, ρ 48] (γ 1) := hJ
  obtain ⟨-, -, -, -, -, -, -, -, -, -, -, -, -, -, -, -, -, -, -, -, -, -, -, -, -, r25, -, -, -, -, -, -, -, -, -, -, -, -, -, -, -, -, -, -, -, -, -, -, -, -, r50, -⟩ := hr
  have r25 : (0 : Int) ≤ ρ 25 ∧ ρ 25 ≤ 20 := r25
  have r50 : (2 : Int) ≤ ρ 50 ∧ ρ 50 ≤ 2 := r50
  obtain ⟨f0, f1, -⟩ := hf
  have f0 : (0 : Int) ≤ ρ 30 + -ρ 25 := f0
  have f1 : (0 : Int) ≤ -ρ 49 + ((-8) * ρ 26 + ρ 24) := f1
  obtain ⟨w_0, w_1, w_2, w_3, w_4, w_5⟩ : (ρ 24 ≥ ρ 49 + 8 * ρ 26) ∧ (ρ 25 ≤ 20) ∧ (¬ (0 ≤ -ρ 50)) ∧ (¬ (0 ≤ -ρ 50 + 1)) ∧ (0 ≤ -ρ 50 + 2) ∧ (ρ 25 ≤ ρ 30) := ⟨by omega, by omega, by omega, by omega, by omega, by omega⟩
  obtain ⟨-, -, -, -, -, -, -, -, -, -, -, -, -, -, -, -, -, -, -, -, -, -, -, -, m24, m25, m26, m27, m28, m29, m30, m31, m32, m33, m34, m35, m36, m37, m38, m39, m40, m41, m42, m43, -, m45, m46, -⟩ := hm
  have m24 : γ 1 92 0 0 = ρ 28 := m24
  have m25 : γ 1 92 0 1 = ρ 29 := m25
  have m26 : γ 1 92 0 2 = ρ 30 := m26
  have m27 : γ 1 92 0 3 = ρ 31 := m27
  have m28 : γ 1 92 0 4 = ρ 32 := m28
  have m29 : γ 1 92 0 5 = ρ 33 := m29
  have m30 : γ 1 92 0 6 = ρ 34 := m30
  have m31 : γ 1 92 0 7 = ρ 35 := m31
  have m32 : γ 1 92 0 8 = ρ 36 := m32
  have m33 : γ 1 92 0 9 = ρ 37 := m33
  have m34 : γ 1 92 0 10 = ρ 38 := m34
  have m35 : γ 1 92 0 11 = ρ 39 := m35
  have m36 : γ 1 92 0 12 = ρ 40 := m36
  have m37 : γ 1 92 0 13 = ρ 41 := m37
  have m38 : γ 1 92 0 14 = ρ 42 := m38
  have m39 : γ 1 92 0 15 = ρ 43 := m39
  have m40 : γ 1 92 0 16 = ρ 44 := m40
  have m41 : γ 1 92 0 17 = ρ 45 := m41
  have m42 : γ 1 92 0 18 = ρ 46 := m42
  have m43 : γ 1 92 0 19 = ρ 47 := m43
  have m45 : γ 0 73 0 (ρ 26) = ρ 49 := m45
  have m46 : γ 0 69 0 (ρ 26) = ρ 50 := m46
  show jn77 [ρ 0, ρ 1, ρ 2, ρ 3, ρ 4, ρ 5, ρ 6, ρ 7, ρ 8, ρ 9, ρ 10, ρ 11, ρ 12, ρ 13, ρ 14, ρ 15, ρ 16, ρ 17, ρ 18, ρ 19, ρ 20, ρ 21, ρ 22, ρ 23] (γ 0) 2 [ρ 0, ρ 1, ρ 2, ρ 3, ρ 4, ρ 5, ρ 6, ρ 7, ρ 8, ρ 9, ρ 10, ρ 11, ρ 12, ρ 13, ρ 14, ρ 15, ρ 16, ρ 17, ρ 18, ρ 19, ρ 20, ρ 21, ρ 22, ρ 23, ρ 26 + 1, ρ 27, ρ 28, ρ 29, ρ 30, ρ 31, ρ 32, ρ 33, ρ 34, ρ 35, ρ 36, ρ 37, ρ 38, ρ 39, ρ 40, ρ 41, ρ 42, ρ 43, ρ 44, ρ 45, ρ 46, ρ 47, ρ 48] (γ 1)
  have hD : en77 (γ 0) (3, [ρ 24, ρ 25, ρ 26, ρ 27], γ 1) = .inl (2, [ρ 26 + 1, ρ 27], γ 1) := by
    unfold en77
    refine (if_neg (show ¬ (3 : Nat) = 0 by decide)).trans ?_
    refine (if_neg (show ¬ (3 : Nat) = 1 by decide)).trans ?_
    refine (if_neg (show ¬ (3 : Nat) = 2 by decide)).trans ?_
    refine (if_pos (show (3 : Nat) = 3 by decide)).trans ?_
    refine (zLet_eq (show _ = γ 1 from rfl)).trans ?_
    refine (zLet_eq (show _ = ρ 24 from rfl)).trans ?_
    refine (zLet_eq (show _ = ρ 25 from rfl)).trans ?_
    refine (zLet_eq (show _ = ρ 26 from rfl)).trans ?_
    refine (zLet_eq (show _ = ρ 27 from rfl)).trans ?_
    refine (zLet_eq m24).trans ?_
    refine (zLet_eq m25).trans ?_
    refine (zLet_eq m26).trans ?_
    refine (zLet_eq m27).trans ?_
    refine (zLet_eq m28).trans ?_
    refine (zLet_eq m29).trans ?_
    refine (zLet_eq m30).trans ?_
    refine (zLet_eq m31).trans ?_
    refine (zLet_eq m32).trans ?_
    refine (zLet_eq m33).trans ?_
    refine (zLet_eq m34).trans ?_
    refine (zLet_eq m35).trans ?_
    refine (zLet_eq m36).trans ?_
    refine (zLet_eq m37).trans ?_
    refine (zLet_eq m38).trans ?_
    refine (zLet_eq m39).trans ?_
    refine (zLet_eq m40).trans ?_
    refine (zLet_eq m41).trans ?_
    refine (zLet_eq m42).trans ?_
    refine (zLet_eq m43).trans ?_
    refine (zLet_eq m45).trans ?_
    refine (if_pos w_0).trans ?_
    refine (if_pos w_1).trans ?_
    refine (zLet_eq m46).trans ?_
    refine (if_neg w_2).trans ?_
    refine (if_neg w_3).trans ?_
    refine (if_pos w_4).trans ?_
    refine (if_pos w_5).trans ?_
    rfl
  exact zGoo_ato hJ hD
theorem vn77a3_5 {S : Nat → zSpc}  {a : List Int} {g : rHp} : ∀ (ρ : Nat → Int) (γ : Nat → rHp), jn77 a g 3 (zAg (zNA a77_ 3) ρ) (γ 1) → zO 24 S a g q77a3_5 ρ γ → zGl (fun i vs g1 => jn77 a g i vs g1) (sn77 a g) q77a3_5 ρ γ := by
  intro ρ γ hJ h
  obtain ⟨ha, hg, hr, hf, hm, hc, hl⟩ := h
  have ha : a = [ρ 0, ρ 1, ρ 2, ρ 3, ρ 4, ρ 5, ρ 6, ρ 7, ρ 8, ρ 9, ρ 10, ρ 11, ρ 12, ρ 13, ρ 14, ρ 15, ρ 16, ρ 17, ρ 18, ρ 19, ρ 20, ρ 21, ρ 22, ρ 23] := ha
  subst ha
  subst hg
  have hJ : jn77 [ρ 0, ρ 1, ρ 2, ρ 3, ρ 4, ρ 5, ρ 6, ρ 7, ρ 8, ρ 9, ρ 10, ρ 11, ρ 12, ρ 13, ρ 14, ρ 15, ρ 16, ρ 17, ρ 18, ρ 19, ρ 20, ρ 21, ρ 22, ρ 23] (γ 0) 3 [ρ 0, ρ 1, ρ 2, ρ 3, ρ 4, ρ 5, ρ 6, ρ 7, ρ 8, ρ 9, ρ 10, ρ 11, ρ 12, ρ 13, ρ 14, ρ 15, ρ 16, ρ 17, ρ 18, ρ 19, ρ 20, ρ 21, ρ 22, ρ 23, ρ 24, ρ 25, ρ 26, ρ 27, ρ 28, ρ 29, ρ 30, ρ 31, ρ 32, ρ 33, ρ 34, ρ 35, ρ 36, ρ 37, ρ 38, ρ 39, ρ 40, ρ 41, ρ 42, ρ 43, ρ 44, ρ 45, ρ 46, ρ 47, ρ 48] (γ 1) := hJ
  obtain ⟨-, -, -, -, -, -, -, -, -, -, -, -, -, -, -, -, -, -, -, -, -, -, -, -, -, r25, -, -, -, -, -, -, -, -, -, -, -, -, -, -, -, -, -, -, -, -, -, -, -, -, r50, -⟩ := hr
  have r25 : (0 : Int) ≤ ρ 25 ∧ ρ 25 ≤ 20 := r25
  have r50 : (2 : Int) ≤ ρ 50 ∧ ρ 50 ≤ 2 := r50
  obtain ⟨f0, f1, -⟩ := hf
  have f0 : (0 : Int) ≤ -ρ 30 + ρ 25 + (-1) := f0
  have f1 : (0 : Int) ≤ -ρ 49 + ((-8) * ρ 26 + ρ 24) := f1
  obtain ⟨w_0, w_1, w_2, w_3, w_4, w_5⟩ : (ρ 24 ≥ ρ 49 + 8 * ρ 26) ∧ (ρ 25 ≤ 20) ∧ (¬ (0 ≤ -ρ 50)) ∧ (¬ (0 ≤ -ρ 50 + 1)) ∧ (0 ≤ -ρ 50 + 2) ∧ (¬ (ρ 25 ≤ ρ 30)) := ⟨by omega, by omega, by omega, by omega, by omega, by omega⟩
  obtain ⟨-, -, -, -, -, -, -, -, -, -, -, -, -, -, -, -, -, -, -, -, -, -, -, -, m24, m25, m26, m27, m28, m29, m30, m31, m32, m33, m34, m35, m36, m37, m38, m39, m40, m41, m42, m43, -, m45, m46, -⟩ := hm
  have m24 : γ 1 92 0 0 = ρ 28 := m24
  have m25 : γ 1 92 0 1 = ρ 29 := m25
  have m26 : γ 1 92 0 2 = ρ 30 := m26
  have m27 : γ 1 92 0 3 = ρ 31 := m27
  have m28 : γ 1 92 0 4 = ρ 32 := m28
  have m29 : γ 1 92 0 5 = ρ 33 := m29
  have m30 : γ 1 92 0 6 = ρ 34 := m30
  have m31 : γ 1 92 0 7 = ρ 35 := m31
  have m32 : γ 1 92 0 8 = ρ 36 := m32
  have m33 : γ 1 92 0 9 = ρ 37 := m33
  have m34 : γ 1 92 0 10 = ρ 38 := m34
  have m35 : γ 1 92 0 11 = ρ 39 := m35
  have m36 : γ 1 92 0 12 = ρ 40 := m36
  have m37 : γ 1 92 0 13 = ρ 41 := m37
  have m38 : γ 1 92 0 14 = ρ 42 := m38
  have m39 : γ 1 92 0 15 = ρ 43 := m39
  have m40 : γ 1 92 0 16 = ρ 44 := m40
  have m41 : γ 1 92 0 17 = ρ 45 := m41
  have m42 : γ 1 92 0 18 = ρ 46 := m42
  have m43 : γ 1 92 0 19 = ρ 47 := m43
  have m45 : γ 0 73 0 (ρ 26) = ρ 49 := m45
  have m46 : γ 0 69 0 (ρ 26) = ρ 50 := m46
  obtain ⟨-, c2⟩ := hc
  have c2 : γ 2 = rUp (γ 1) 92 0 (ρ 50) (ρ 25) := c2
  show jn77 [ρ 0, ρ 1, ρ 2, ρ 3, ρ 4, ρ 5, ρ 6, ρ 7, ρ 8, ρ 9, ρ 10, ρ 11, ρ 12, ρ 13, ρ 14, ρ 15, ρ 16, ρ 17, ρ 18, ρ 19, ρ 20, ρ 21, ρ 22, ρ 23] (γ 0) 2 [ρ 0, ρ 1, ρ 2, ρ 3, ρ 4, ρ 5, ρ 6, ρ 7, ρ 8, ρ 9, ρ 10, ρ 11, ρ 12, ρ 13, ρ 14, ρ 15, ρ 16, ρ 17, ρ 18, ρ 19, ρ 20, ρ 21, ρ 22, ρ 23, ρ 26 + 1, 1, ρ 28, ρ 29, ρ 25, ρ 31, ρ 32, ρ 33, ρ 34, ρ 35, ρ 36, ρ 37, ρ 38, ρ 39, ρ 40, ρ 41, ρ 42, ρ 43, ρ 44, ρ 45, ρ 46, ρ 47, ρ 48] (γ 2)
  have hD : en77 (γ 0) (3, [ρ 24, ρ 25, ρ 26, ρ 27], γ 1) = .inl (2, [ρ 26 + 1, 1], γ 2) := by
    unfold en77
    refine (if_neg (show ¬ (3 : Nat) = 0 by decide)).trans ?_
    refine (if_neg (show ¬ (3 : Nat) = 1 by decide)).trans ?_
    refine (if_neg (show ¬ (3 : Nat) = 2 by decide)).trans ?_
    refine (if_pos (show (3 : Nat) = 3 by decide)).trans ?_
    refine (zLet_eq (show _ = γ 1 from rfl)).trans ?_
    refine (zLet_eq (show _ = ρ 24 from rfl)).trans ?_
    refine (zLet_eq (show _ = ρ 25 from rfl)).trans ?_
    refine (zLet_eq (show _ = ρ 26 from rfl)).trans ?_
    refine (zLet_eq (show _ = ρ 27 from rfl)).trans ?_
    refine (zLet_eq m24).trans ?_
    refine (zLet_eq m25).trans ?_
    refine (zLet_eq m26).trans ?_
    refine (zLet_eq m27).trans ?_
    refine (zLet_eq m28).trans ?_
    refine (zLet_eq m29).trans ?_
    refine (zLet_eq m30).trans ?_
    refine (zLet_eq m31).trans ?_
    refine (zLet_eq m32).trans ?_
    refine (zLet_eq m33).trans ?_
    refine (zLet_eq m34).trans ?_
    refine (zLet_eq m35).trans ?_
    refine (zLet_eq m36).trans ?_
    refine (zLet_eq m37).trans ?_
    refine (zLet_eq m38).trans ?_
    refine (zLet_eq m39).trans ?_
    refine (zLet_eq m40).trans ?_
    refine (zLet_eq m41).trans ?_
    refine (zLet_eq m42).trans ?_
    refine (zLet_eq m43).trans ?_
    refine (zLet_eq m45).trans ?_
    refine (if_pos w_0).trans ?_
    refine (if_pos w_1).trans ?_
    refine (zLet_eq m46).trans ?_
    refine (if_neg w_2).trans ?_
    refine (if_neg w_3).trans ?_
    refine (if_pos w_4).trans ?_
    refine (if_neg w_5).trans ?_
    refine (zLet_eq c2.symm).trans ?_
    rfl
  exact zGoo_ato hJ hD
theorem vn77a3_6 {S : Nat → zSpc}  {a : List Int} {g : rHp} : ∀ (ρ : Nat → Int) (γ : Nat → rHp), jn77 a g 3 (zAg (zNA a77_ 3) ρ) (γ 1) → zO 24 S a g q77a3_6 ρ γ → zGl (fun i vs g1 => jn77 a g i vs g1) (sn77 a g) q77a3_6 ρ γ := by
  intro ρ γ hJ h
  obtain ⟨ha, hg, hr, hf, hm, hc, hl⟩ := h
  have ha : a = [ρ 0, ρ 1, ρ 2, ρ 3, ρ 4, ρ 5, ρ 6, ρ 7, ρ 8, ρ 9, ρ 10, ρ 11, ρ 12, ρ 13, ρ 14, ρ 15, ρ 16, ρ 17, ρ 18, ρ 19, ρ 20, ρ 21, ρ 22, ρ 23] := ha
  subst ha
  subst hg
  have hJ : jn77 [ρ 0, ρ 1, ρ 2, ρ 3, ρ 4, ρ 5, ρ 6, ρ 7, ρ 8, ρ 9, ρ 10, ρ 11, ρ 12, ρ 13, ρ 14, ρ 15, ρ 16, ρ 17, ρ 18, ρ 19, ρ 20, ρ 21, ρ 22, ρ 23] (γ 0) 3 [ρ 0, ρ 1, ρ 2, ρ 3, ρ 4, ρ 5, ρ 6, ρ 7, ρ 8, ρ 9, ρ 10, ρ 11, ρ 12, ρ 13, ρ 14, ρ 15, ρ 16, ρ 17, ρ 18, ρ 19, ρ 20, ρ 21, ρ 22, ρ 23, ρ 24, ρ 25, ρ 26, ρ 27, ρ 28, ρ 29, ρ 30, ρ 31, ρ 32, ρ 33, ρ 34, ρ 35, ρ 36, ρ 37, ρ 38, ρ 39, ρ 40, ρ 41, ρ 42, ρ 43, ρ 44, ρ 45, ρ 46, ρ 47, ρ 48] (γ 1) := hJ
  obtain ⟨-, -, -, -, -, -, -, -, -, -, -, -, -, -, -, -, -, -, -, -, -, -, -, -, -, r25, -, -, -, -, -, -, -, -, -, -, -, -, -, -, -, -, -, -, -, -, -, -, -, -, r50, -⟩ := hr
  have r25 : (0 : Int) ≤ ρ 25 ∧ ρ 25 ≤ 20 := r25
  have r50 : (3 : Int) ≤ ρ 50 ∧ ρ 50 ≤ 3 := r50
  obtain ⟨f0, f1, -⟩ := hf
  have f0 : (0 : Int) ≤ ρ 31 + -ρ 25 := f0
  have f1 : (0 : Int) ≤ -ρ 49 + ((-8) * ρ 26 + ρ 24) := f1
  obtain ⟨w_0, w_1, w_2, w_3, w_4, w_5, w_6⟩ : (ρ 24 ≥ ρ 49 + 8 * ρ 26) ∧ (ρ 25 ≤ 20) ∧ (¬ (0 ≤ -ρ 50)) ∧ (¬ (0 ≤ -ρ 50 + 1)) ∧ (¬ (0 ≤ -ρ 50 + 2)) ∧ (0 ≤ -ρ 50 + 3) ∧ (ρ 25 ≤ ρ 31) := ⟨by omega, by omega, by omega, by omega, by omega, by omega, by omega⟩
  obtain ⟨-, -, -, -, -, -, -, -, -, -, -, -, -, -, -, -, -, -, -, -, -, -, -, -, m24, m25, m26, m27, m28, m29, m30, m31, m32, m33, m34, m35, m36, m37, m38, m39, m40, m41, m42, m43, -, m45, m46, -⟩ := hm
  have m24 : γ 1 92 0 0 = ρ 28 := m24
  have m25 : γ 1 92 0 1 = ρ 29 := m25
  have m26 : γ 1 92 0 2 = ρ 30 := m26
  have m27 : γ 1 92 0 3 = ρ 31 := m27
  have m28 : γ 1 92 0 4 = ρ 32 := m28
  have m29 : γ 1 92 0 5 = ρ 33 := m29
  have m30 : γ 1 92 0 6 = ρ 34 := m30
  have m31 : γ 1 92 0 7 = ρ 35 := m31
  have m32 : γ 1 92 0 8 = ρ 36 := m32
  have m33 : γ 1 92 0 9 = ρ 37 := m33
  have m34 : γ 1 92 0 10 = ρ 38 := m34
  have m35 : γ 1 92 0 11 = ρ 39 := m35
  have m36 : γ 1 92 0 12 = ρ 40 := m36
  have m37 : γ 1 92 0 13 = ρ 41 := m37
  have m38 : γ 1 92 0 14 = ρ 42 := m38
  have m39 : γ 1 92 0 15 = ρ 43 := m39
  have m40 : γ 1 92 0 16 = ρ 44 := m40
  have m41 : γ 1 92 0 17 = ρ 45 := m41
  have m42 : γ 1 92 0 18 = ρ 46 := m42
  have m43 : γ 1 92 0 19 = ρ 47 := m43
  have m45 : γ 0 73 0 (ρ 26) = ρ 49 := m45
  have m46 : γ 0 69 0 (ρ 26) = ρ 50 := m46
  show jn77 [ρ 0, ρ 1, ρ 2, ρ 3, ρ 4, ρ 5, ρ 6, ρ 7, ρ 8, ρ 9, ρ 10, ρ 11, ρ 12, ρ 13, ρ 14, ρ 15, ρ 16, ρ 17, ρ 18, ρ 19, ρ 20, ρ 21, ρ 22, ρ 23] (γ 0) 2 [ρ 0, ρ 1, ρ 2, ρ 3, ρ 4, ρ 5, ρ 6, ρ 7, ρ 8, ρ 9, ρ 10, ρ 11, ρ 12, ρ 13, ρ 14, ρ 15, ρ 16, ρ 17, ρ 18, ρ 19, ρ 20, ρ 21, ρ 22, ρ 23, ρ 26 + 1, ρ 27, ρ 28, ρ 29, ρ 30, ρ 31, ρ 32, ρ 33, ρ 34, ρ 35, ρ 36, ρ 37, ρ 38, ρ 39, ρ 40, ρ 41, ρ 42, ρ 43, ρ 44, ρ 45, ρ 46, ρ 47, ρ 48] (γ 1)
  have hD : en77 (γ 0) (3, [ρ 24, ρ 25, ρ 26, ρ 27], γ 1) = .inl (2, [ρ 26 + 1, ρ 27], γ 1) := by
    unfold en77
    refine (if_neg (show ¬ (3 : Nat) = 0 by decide)).trans ?_
    refine (if_neg (show ¬ (3 : Nat) = 1 by decide)).trans ?_
    refine (if_neg (show ¬ (3 : Nat) = 2 by decide)).trans ?_
    refine (if_pos (show (3 : Nat) = 3 by decide)).trans ?_
    refine (zLet_eq (show _ = γ 1 from rfl)).trans ?_
    refine (zLet_eq (show _ = ρ 24 from rfl)).trans ?_
    refine (zLet_eq (show _ = ρ 25 from rfl)).trans ?_
    refine (zLet_eq (show _ = ρ 26 from rfl)).trans ?_
    refine (zLet_eq (show _ = ρ 27 from rfl)).trans ?_
    refine (zLet_eq m24).trans ?_
    refine (zLet_eq m25).trans ?_
    refine (zLet_eq m26).trans ?_
    refine (zLet_eq m27).trans ?_
    refine (zLet_eq m28).trans ?_
    refine (zLet_eq m29).trans ?_
    refine (zLet_eq m30).trans ?_
    refine (zLet_eq m31).trans ?_
    refine (zLet_eq m32).trans ?_
    refine (zLet_eq m33).trans ?_
    refine (zLet_eq m34).trans ?_
    refine (zLet_eq m35).trans ?_
    refine (zLet_eq m36).trans ?_
    refine (zLet_eq m37).trans ?_
    refine (zLet_eq m38).trans ?_
    refine (zLet_eq m39).trans ?_
    refine (zLet_eq m40).trans ?_
    refine (zLet_eq m41).trans ?_
    refine (zLet_eq m42).trans ?_
    refine (zLet_eq m43).trans ?_
    refine (zLet_eq m45).trans ?_
    refine (if_pos w_0).trans ?_
    refine (if_pos w_1).trans ?_
    refine (zLet_eq m46).trans ?_
    refine (if_neg w_2).trans ?_
    refine (if_neg w_3).trans ?_
    refine (if_neg w_4).trans ?_
    refine (if_pos w_5).trans ?_
    refine (if_pos w_6).trans ?_
    rfl
  exact zGoo_ato hJ hD
theorem vn77a3_7 {S : Nat → zSpc}  {a : List Int} {g : rHp} : ∀ (ρ : Nat → Int) (γ : Nat → rHp), jn77 a g 3 (zAg (zNA a77_ 3) ρ) (γ 1) → zO 24 S a g q77a3_7 ρ γ → zGl (fun i vs g1 => jn77 a g i vs g1) (sn77 a g) q77a3_7 ρ γ := by
  intro ρ γ hJ h
  obtain ⟨ha, hg, hr, hf, hm, hc, hl⟩ := h
  have ha : a = [ρ 0, ρ 1, ρ 2, ρ 3, ρ 4, ρ 5, ρ 6, ρ 7, ρ 8, ρ 9, ρ 10, ρ 11, ρ 12, ρ 13, ρ 14, ρ 15, ρ 16, ρ 17, ρ 18, ρ 19, ρ 20, ρ 21, ρ 22, ρ 23] := ha
  subst ha
  subst hg
  have hJ : jn77 [ρ 0, ρ 1, ρ 2, ρ 3, ρ 4, ρ 5, ρ 6, ρ 7, ρ 8, ρ 9, ρ 10, ρ 11, ρ 12, ρ 13, ρ 14, ρ 15, ρ 16, ρ 17, ρ 18, ρ 19, ρ 20, ρ 21, ρ 22, ρ 23] (γ 0) 3 [ρ 0, ρ 1, ρ 2, ρ 3, ρ 4, ρ 5, ρ 6, ρ 7, ρ 8, ρ 9, ρ 10, ρ 11, ρ 12, ρ 13, ρ 14, ρ 15, ρ 16, ρ 17, ρ 18, ρ 19, ρ 20, ρ 21, ρ 22, ρ 23, ρ 24, ρ 25, ρ 26, ρ 27, ρ 28, ρ 29, ρ 30, ρ 31, ρ 32, ρ 33, ρ 34, ρ 35, ρ 36, ρ 37, ρ 38, ρ 39, ρ 40, ρ 41, ρ 42, ρ 43, ρ 44, ρ 45, ρ 46, ρ 47, ρ 48] (γ 1) := hJ
  obtain ⟨-, -, -, -, -, -, -, -, -, -, -, -, -, -, -, -, -, -, -, -, -, -, -, -, -, r25, -, -, -, -, -, -, -, -, -, -, -, -, -, -, -, -, -, -, -, -, -, -, -, -, r50, -⟩ := hr
  have r25 : (0 : Int) ≤ ρ 25 ∧ ρ 25 ≤ 20 := r25
  have r50 : (3 : Int) ≤ ρ 50 ∧ ρ 50 ≤ 3 := r50
  obtain ⟨f0, f1, -⟩ := hf
  have f0 : (0 : Int) ≤ -ρ 31 + ρ 25 + (-1) := f0
  have f1 : (0 : Int) ≤ -ρ 49 + ((-8) * ρ 26 + ρ 24) := f1
  obtain ⟨w_0, w_1, w_2, w_3, w_4, w_5, w_6⟩ : (ρ 24 ≥ ρ 49 + 8 * ρ 26) ∧ (ρ 25 ≤ 20) ∧ (¬ (0 ≤ -ρ 50)) ∧ (¬ (0 ≤ -ρ 50 + 1)) ∧ (¬ (0 ≤ -ρ 50 + 2)) ∧ (0 ≤ -ρ 50 + 3) ∧ (¬ (ρ 25 ≤ ρ 31)) := ⟨by omega, by omega, by omega, by omega, by omega, by omega, by omega⟩
  obtain ⟨-, -, -, -, -, -, -, -, -, -, -, -, -, -, -, -, -, -, -, -, -, -, -, -, m24, m25, m26, m27, m28, m29, m30, m31, m32, m33, m34, m35, m36, m37, m38, m39, m40, m41, m42, m43, -, m45, m46, -⟩ := hm
  have m24 : γ 1 92 0 0 = ρ 28 := m24
  have m25 : γ 1 92 0 1 = ρ 29 := m25
  have m26 : γ 1 92 0 2 = ρ 30 := m26
  have m27 : γ 1 92 0 3 = ρ 31 := m27
  have m28 : γ 1 92 0 4 = ρ 32 := m28
  have m29 : γ 1 92 0 5 = ρ 33 := m29
  have m30 : γ 1 92 0 6 = ρ 34 := m30
  have m31 : γ 1 92 0 7 = ρ 35 := m31
  have m32 : γ 1 92 0 8 = ρ 36 := m32
  have m33 : γ 1 92 0 9 = ρ 37 := m33
  have m34 : γ 1 92 0 10 = ρ 38 := m34
  have m35 : γ 1 92 0 11 = ρ 39 := m35
  have m36 : γ 1 92 0 12 = ρ 40 := m36
  have m37 : γ 1 92 0 13 = ρ 41 := m37
  have m38 : γ 1 92 0 14 = ρ 42 := m38
  have m39 : γ 1 92 0 15 = ρ 43 := m39
  have m40 : γ 1 92 0 16 = ρ 44 := m40
  have m41 : γ 1 92 0 17 = ρ 45 := m41
  have m42 : γ 1 92 0 18 = ρ 46 := m42
  have m43 : γ 1 92 0 19 = ρ 47 := m43
  have m45 : γ 0 73 0 (ρ 26) = ρ 49 := m45
  have m46 : γ 0 69 0 (ρ 26) = ρ 50 := m46
  obtain ⟨-, c2⟩ := hc
  have c2 : γ 2 = rUp (γ 1) 92 0 (ρ 50) (ρ 25) := c2
  show jn77 [ρ 0, ρ 1, ρ 2, ρ 3, ρ 4, ρ 5, ρ 6, ρ 7, ρ 8, ρ 9, ρ 10, ρ 11, ρ 12, ρ 13, ρ 14, ρ 15, ρ 16, ρ 17, ρ 18, ρ 19, ρ 20, ρ 21, ρ 22, ρ 23] (γ 0) 2 [ρ 0, ρ 1, ρ 2, ρ 3, ρ 4, ρ 5, ρ 6, ρ 7, ρ 8, ρ 9, ρ 10, ρ 11, ρ 12, ρ 13, ρ 14, ρ 15, ρ 16, ρ 17, ρ 18, ρ 19, ρ 20, ρ 21, ρ 22, ρ 23, ρ 26 + 1, 1, ρ 28, ρ 29, ρ 30, ρ 25, ρ 32, ρ 33, ρ 34, ρ 35, ρ 36, ρ 37, ρ 38, ρ 39, ρ 40, ρ 41, ρ 42, ρ 43, ρ 44, ρ 45, ρ 46, ρ 47, ρ 48] (γ 2)
  have hD : en77 (γ 0) (3, [ρ 24, ρ 25, ρ 26, ρ 27], γ 1) = .inl (2, [ρ 26 + 1, 1], γ 2) := by
    unfold en77
    refine (if_neg (show ¬ (3 : Nat) = 0 by decide)).trans ?_
    refine (if_neg (show ¬ (3 : Nat) = 1 by decide)).trans ?_
    refine (if_neg (show ¬ (3 : Nat) = 2 by decide)).trans ?_
    refine (if_pos (show (3 : Nat) = 3 by decide)).trans ?_
    refine (zLet_eq (show _ = γ 1 from rfl)).trans ?_
    refine (zLet_eq (show _ = ρ 24 from rfl)).trans ?_
    refine (zLet_eq (show _ = ρ 25 from rfl)).trans ?_
    refine (zLet_eq (show _ = ρ 26 from rfl)).trans ?_
    refine (zLet_eq (show _ = ρ 27 from rfl)).trans ?_
    refine (zLet_eq m24).trans ?_
    refine (zLet_eq m25).trans ?_
    refine (zLet_eq m26).trans ?_
    refine (zLet_eq m27).trans ?_
    refine (zLet_eq m28).trans ?_
    refine (zLet_eq m29).trans ?_
    refine (zLet_eq m30).trans ?_
    refine (zLet_eq m31).trans ?_
    refine (zLet_eq m32).trans ?_
    refine (zLet_eq m33).trans ?_
    refine (zLet_eq m34).trans ?_
    refine (zLet_eq m35).trans ?_
    refine (zLet_eq m36).trans ?_
    refine (zLet_eq m37).trans ?_
    refine (zLet_eq m38).trans ?_
    refine (zLet_eq m39).trans ?_
    refine (zLet_eq m40).trans ?_
    refine (zLet_eq m41).trans ?_
    refine (zLet_eq m42).trans ?_
    refine (zLet_eq m43).trans ?_
    refine (zLet_eq m45).trans ?_
    refine (if_pos w_0).trans ?_
    refine (if_pos w_1).trans ?_
    refine (zLet_eq m46).trans ?_
    refine (if_neg w_2).trans ?_
    refine (if_neg w_3).trans ?_
    refine (if_neg w_4).trans ?_
    refine (if_pos w_5).trans ?_
    refine (if_neg w_6).trans ?_
    refine (zLet_eq c2.symm).trans ?_
    rfl
  exact zGoo_ato hJ hD
theorem vn77a3_8 {S : Nat → zSpc}  {a : List Int} {g : rHp} : ∀ (ρ : Nat → Int) (γ : Nat → rHp), jn77 a g 3 (zAg (zNA a77_ 3) ρ) (γ 1) → zO 24 S a g q77a3_8 ρ γ → zGl (fun i vs g1 => jn77 a g i vs g1) (sn77 a g) q77a3_8 ρ γ := by
  intro ρ γ hJ h
  obtain ⟨ha, hg, hr, hf, hm, hc, hl⟩ := h
  have ha : a = [ρ 0, ρ 1, ρ 2, ρ 3, ρ 4, ρ 5, ρ 6, ρ 7, ρ 8, ρ 9, ρ 10, ρ 11, ρ 12, ρ 13, ρ 14, ρ 15, ρ 16, ρ 17, ρ 18, ρ 19, ρ 20, ρ 21, ρ 22, ρ 23] := ha
  subst ha
  subst hg
  have hJ : jn77 [ρ 0, ρ 1, ρ 2, ρ 3, ρ 4, ρ 5, ρ 6, ρ 7, ρ 8, ρ 9, ρ 10, ρ 11, ρ 12, ρ 13, ρ 14, ρ 15, ρ 16, ρ 17, ρ 18, ρ 19, ρ 20, ρ 21, ρ 22, ρ 23] (γ 0) 3 [ρ 0, ρ 1, ρ 2, ρ 3, ρ 4, ρ 5, ρ 6, ρ 7, ρ 8, ρ 9, ρ 10, ρ 11, ρ 12, ρ 13, ρ 14, ρ 15, ρ 16, ρ 17, ρ 18, ρ 19, ρ 20, ρ 21, ρ 22, ρ 23, ρ 24, ρ 25, ρ 26, ρ 27, ρ 28, ρ 29, ρ 30, ρ 31, ρ 32, ρ 33, ρ 34, ρ 35, ρ 36, ρ 37, ρ 38, ρ 39, ρ 40, ρ 41, ρ 42, ρ 43, ρ 44, ρ 45, ρ 46, ρ 47, ρ 48] (γ 1) := hJ
  obtain ⟨-, -, -, -, -, -, -, -, -, -, -, -, -, -, -, -, -, -, -, -, -, -, -, -, -, r25, -, -, -, -, -, -, -, -, -, -, -, -, -, -, -, -, -, -, -, -, -, -, -, -, r50, -⟩ := hr
  have r25 : (0 : Int) ≤ ρ 25 ∧ ρ 25 ≤ 20 := r25
  have r50 : (4 : Int) ≤ ρ 50 ∧ ρ 50 ≤ 4 := r50
  obtain ⟨f0, f1, -⟩ := hf
  have f0 : (0 : Int) ≤ ρ 32 + -ρ 25 := f0
  have f1 : (0 : Int) ≤ -ρ 49 + ((-8) * ρ 26 + ρ 24) := f1
  obtain ⟨w_0, w_1, w_2, w_3, w_4, w_5, w_6, w_7⟩ : (ρ 24 ≥ ρ 49 + 8 * ρ 26) ∧ (ρ 25 ≤ 20) ∧ (¬ (0 ≤ -ρ 50)) ∧ (¬ (0 ≤ -ρ 50 + 1)) ∧ (¬ (0 ≤ -ρ 50 + 2)) ∧ (¬ (0 ≤ -ρ 50 + 3)) ∧ (0 ≤ -ρ 50 + 4) ∧ (ρ 25 ≤ ρ 32) := ⟨by omega, by omega, by omega, by omega, by omega, by omega, by omega, by omega⟩
  obtain ⟨-, -, -, -, -, -, -, -, -, -, -, -, -, -, -, -, -, -, -, -, -, -, -, -, m24, m25, m26, m27, m28, m29, m30, m31, m32, m33, m34, m35, m36, m37, m38, m39, m40, m41, m42, m43, -, m45, m46, -⟩ := hm
  have m24 : γ 1 92 0 0 = ρ 28 := m24
  have m25 : γ 1 92 0 1 = ρ 29 := m25
  have m26 : γ 1 92 0 2 = ρ 30 := m26
  have m27 : γ 1 92 0 3 = ρ 31 := m27
  have m28 : γ 1 92 0 4 = ρ 32 := m28
  have m29 : γ 1 92 0 5 = ρ 33 := m29
  have m30 : γ 1 92 0 6 = ρ 34 := m30
  have m31 : γ 1 92 0 7 = ρ 35 := m31
  have m32 : γ 1 92 0 8 = ρ 36 := m32
  have m33 : γ 1 92 0 9 = ρ 37 := m33
  have m34 : γ 1 92 0 10 = ρ 38 := m34
  have m35 : γ 1 92 0 11 = ρ 39 := m35
  have m36 : γ 1 92 0 12 = ρ 40 := m36
  have m37 : γ 1 92 0 13 = ρ 41 := m37
  have m38 : γ 1 92 0 14 = ρ 42 := m38
  have m39 : γ 1 92 0 15 = ρ 43 := m39
  have m40 : γ 1 92 0 16 = ρ 44 := m40
  have m41 : γ 1 92 0 17 = ρ 45 := m41
  have m42 : γ 1 92 0 18 = ρ 46 := m42
  have m43 : γ 1 92 0 19 = ρ 47 := m43
  have m45 : γ 0 73 0 (ρ 26) = ρ 49 := m45
  have m46 : γ 0 69 0 (ρ 26) = ρ 50 := m46
  show jn77 [ρ 0, ρ 1, ρ 2, ρ 3, ρ 4, ρ 5, ρ 6, ρ 7, ρ 8, ρ 9, ρ 10, ρ 11, ρ 12, ρ 13, ρ 14, ρ 15, ρ 16, ρ 17, ρ 18, ρ 19, ρ 20, ρ 21, ρ 22, ρ 23] (γ 0) 2 [ρ 0, ρ 1, ρ 2, ρ 3, ρ 4, ρ 5, ρ 6, ρ 7, ρ 8, ρ 9, ρ 10, ρ 11, ρ 12, ρ 13, ρ 14, ρ 15, ρ 16, ρ 17, ρ 18, ρ 19, ρ 20, ρ 21, ρ 22, ρ 23, ρ 26 + 1, ρ 27, ρ 28, ρ 29, ρ 30, ρ 31, ρ 32, ρ 33, ρ 34, ρ 35, ρ 36, ρ 37, ρ 38, ρ 39, ρ 40, ρ 41, ρ 42, ρ 43, ρ 44, ρ 45, ρ 46, ρ 47, ρ 48] (γ 1)
  have hD : en77 (γ 0) (3, [ρ 24, ρ 25, ρ 26, ρ 27], γ 1) = .inl (2, [ρ 26 + 1, ρ 27], γ 1) := by
    unfold en77
    refine (if_neg (show ¬ (3 : Nat) = 0 by decide)).trans ?_
    refine (if_neg (show ¬ (3 : Nat) = 1 by decide)).trans ?_
    refine (if_neg (show ¬ (3 : Nat) = 2 by decide)).trans ?_
    refine (if_pos (show (3 : Nat) = 3 by decide)).trans ?_
    refine (zLet_eq (show _ = γ 1 from rfl)).trans ?_
    refine (zLet_eq (show _ = ρ 24 from rfl)).trans ?_
    refine (zLet_eq (show _ = ρ 25 from rfl)).trans ?_
    refine (zLet_eq (show _ = ρ 26 from rfl)).trans ?_
    refine (zLet_eq (show _ = ρ 27 from rfl)).trans ?_
    refine (zLet_eq m24).trans ?_
    refine (zLet_eq m25).trans ?_
    refine (zLet_eq m26).trans ?_
    refine (zLet_eq m27).trans ?_
    refine (zLet_eq m28).trans ?_
    refine (zLet_eq m29).trans ?_
    refine (zLet_eq m30).trans ?_
    refine (zLet_eq m31).trans ?_
    refine (zLet_eq m32).trans ?_
    refine (zLet_eq m33).trans ?_
    refine (zLet_eq m34).trans ?_
    refine (zLet_eq m35).trans ?_
    refine (zLet_eq m36).trans ?_
    refine (zLet_eq m37).trans ?_
    refine (zLet_eq m38).trans ?_
    refine (zLet_eq m39).trans ?_
    refine (zLet_eq m40).trans ?_
    refine (zLet_eq m41).trans ?_
    refine (zLet_eq m42).trans ?_
    refine (zLet_eq m43).trans ?_
    refine (zLet_eq m45).trans ?_
    refine (if_pos w_0).trans ?_
    refine (if_pos w_1).trans ?_
    refine (zLet_eq m46).trans ?_
    refine (if_neg w_2).trans ?_
    refine (if_neg w_3).trans ?_
    refine (if_neg w_4).trans ?_
    refine (if_neg w_5).trans ?_
    refine (if_pos w_6).trans ?_
    refine (if_pos w_7).trans ?_
    rfl
  exact zGoo_ato hJ hD
theorem vn77a3_9 {S : Nat → zSpc}  {a : List Int} {g : rHp} : ∀ (ρ : Nat → Int) (γ : Nat → rHp), jn77 a g 3 (zAg (zNA a77_ 3) ρ) (γ 1) → zO 24 S a g q77a3_9 ρ γ → zGl (fun i vs g1 => jn77 a g i vs g1) (sn77 a g) q77a3_9 ρ γ := by
  intro ρ γ hJ h
  obtain ⟨ha, hg, hr, hf, hm, hc, hl⟩ := h
  have ha : a = [ρ 0, ρ 1, ρ 2, ρ 3, ρ 4, ρ 5, ρ 6, ρ 7, ρ 8, ρ 9, ρ 10, ρ 11, ρ 12, ρ 13, ρ 14, ρ 15, ρ 16, ρ 17, ρ 18, ρ 19, ρ 20, ρ 21, ρ 22, ρ 23] := ha
  subst ha
  subst hg
  have hJ : jn77 [ρ 0, ρ 1, ρ 2, ρ 3, ρ 4, ρ 5, ρ 6, ρ 7, ρ 8, ρ 9, ρ 10, ρ 11, ρ 12, ρ 13, ρ 14, ρ 15, ρ 16, ρ 17, ρ 18, ρ 19, ρ 20, ρ 21, ρ 22, ρ 23] (γ 0) 3 [ρ 0, ρ 1, ρ 2, ρ 3, ρ 4, ρ 5, ρ 6, ρ 7, ρ 8, ρ 9, ρ 10, ρ 11, ρ 12, ρ 13, ρ 14, ρ 15, ρ 16, ρ 17, ρ 18, ρ 19, ρ 20, ρ 21, ρ 22, ρ 23, ρ 24, ρ 25, ρ 26, ρ 27, ρ 28, ρ 29, ρ 30, ρ 31, ρ 32, ρ 33, ρ 34, ρ 35, ρ 36, ρ 37, ρ 38, ρ 39, ρ 40, ρ 41, ρ 42, ρ 43, ρ 44, ρ 45, ρ 46, ρ 47, ρ 48] (γ 1) := hJ
  obtain ⟨-, -, -, -, -, -, -, -, -, -, -, -, -, -, -, -, -, -, -, -, -, -, -, -, -, r25, -, -, -, -, -, -, -, -, -, -, -, -, -, -, -, -, -, -, -, -, -, -, -, -, r50, -⟩ := hr
  have r25 : (0 : Int) ≤ ρ 25 ∧ ρ 25 ≤ 20 := r25
  have r50 : (4 : Int) ≤ ρ 50 ∧ ρ 50 ≤ 4 := r50
  obtain ⟨f0, f1, -⟩ := hf
  have f0 : (0 : Int) ≤ -ρ 32 + ρ 25 + (-1) := f0
  have f1 : (0 : Int) ≤ -ρ 49 + ((-8) * ρ 26 + ρ 24) := f1
  obtain ⟨w_0, w_1, w_2, w_3, w_4, w_5, w_6, w_7⟩ : (ρ 24 ≥ ρ 49 + 8 * ρ 26) ∧ (ρ 25 ≤ 20) ∧ (¬ (0 ≤ -ρ 50)) ∧ (¬ (0 ≤ -ρ 50 + 1)) ∧ (¬ (0 ≤ -ρ 50 + 2)) ∧ (¬ (0 ≤ -ρ 50 + 3)) ∧ (0 ≤ -ρ 50 + 4) ∧ (¬ (ρ 25 ≤ ρ 32)) := ⟨by omega, by omega, by omega, by omega, by omega, by omega, by omega, by omega⟩
  obtain ⟨-, -, -, -, -, -, -, -, -, -, -, -, -, -, -, -, -, -, -, -, -, -, -, -, m24, m25, m26, m27, m28, m29, m30, m31, m32, m33, m34, m35, m36, m37, m38, m39, m40, m41, m42, m43, -, m45, m46, -⟩ := hm
  have m24 : γ 1 92 0 0 = ρ 28 := m24
  have m25 : γ 1 92 0 1 = ρ 29 := m25
  have m26 : γ 1 92 0 2 = ρ 30 := m26
  have m27 : γ 1 92 0 3 = ρ 31 := m27
  have m28 : γ 1 92 0 4 = ρ 32 := m28
  have m29 : γ 1 92 0 5 = ρ 33 := m29
  have m30 : γ 1 92 0 6 = ρ 34 := m30
  have m31 : γ 1 92 0 7 = ρ 35 := m31
  have m32 : γ 1 92 0 8 = ρ 36 := m32
  have m33 : γ 1 92 0 9 = ρ 37 := m33
  have m34 : γ 1 92 0 10 = ρ 38 := m34
  have m35 : γ 1 92 0 11 = ρ 39 := m35
  have m36 : γ 1 92 0 12 = ρ 40 := m36
  have m37 : γ 1 92 0 13 = ρ 41 := m37
  have m38 : γ 1 92 0 14 = ρ 42 := m38
  have m39 : γ 1 92 0 15 = ρ 43 := m39
  have m40 : γ 1 92 0 16 = ρ 44 := m40
  have m41 : γ 1 92 0 17 = ρ 45 := m41
  have m42 : γ 1 92 0 18 = ρ 46 := m42
  have m43 : γ 1 92 0 19 = ρ 47 := m43
  have m45 : γ 0 73 0 (ρ 26) = ρ 49 := m45
  have m46 : γ 0 69 0 (ρ 26) = ρ 50 := m46
  obtain ⟨-, c2⟩ := hc
  have c2 : γ 2 = rUp (γ 1) 92 0 (ρ 50) (ρ 25) := c2
  show jn77 [ρ 0, ρ 1, ρ 2, ρ 3, ρ 4, ρ 5, ρ 6, ρ 7, ρ 8, ρ 9, ρ 10, ρ 11, ρ 12, ρ 13, ρ 14, ρ 15, ρ 16, ρ 17, ρ 18, ρ 19, ρ 20, ρ 21, ρ 22, ρ 23] (γ 0) 2 [ρ 0, ρ 1, ρ 2, ρ 3, ρ 4, ρ 5, ρ 6, ρ 7, ρ 8, ρ 9, ρ 10, ρ 11, ρ 12, ρ 13, ρ 14, ρ 15, ρ 16, ρ 17, ρ 18, ρ 19, ρ 20, ρ 21, ρ 22, ρ 23, ρ 26 + 1, 1, ρ 28, ρ 29, ρ 30, ρ 31, ρ 25, ρ 33, ρ 34, ρ 35, ρ 36, ρ 37, ρ 38, ρ 39, ρ 40, ρ 41, ρ 42, ρ 43, ρ 44, ρ 45, ρ 46, ρ 47, ρ 48] (γ 2)
  have hD : en77 (γ 0) (3, [ρ 24, ρ 25, ρ 26, ρ 27], γ 1) = .inl (2, [ρ 26 + 1, 1], γ 2) := by
    unfold en77
    refine (if_neg (show ¬ (3 : Nat) = 0 by decide)).trans ?_
    refine (if_neg (show ¬ (3 : Nat) = 1 by decide)).trans ?_
    refine (if_neg (show ¬ (3 : Nat) = 2 by decide)).trans ?_
    refine (if_pos (show (3 : Nat) = 3 by decide)).trans ?_
    refine (zLet_eq (show _ = γ 1 from rfl)).trans ?_
    refine (zLet_eq (show _ = ρ 24 from rfl)).trans ?_
    refine (zLet_eq (show _ = ρ 25 from rfl)).trans ?_
    refine (zLet_eq (show _ = ρ 26 from rfl)).trans ?_
    refine (zLet_eq (show _ = ρ 27 from rfl)).trans ?_
    refine (zLet_eq m24).trans ?_
    refine (zLet_eq m25).trans ?_
    refine (zLet_eq m26).trans ?_
    refine (zLet_eq m27).trans ?_
    refine (zLet_eq m28).trans ?_
    refine (zLet_eq m29).trans ?_
    refine (zLet_eq m30).trans ?_
    refine (zLet_eq m31).trans ?_
    refine (zLet_eq m32).trans ?_
    refine (zLet_eq m33).trans ?_
    refine (zLet_eq m34).trans ?_
    refine (zLet_eq m35).trans ?_
    refine (zLet_eq m36).trans ?_
    refine (zLet_eq m37).trans ?_
    refine (zLet_eq m38).trans ?_
    refine (zLet_eq m39).trans ?_
    refine (zLet_eq m40).trans ?_
    refine (zLet_eq m41).trans ?_
    refine (zLet_eq m42).trans ?_
    refine (zLet_eq m43).trans ?_
    refine (zLet_eq m45).trans ?_
    refine (if_pos w_0).trans ?_
    refine (if_pos w_1).trans ?_
    refine (zLet_eq m46).trans ?_
    refine (if_neg w_2).trans ?_
    refine (if_neg w_3).trans ?_
    refine (if_neg w_4).trans ?_
    refine (if_neg w_5).trans ?_
    refine (if_pos w_6).trans ?_
    refine (if_neg w_7).trans ?_
    refine (zLet_eq c2.symm).trans ?_
    rfl
  exact zGoo_ato hJ hD
theorem vn77a3_10 {S : Nat → zSpc}  {a : List Int} {g : rHp} : ∀ (ρ : Nat → Int) (γ : Nat → rHp), jn77 a g 3 (zAg (zNA a77_ 3) ρ) (γ 1) → zO 24 S a g q77a3_10 ρ γ → zGl (fun i vs g1 => jn77 a g i vs g1) (sn77 a g) q77a3_10 ρ γ := by
  intro ρ γ hJ h
  obtain ⟨ha, hg, hr, hf, hm, hc, hl⟩ := h
  have ha : a = [ρ 0, ρ 1, ρ 2, ρ 3, ρ 4, ρ 5, ρ 6, ρ 7, ρ 8, ρ 9, ρ 10, ρ 11, ρ 12, ρ 13, ρ 14, ρ 15, ρ 16, ρ 17, ρ 18, ρ 19, ρ 20, ρ 21, ρ 22, ρ 23] := ha
  subst ha
  subst hg
  have hJ : jn77 [ρ 0, ρ 1, ρ 2, ρ 3, ρ 4, ρ 5, ρ 6, ρ 7, ρ 8, ρ 9, ρ 10, ρ 11, ρ 12, ρ 13, ρ 14, ρ 15, ρ 16, ρ 17, ρ 18, ρ 19, ρ 20, ρ 21, ρ 22, ρ 23] (γ 0) 3 [ρ 0, ρ 1, ρ 2, ρ 3, ρ 4, ρ 5, ρ 6, ρ 7, ρ 8, ρ 9, ρ 10, ρ 11, ρ 12, ρ 13, ρ 14, ρ 15, ρ 16, ρ 17, ρ 18, ρ 19, ρ 20, ρ 21, ρ 22, ρ 23, ρ 24, ρ 25, ρ 26, ρ 27, ρ 28, ρ 29, ρ 30, ρ 31, ρ 32, ρ 33, ρ 34, ρ 35, ρ 36, ρ 37, ρ 38, ρ 39, ρ 40, ρ 41, ρ 42, ρ 43, ρ 44, ρ 45, ρ 46, ρ 47, ρ 48] (γ 1) := hJ
  obtain ⟨-, -, -, -, -, -, -, -, -, -, -, -, -, -, -, -, -, -, -, -, -, -, -, -, -, r25, -, -, -, -, -, -, -, -, -, -, -, -, -, -, -, -, -, -, -, -, -, -, -, -, r50, -⟩ := hr
  have r25 : (0 : Int) ≤ ρ 25 ∧ ρ 25 ≤ 20 := r25
  have r50 : (5 : Int) ≤ ρ 50 ∧ ρ 50 ≤ 5 := r50
  obtain ⟨f0, f1, -⟩ := hf
  have f0 : (0 : Int) ≤ ρ 33 + -ρ 25 := f0
  have f1 : (0 : Int) ≤ -ρ 49 + ((-8) * ρ 26 + ρ 24) := f1
  obtain ⟨w_0, w_1, w_2, w_3, w_4, w_5, w_6, w_7, w_8⟩ : (ρ 24 ≥ ρ 49 + 8 * ρ 26) ∧ (ρ 25 ≤ 20) ∧ (¬ (0 ≤ -ρ 50)) ∧ (¬ (0 ≤ -ρ 50 + 1)) ∧ (¬ (0 ≤ -ρ 50 + 2)) ∧ (¬ (0 ≤ -ρ 50 + 3)) ∧ (¬ (0 ≤ -ρ 50 + 4)) ∧ (0 ≤ -ρ 50 + 5) ∧ (ρ 25 ≤ ρ 33) := ⟨by omega, by omega, by omega, by omega, by omega, by omega, by omega, by omega, by omega⟩
  obtain ⟨-, -, -, -, -, -, -, -, -, -, -, -, -, -, -, -, -, -, -, -, -, -, -, -, m24, m25, m26, m27, m28, m29, m30, m31, m32, m33, m34, m35, m36, m37, m38, m39, m40, m41, m42, m43, -, m45, m46, -⟩ := hm
  have m24 : γ 1 92 0 0 = ρ 28 := m24
  have m25 : γ 1 92 0 1 = ρ 29 := m25
  have m26 : γ 1 92 0 2 = ρ 30 := m26
  have m27 : γ 1 92 0 3 = ρ 31 := m27
  have m28 : γ 1 92 0 4 = ρ 32 := m28
  have m29 : γ 1 92 0 5 = ρ 33 := m29
  have m30 : γ 1 92 0 6 = ρ 34 := m30
  have m31 : γ 1 92 0 7 = ρ 35 := m31
  have m32 : γ 1 92 0 8 = ρ 36 := m32
  have m33 : γ 1 92 0 9 = ρ 37 := m33
  have m34 : γ 1 92 0 10 = ρ 38 := m34
  have m35 : γ 1 92 0 11 = ρ 39 := m35
  have m36 : γ 1 92 0 12 = ρ 40 := m36
  have m37 : γ 1 92 0 13 = ρ 41 := m37
  have m38 : γ 1 92 0 14 = ρ 42 := m38
  have m39 : γ 1 92 0 15 = ρ 43 := m39
  have m40 : γ 1 92 0 16 = ρ 44 := m40
  have m41 : γ 1 92 0 17 = ρ 45 := m41
  have m42 : γ 1 92 0 18 = ρ 46 := m42
  have m43 : γ 1 92 0 19 = ρ 47 := m43
  have m45 : γ 0 73 0 (ρ 26) = ρ 49 := m45
  have m46 : γ 0 69 0 (ρ 26) = ρ 50 := m46
  show jn77 [ρ 0, ρ 1, ρ 2, ρ 3, ρ 4, ρ 5, ρ 6, ρ 7, ρ 8, ρ 9, ρ 10, ρ 11, ρ 12, ρ 13, ρ 14, ρ 15, ρ 16, ρ 17, ρ 18, ρ 19, ρ 20, ρ 21, ρ 22, ρ 23] (γ 0) 2 [ρ 0, ρ 1, ρ 2, ρ 3, ρ 4, ρ 5, ρ 6, ρ 7, ρ 8, ρ 9, ρ 10, ρ 11, ρ 12, ρ 13, ρ 14, ρ 15, ρ 16, ρ 17, ρ 18, ρ 19, ρ 20, ρ 21, ρ 22, ρ 23, ρ 26 + 1, ρ 27, ρ 28, ρ 29, ρ 30, ρ 31, ρ 32, ρ 33, ρ 34, ρ 35, ρ 36, ρ 37, ρ 38, ρ 39, ρ 40, ρ 41, ρ 42, ρ 43, ρ 44, ρ 45, ρ 46, ρ 47, ρ 48] (γ 1)
  have hD : en77 (γ 0) (3, [ρ 24, ρ 25, ρ 26, ρ 27], γ 1) = .inl (2, [ρ 26 + 1, ρ 27], γ 1) := by
    unfold en77
    refine (if_neg (show ¬ (3 : Nat) = 0 by decide)).trans ?_
    refine (if_neg (show ¬ (3 : Nat) = 1 by decide)).trans ?_
    refine (if_neg (show ¬ (3 : Nat) = 2 by decide)).trans ?_
    refine (if_pos (show (3 : Nat) = 3 by decide)).trans ?_
    refine (zLet_eq (show _ = γ 1 from rfl)).trans ?_
    refine (zLet_eq (show _ = ρ 24 from rfl)).trans ?_
    refine (zLet_eq (show _ = ρ 25 from rfl)).trans ?_
    refine (zLet_eq (show _ = ρ 26 from rfl)).trans ?_
    refine (zLet_eq (show _ = ρ 27 from rfl)).trans ?_
    refine (zLet_eq m24).trans ?_
    refine (zLet_eq m25).trans ?_
    refine (zLet_eq m26).trans ?_
    refine (zLet_eq m27).trans ?_
    refine (zLet_eq m28).trans ?_
    refine (zLet_eq m29).trans ?_
    refine (zLet_eq m30).trans ?_
    refine (zLet_eq m31).trans ?_
    refine (zLet_eq m32).trans ?_
    refine (zLet_eq m33).trans ?_
    refine (zLet_eq m34).trans ?_
    refine (zLet_eq m35).trans ?_
    refine (zLet_eq m36).trans ?_
    refine (zLet_eq m37).trans ?_
    refine (zLet_eq m38).trans ?_
    refine (zLet_eq m39).trans ?_
    refine (zLet_eq m40).trans ?_
    refine (zLet_eq m41).trans ?_
    refine (zLet_eq m42).trans ?_
    refine (zLet_eq m43).trans ?_
    refine (zLet_eq m45).trans ?_
    refine (if_pos w_0).trans ?_
    refine (if_pos w_1).trans ?_
    refine (zLet_eq m46).trans ?_
    refine (if_neg w_2).trans ?_
    refine (if_neg w_3).trans ?_
    refine (if_neg w_4).trans ?_
    refine (if_neg w_5).trans ?_
    refine (if_neg w_6).trans ?_
    refine (if_pos w_7).trans ?_
    refine (if_pos w_8).trans ?_
    rfl
  exact zGoo_ato hJ hD
theorem vn77a3_11 {S : Nat → zSpc}  {a : List Int} {g : rHp} : ∀ (ρ : Nat → Int) (γ : Nat → rHp), jn77 a g 3 (zAg (zNA a77_ 3) ρ) (γ 1) → zO 24 S a g q77a3_11 ρ γ → zGl (fun i vs g1 => jn77 a g i vs g1) (sn77 a g) q77a3_11 ρ γ := by
  intro ρ γ hJ h
  obtain ⟨ha, hg, hr, hf, hm, hc, hl⟩ := h
  have ha : a = [ρ 0, ρ 1, ρ 2, ρ 3, ρ 4, ρ 5, ρ 6, ρ 7, ρ 8, ρ 9, ρ 10, ρ 11, ρ 12, ρ 13, ρ 14, ρ 15, ρ 16, ρ 17, ρ 18, ρ 19, ρ 20, ρ 21, ρ 22, ρ 23] := ha
  subst ha
  subst hg
  have hJ : jn77 [ρ 0, ρ 1, ρ 2, ρ 3, ρ 4, ρ 5, ρ 6, ρ 7, ρ 8, ρ 9, ρ 10, ρ 11, ρ 12, ρ 13, ρ 14, ρ 15, ρ 16, ρ 17, ρ 18, ρ 19, ρ 20, ρ 21, ρ 22, ρ 23] (γ 0) 3 [ρ 0, ρ 1, ρ 2, ρ 3, ρ 4, ρ 5, ρ 6, ρ 7, ρ 8, ρ 9, ρ 10, ρ 11, ρ 12, ρ 13, ρ 14, ρ 15, ρ 16, ρ 17, ρ 18, ρ 19, ρ 20, ρ 21, ρ 22, ρ 23, ρ 24, ρ 25, ρ 26, ρ 27, ρ 28, ρ 29, ρ 30, ρ 31, ρ 32, ρ 33, ρ 34, ρ 35, ρ 36, ρ 37, ρ 38, ρ 39, ρ 40, ρ 41, ρ 42, ρ 43, ρ 44, ρ 45, ρ 46, ρ 47, ρ 48] (γ 1) := hJ
  obtain ⟨-, -, -, -, -, -, -, -, -, -, -, -, -, -, -, -, -, -, -, -, -, -, -, -, -, r25, -, -, -, -, -, -, -, -, -, -, -, -, -, -, -, -, -, -, -, -, -, -, -, -, r50, -⟩ := hr
  have r25 : (0 : Int) ≤ ρ 25 ∧ ρ 25 ≤ 20 := r25
  have r50 : (5 : Int) ≤ ρ 50 ∧ ρ 50 ≤ 5 := r50
  obtain ⟨f0, f1, -⟩ := hf
  have f0 : (0 : Int) ≤ -ρ 33 + ρ 25 + (-1) := f0
  have f1 : (0 : Int) ≤ -ρ 49 + ((-8) * ρ 26 + ρ 24) := f1
  obtain ⟨w_0, w_1, w_2, w_3, w_4, w_5, w_6, w_7, w_8⟩ : (ρ 24 ≥ ρ 49 + 8 * ρ 26) ∧ (ρ 25 ≤ 20) ∧ (¬ (0 ≤ -ρ 50)) ∧ (¬ (0 ≤ -ρ 50 + 1)) ∧ (¬ (0 ≤ -ρ 50 + 2)) ∧ (¬ (0 ≤ -ρ 50 + 3)) ∧ (¬ (0 ≤ -ρ 50 + 4)) ∧ (0 ≤ -ρ 50 + 5) ∧ (¬ (ρ 25 ≤ ρ 33)) := ⟨by omega, by omega, by omega, by omega, by omega, by omega, by omega, by omega, by omega⟩
  obtain ⟨-, -, -, -, -, -, -, -, -, -, -, -, -, -, -, -, -, -, -, -, -, -, -, -, m24, m25, m26, m27, m28, m29, m30, m31, m32, m33, m34, m35, m36, m37, m38, m39, m40, m41, m42, m43, -, m45, m46, -⟩ := hm
  have m24 : γ 1 92 0 0 = ρ 28 := m24
  have m25 : γ 1 92 0 1 = ρ 29 := m25
  have m26 : γ 1 92 0 2 = ρ 30 := m26
  have m27 : γ 1 92 0 3 = ρ 31 := m27
  have m28 : γ 1 92 0 4 = ρ 32 := m28
  have m29 : γ 1 92 0 5 = ρ 33 := m29
  have m30 : γ 1 92 0 6 = ρ 34 := m30
  have m31 : γ 1 92 0 7 = ρ 35 := m31
  have m32 : γ 1 92 0 8 = ρ 36 := m32
  have m33 : γ 1 92 0 9 = ρ 37 := m33
  have m34 : γ 1 92 0 10 = ρ 38 := m34
  have m35 : γ 1 92 0 11 = ρ 39 := m35
  have m36 : γ 1 92 0 12 = ρ 40 := m36
  have m37 : γ 1 92 0 13 = ρ 41 := m37
  have m38 : γ 1 92 0 14 = ρ 42 := m38
  have m39 : γ 1 92 0 15 = ρ 43 := m39
  have m40 : γ 1 92 0 16 = ρ 44 := m40
  have m41 : γ 1 92 0 17 = ρ 45 := m41
  have m42 : γ 1 92 0 18 = ρ 46 := m42
  have m43 : γ 1 92 0 19 = ρ 47 := m43
  have m45 : γ 0 73 0 (ρ 26) = ρ 49 := m45
  have m46 : γ 0 69 0 (ρ 26) = ρ 50 := m46
  obtain ⟨-, c2⟩ := hc
  have c2 : γ 2 = rUp (γ 1) 92 0 (ρ 50) (ρ 25) := c2
  show jn77 [ρ 0, ρ 1, ρ 2, ρ 3, ρ 4, ρ 5, ρ 6, ρ 7, ρ 8, ρ 9, ρ 10, ρ 11, ρ 12, ρ 13, ρ 14, ρ 15, ρ 16, ρ 17, ρ 18, ρ 19, ρ 20, ρ 21, ρ 22, ρ 23] (γ 0) 2 [ρ 0, ρ 1, ρ 2, ρ 3, ρ 4, ρ 5, ρ 6, ρ 7, ρ 8, ρ 9, ρ 10, ρ 11, ρ 12, ρ 13, ρ 14, ρ 15, ρ 16, ρ 17, ρ 18, ρ 19, ρ 20, ρ 21, ρ 22, ρ 23, ρ 26 + 1, 1, ρ 28, ρ 29, ρ 30, ρ 31, ρ 32, ρ 25, ρ 34, ρ 35, ρ 36, ρ 37, ρ 38, ρ 39, ρ 40, ρ 41, ρ 42, ρ 43, ρ 44, ρ 45, ρ 46, ρ 47, ρ 48] (γ 2)
  have hD : en77 (γ 0) (3, [ρ 24, ρ 25, ρ 26, ρ 27], γ 1) = .inl (2, [ρ 26 + 1, 1], γ 2) := by
    unfold en77
    refine (if_neg (show ¬ (3 : Nat) = 0 by decide)).trans ?_
    refine (if_neg (show ¬ (3 : Nat) = 1 by decide)).trans ?_
    refine (if_neg (show ¬ (3 : Nat) = 2 by decide)).trans ?_
    refine (if_pos (show (3 : Nat) = 3 by decide)).trans ?_
    refine (zLet_eq (show _ = γ 1 from rfl)).trans ?_
    refine (zLet_eq (show _ = ρ 24 from rfl)).trans ?_
    refine (zLet_eq (show _ = ρ 25 from rfl)).trans ?_
    refine (zLet_eq (show _ = ρ 26 from rfl)).trans ?_
    refine (zLet_eq (show _ = ρ 27 from rfl)).trans ?_
    refine (zLet_eq m24).trans ?_
    refine (zLet_eq m25).trans ?_
    refine (zLet_eq m26).trans ?_
    refine (zLet_eq m27).trans ?_
    refine (zLet_eq m28).trans ?_
    refine (zLet_eq m29).trans ?_
    refine (zLet_eq m30).trans ?_
    refine (zLet_eq m31).trans ?_
    refine (zLet_eq m32).trans ?_
    refine (zLet_eq m33).trans ?_
    refine (zLet_eq m34).trans ?_
    refine (zLet_eq m35).trans ?_
    refine (zLet_eq m36).trans ?_
    refine (zLet_eq m37).trans ?_
    refine (zLet_eq m38).trans ?_
    refine (zLet_eq m39).trans ?_
    refine (zLet_eq m40).trans ?_
    refine (zLet_eq m41).trans ?_
    refine (zLet_eq m42).trans ?_
    refine (zLet_eq m43).trans ?_
    refine (zLet_eq m45).trans ?_
    refine (if_pos w_0).trans ?_
    refine (if_pos w_1).trans ?_
    refine (zLet_eq m46).trans ?_
    refine (if_neg w_2).trans ?_
    refine (if_neg w_3).trans ?_
    refine (if_neg w_4).trans ?_
    refine (if_neg w_5).trans ?_
    refine (if_neg w_6).trans ?_
    refine (if_pos w_7).trans ?_
    refine (if_neg w_8).trans ?_
    refine (zLet_eq c2.symm).trans ?_
    rfl
  exact zGoo_ato hJ hD
theorem vn77a3_12 {S : Nat → zSpc}  {a : List Int} {g : rHp} : ∀ (ρ : Nat → Int) (γ : Nat → rHp), jn77 a g 3 (zAg (zNA a77_ 3) ρ) (γ 1) → zO 24 S a g q77a3_12 ρ γ → zGl (fun i vs g1 => jn77 a g i vs g1) (sn77 a g) q77a3_12 ρ γ := by
  intro ρ γ hJ h
  obtain ⟨ha, hg, hr, hf, hm, hc, hl⟩ := h
  have ha : a = [ρ 0, ρ 1, ρ 2, ρ 3, ρ 4, ρ 5, ρ 6, ρ 7, ρ 8, ρ 9, ρ 10, ρ 11, ρ 12, ρ 13, ρ 14, ρ 15, ρ 16, ρ 17, ρ 18, ρ 19, ρ 20, ρ 21, ρ 22, ρ 23] := ha
  subst ha
  subst hg
  have hJ : jn77 [ρ 0, ρ 1, ρ 2, ρ 3, ρ 4, ρ 5, ρ 6, ρ 7, ρ 8, ρ 9, ρ 10, ρ 11, ρ 12, ρ 13, ρ 14, ρ 15, ρ 16, ρ 17, ρ 18, ρ 19, ρ 20, ρ 21, ρ 22, ρ 23] (γ 0) 3 [ρ 0, ρ 1, ρ 2, ρ 3, ρ 4, ρ 5, ρ 6, ρ 7, ρ 8, ρ 9, ρ 10, ρ 11, ρ 12, ρ 13, ρ 14, ρ 15, ρ 16, ρ 17, ρ 18, ρ 19, ρ 20, ρ 21, ρ 22, ρ 23, ρ 24, ρ 25, ρ 26, ρ 27, ρ 28, ρ 29, ρ 30, ρ 31, ρ 32, ρ 33, ρ 34, ρ 35, ρ 36, ρ 37, ρ 38, ρ 39, ρ 40, ρ 41, ρ 42, ρ 43, ρ 44, ρ 45, ρ 46, ρ 47, ρ 48] (γ 1) := hJ
  obtain ⟨-, -, -, -, -, -, -, -, -, -, -, -, -, -, -, -, -, -, -, -, -, -, -, -, -, r25, -, -, -, -, -, -, -, -, -, -, -, -, -, -, -, -, -, -, -, -, -, -, -, -, r50, -⟩ := hr
  have r25 : (0 : Int) ≤ ρ 25 ∧ ρ 25 ≤ 20 := r25
  have r50 : (6 : Int) ≤ ρ 50 ∧ ρ 50 ≤ 6 := r50
  obtain ⟨f0, f1, -⟩ := hf
  have f0 : (0 : Int) ≤ ρ 34 + -ρ 25 := f0
  have f1 : (0 : Int) ≤ -ρ 49 + ((-8) * ρ 26 + ρ 24) := f1
  obtain ⟨w_0, w_1, w_2, w_3, w_4, w_5, w_6, w_7, w_8, w_9⟩ : (ρ 24 ≥ ρ 49 + 8 * ρ 26) ∧ (ρ 25 ≤ 20) ∧ (¬ (0 ≤ -ρ 50)) ∧ (¬ (0 ≤ -ρ 50 + 1)) ∧ (¬ (0 ≤ -ρ 50 + 2)) ∧ (¬ (0 ≤ -ρ 50 + 3)) ∧ (¬ (0 ≤ -ρ 50 + 4)) ∧ (¬ (0 ≤ -ρ 50 + 5)) ∧ (0 ≤ -ρ 50 + 6) ∧ (ρ 25 ≤ ρ 34) := ⟨by omega, by omega, by omega, by omega, by omega, by omega, by omega, by omega, by omega, by omega⟩
  obtain ⟨-, -, -, -, -, -, -, -, -, -, -, -, -, -, -, -, -, -, -, -, -, -, -, -, m24, m25, m26, m27, m28, m29, m30, m31, m32, m33, m34, m35, m36, m37, m38, m39, m40, m41, m42, m43, -, m45, m46, -⟩ := hm
  have m24 : γ 1 92 0 0 = ρ 28 := m24
  have m25 : γ 1 92 0 1 = ρ 29 := m25
  have m26 : γ 1 92 0 2 = ρ 30 := m26
  have m27 : γ 1 92 0 3 = ρ 31 := m27
  have m28 : γ 1 92 0 4 = ρ 32 := m28
  have m29 : γ 1 92 0 5 = ρ 33 := m29
  have m30 : γ 1 92 0 6 = ρ 34 := m30
  have m31 : γ 1 92 0 7 = ρ 35 := m31
  have m32 : γ 1 92 0 8 = ρ 36 := m32
  have m33 : γ 1 92 0 9 = ρ 37 := m33
  have m34 : γ 1 92 0 10 = ρ 38 := m34
  have m35 : γ 1 92 0 11 = ρ 39 := m35
  have m36 : γ 1 92 0 12 = ρ 40 := m36
  have m37 : γ 1 92 0 13 = ρ 41 := m37
  have m38 : γ 1 92 0 14 = ρ 42 := m38
  have m39 : γ 1 92 0 15 = ρ 43 := m39
  have m40 : γ 1 92 0 16 = ρ 44 := m40
  have m41 : γ 1 92 0 17 = ρ 45 := m41
  have m42 : γ 1 92 0 18 = ρ 46 := m42
  have m43 : γ 1 92 0 19 = ρ 47 := m43
  have m45 : γ 0 73 0 (ρ 26) = ρ 49 := m45
  have m46 : γ 0 69 0 (ρ 26) = ρ 50 := m46
  show jn77 [ρ 0, ρ 1, ρ 2, ρ 3, ρ 4, ρ 5, ρ 6, ρ 7, ρ 8, ρ 9, ρ 10, ρ 11, ρ 12, ρ 13, ρ 14, ρ 15, ρ 16, ρ 17, ρ 18, ρ 19, ρ 20, ρ 21, ρ 22, ρ 23] (γ 0) 2 [ρ 0, ρ 1, ρ 2, ρ 3, ρ 4, ρ 5, ρ 6, ρ 7, ρ 8, ρ 9, ρ 10, ρ 11, ρ 12, ρ 13, ρ 14, ρ 15, ρ 16, ρ 17, ρ 18, ρ 19, ρ 20, ρ 21, ρ 22, ρ 23, ρ 26 + 1, ρ 27, ρ 28, ρ 29, ρ 30, ρ 31, ρ 32, ρ 33, ρ 34, ρ 35, ρ 36, ρ 37, ρ 38, ρ 39, ρ 40, ρ 41, ρ 42, ρ 43, ρ 44, ρ 45, ρ 46, ρ 47, ρ 48] (γ 1)
  have hD : en77 (γ 0) (3, [ρ 24, ρ 25, ρ 26, ρ 27], γ 1) = .inl (2, [ρ 26 + 1, ρ 27], γ 1) := by
    unfold en77
    refine (if_neg (show ¬ (3 : Nat) = 0 by decide)).trans ?_
    refine (if_neg (show ¬ (3 : Nat) = 1 by decide)).trans ?_
    refine (if_neg (show ¬ (3 : Nat) = 2 by decide)).trans ?_
    refine (if_pos (show (3 : Nat) = 3 by decide)).trans ?_
    refine (zLet_eq (show _ = γ 1 from rfl)).trans ?_
    refine (zLet_eq (show _ = ρ 24 from rfl)).trans ?_
    refine (zLet_eq (show _ = ρ 25 from rfl)).trans ?_
    refine (zLet_eq (show _ = ρ 26 from rfl)).trans ?_
    refine (zLet_eq (show _ = ρ 27 from rfl)).trans ?_
    refine (zLet_eq m24).trans ?_
    refine (zLet_eq m25).trans ?_
    refine (zLet_eq m26).trans ?_
    refine (zLet_eq m27).trans ?_
    refine (zLet_eq m28).trans ?_
    refine (zLet_eq m29).trans ?_
    refine (zLet_eq m30).trans ?_
    refine (zLet_eq m31).trans ?_
    refine (zLet_eq m32).trans ?_
    refine (zLet_eq m33).trans ?_
    refine (zLet_eq m34).trans ?_
    refine (zLet_eq m35).trans ?_
    refine (zLet_eq m36).trans ?_
    refine (zLet_eq m37).trans ?_
    refine (zLet_eq m38).trans ?_
    refine (zLet_eq m39).trans ?_
    refine (zLet_eq m40).trans ?_
    refine (zLet_eq m41).trans ?_
    refine (zLet_eq m42).trans ?_
    refine (zLet_eq m43).trans ?_
    refine (zLet_eq m45).trans ?_
    refine (if_pos w_0).trans ?_
    refine (if_pos w_1).trans ?_
    refine (zLet_eq m46).trans ?_
    refine (if_neg w_2).trans ?_
    refine (if_neg w_3).trans ?_
    refine (if_neg w_4).trans ?_
    refine (if_neg w_5).trans ?_
    refine (if_neg w_6).trans ?_
    refine (if_neg w_7).trans ?_
    refine (if_pos w_8).trans ?_
    refine (if_pos w_9).trans ?_
    rfl
  exact zGoo_ato hJ hD
theorem vn77a3_13 {S : Nat → zSpc}  {a : List Int} {g : rHp} : ∀ (ρ : Nat → Int) (γ : Nat → rHp), jn77 a g 3 (zAg (zNA a77_ 3) ρ) (γ 1) → zO 24 S a g q77a3_13 ρ γ → zGl (fun i vs g1 => jn77 a g i vs g1) (sn77 a g) q77a3_13 ρ γ := by
  intro ρ γ hJ h
  obtain ⟨ha, hg, hr, hf, hm, hc, hl⟩ := h
  have ha : a = [ρ 0, ρ 1, ρ 2, ρ 3, ρ 4, ρ 5, ρ 6, ρ 7, ρ 8, ρ 9, ρ 10, ρ 11, ρ 12, ρ 13, ρ 14, ρ 15, ρ 16, ρ 17, ρ 18, ρ 19, ρ 20, ρ 21, ρ 22, ρ 23] := ha
  subst ha
  subst hg
  have hJ : jn77 [ρ 0, ρ 1, ρ 2, ρ 3, ρ 4, ρ 5, ρ 6, ρ 7, ρ 8, ρ 9, ρ 10, ρ 11, ρ 12, ρ 13, ρ 14, ρ 15, ρ 16, ρ 17, ρ 18, ρ 19, ρ 20, ρ 21, ρ 22, ρ 23] (γ 0) 3 [ρ 0, ρ 1, ρ 2, ρ 3, ρ 4, ρ 5, ρ 6, ρ 7, ρ 8, ρ 9, ρ 10, ρ 11, ρ 12, ρ 13, ρ 14, ρ 15, ρ 16, ρ 17, ρ 18, ρ 19, ρ 20, ρ 21, ρ 22, ρ 23, ρ 24, ρ 25, ρ 26, ρ 27, ρ 28, ρ 29, ρ 30, ρ 31, ρ 32, ρ 33, ρ 34, ρ 35, ρ 36, ρ 37, ρ 38, ρ 39, ρ 40, ρ 41, ρ 42, ρ 43, ρ 44, ρ 45, ρ 46, ρ 47, ρ 48] (γ 1) := hJ
  obtain ⟨-, -, -, -, -, -, -, -, -, -, -, -, -, -, -, -, -, -, -, -, -, -, -, -, -, r25, -, -, -, -, -, -, -, -, -, -, -, -, -, -, -, -, -, -, -, -, -, -, -, -, r50, -⟩ := hr
  have r25 : (0 : Int) ≤ ρ 25 ∧ ρ 25 ≤ 20 := r25
  have r50 : (6 : Int) ≤ ρ 50 ∧ ρ 50 ≤ 6 := r50
  obtain ⟨f0, f1, -⟩ := hf
  have f0 : (0 : Int) ≤ -ρ 34 + ρ 25 + (-1) := f0
  have f1 : (0 : Int) ≤ -ρ 49 + ((-8) * ρ 26 + ρ 24) := f1
  obtain ⟨w_0, w_1, w_2, w_3, w_4, w_5, w_6, w_7, w_8, w_9⟩ : (ρ 24 ≥ ρ 49 + 8 * ρ 26) ∧ (ρ 25 ≤ 20) ∧ (¬ (0 ≤ -ρ 50)) ∧ (¬ (0 ≤ -ρ 50 + 1)) ∧ (¬ (0 ≤ -ρ 50 + 2)) ∧ (¬ (0 ≤ -ρ 50 + 3)) ∧ (¬ (0 ≤ -ρ 50 + 4)) ∧ (¬ (0 ≤ -ρ 50 + 5)) ∧ (0 ≤ -ρ 50 + 6) ∧ (¬ (ρ 25 ≤ ρ 34)) := ⟨by omega, by omega, by omega, by omega, by omega, by omega, by omega, by omega, by omega, by omega⟩
  obtain ⟨-, -, -, -, -, -, -, -, -, -, -, -, -, -, -, -, -, -, -, -, -, -, -, -, m24, m25, m26, m27, m28, m29, m30, m31, m32, m33, m34, m35, m36, m37, m38, m39, m40, m41, m42, m43, -, m45, m46, -⟩ := hm
  have m24 : γ 1 92 0 0 = ρ 28 := m24
  have m25 : γ 1 92 0 1 = ρ 29 := m25
  have m26 : γ 1 92 0 2 = ρ 30 := m26
  have m27 : γ 1 92 0 3 = ρ 31 := m27
  have m28 : γ 1 92 0 4 = ρ 32 := m28
  have m29 : γ 1 92 0 5 = ρ 33 := m29
  have m30 : γ 1 92 0 6 = ρ 34 := m30
  have m31 : γ 1 92 0 7 = ρ 35 := m31
  have m32 : γ 1 92 0 8 = ρ 36 := m32
  have m33 : γ 1 92 0 9 = ρ 37 := m33
  have m34 : γ 1 92 0 10 = ρ 38 := m34
  have m35 : γ 1 92 0 11 = ρ 39 := m35
  have m36 : γ 1 92 0 12 = ρ 40 := m36
  have m37 : γ 1 92 0 13 = ρ 41 := m37
  have m38 : γ 1 92 0 14 = ρ 42 := m38
  have m39 : γ 1 92 0 15 = ρ 43 := m39
  have m40 : γ 1 92 0 16 = ρ 44 := m40
  have m41 : γ 1 92 0 17 = ρ 45 := m41
  have m42 : γ 1 92 0 18 = ρ 46 := m42
  have m43 : γ 1 92 0 19 = ρ 47 := m43
  have m45 : γ 0 73 0 (ρ 26) = ρ 49 := m45
  have m46 : γ 0 69 0 (ρ 26) = ρ 50 := m46
  obtain ⟨-, c2⟩ := hc
  have c2 : γ 2 = rUp (γ 1) 92 0 (ρ 50) (ρ 25) := c2
  show jn77 [ρ 0, ρ 1, ρ 2, ρ 3, ρ 4, ρ 5, ρ 6, ρ 7, ρ 8, ρ 9, ρ 10, ρ 11, ρ 12, ρ 13, ρ 14, ρ 15, ρ 16, ρ 17, ρ 18, ρ 19, ρ 20, ρ 21, ρ 22, ρ 23] (γ 0) 2 [ρ 0, ρ 1, ρ 2, ρ 3, ρ 4, ρ 5, ρ 6, ρ 7, ρ 8, ρ 9, ρ 10, ρ 11, ρ 12, ρ 13, ρ 14, ρ 15, ρ 16, ρ 17, ρ 18, ρ 19, ρ 20, ρ 21, ρ 22, ρ 23, ρ 26 + 1, 1, ρ 28, ρ 29, ρ 30, ρ 31, ρ 32, ρ 33, ρ 25, ρ 35, ρ 36, ρ 37, ρ 38, ρ 39, ρ 40, ρ 41, ρ 42, ρ 43, ρ 44, ρ 45, ρ 46, ρ 47, ρ 48] (γ 2)
  have hD : en77 (γ 0) (3, [ρ 24, ρ 25, ρ 26, ρ 27], γ 1) = .inl (2, [ρ 26 + 1, 1], γ 2) := by
    unfold en77
    refine (if_neg (show ¬ (3 : Nat) = 0 by decide)).trans ?_
    refine (if_neg (show ¬ (3 : Nat) = 1 by decide)).trans ?_
    refine (if_neg (show ¬ (3 : Nat) = 2 by decide)).trans ?_
    refine (if_pos (show (3 : Nat) = 3 by decide)).trans ?_
    refine (zLet_eq (show _ = γ 1 from rfl)).trans ?_
    refine (zLet_eq (show _ = ρ 24 from rfl)).trans ?_
    refine (zLet_eq (show _ = ρ 25 from rfl)).trans ?_
    refine (zLet_eq (show _ = ρ 26 from rfl)).trans ?_
    refine (zLet_eq (show _ = ρ 27 from rfl)).trans ?_
    refine (zLet_eq m24).trans ?_
    refine (zLet_eq m25).trans ?_
    refine (zLet_eq m26).trans ?_
    refine (zLet_eq m27).trans ?_
    refine (zLet_eq m28).trans ?_
    refine (zLet_eq m29).trans ?_
    refine (zLet_eq m30).trans ?_
    refine (zLet_eq m31).trans ?_
    refine (zLet_eq m32).trans ?_
    refine (zLet_eq m33).trans ?_
    refine (zLet_eq m34).trans ?_
    refine (zLet_eq m35).trans ?_
    refine (zLet_eq m36).trans ?_
    refine (zLet_eq m37).trans ?_
    refine (zLet_eq m38).trans ?_
    refine (zLet_eq m39).trans ?_
    refine (zLet_eq m40).trans ?_
    refine (zLet_eq m41).trans ?_
    refine (zLet_eq m42).trans ?_
    refine (zLet_eq m43).trans ?_
    refine (zLet_eq m45).trans ?_
    refine (if_pos w_0).trans ?_
    refine (if_pos w_1).trans ?_
    refine (zLet_eq m46).trans ?_
    refine (if_neg w_2).trans ?_
    refine (if_neg w_3).trans ?_
    refine (if_neg w_4).trans ?_
    refine (if_neg w_5).trans ?_
    refine (if_neg w_6).trans ?_
    refine (if_neg w_7).trans ?_
    refine (if_pos w_8).trans ?_
    refine (if_neg w_9).trans ?_
    refine (zLet_eq c2.symm).trans ?_
    rfl
  exact zGoo_ato hJ hD
theorem vn77a3_14 {S : Nat → zSpc}  {a : List Int} {g : rHp} : ∀ (ρ : Nat → Int) (γ : Nat → rHp), jn77 a g 3 (zAg (zNA a77_ 3) ρ) (γ 1) → zO 24 S a g q77a3_14 ρ γ → zGl (fun i vs g1 => jn77 a g i vs g1) (sn77 a g) q77a3_14 ρ γ := by
  intro ρ γ hJ h
  obtain ⟨ha, hg, hr, hf, hm, hc, hl⟩ := h
  have ha : a = [ρ 0, ρ 1, ρ 2, ρ 3, ρ 4, ρ 5, ρ 6, ρ 7, ρ 8, ρ 9, ρ 10, ρ 11, ρ 12, ρ 13, ρ 14, ρ 15, ρ 16, ρ 17, ρ 18, ρ 19, ρ 20, ρ 21, ρ 22, ρ 23] := ha
  subst ha
  subst hg
  have hJ : jn77 [ρ 0, ρ 1, ρ 2, ρ 3, ρ 4, ρ 5, ρ 6, ρ 7, ρ 8, ρ 9, ρ 10, ρ 11, ρ 12, ρ 13, ρ 14, ρ 15, ρ 16, ρ 17, ρ 18, ρ 19, ρ 20, ρ 21, ρ 22, ρ 23] (γ 0) 3 [ρ 0, ρ 1, ρ 2, ρ 3, ρ 4, ρ 5, ρ 6, ρ 7, ρ 8, ρ 9, ρ 10, ρ 11, ρ 12, ρ 13, ρ 14, ρ 15, ρ 16, ρ 17, ρ 18, ρ 19, ρ 20, ρ 21, ρ 22, ρ 23, ρ 24, ρ 25, ρ 26, ρ 27, ρ 28, ρ 29, ρ 30, ρ 31, ρ 32, ρ 33, ρ 34, ρ 35, ρ 36, ρ 37, ρ 38, ρ 39, ρ 40, ρ 41, ρ 42, ρ 43, ρ 44, ρ 45, ρ 46, ρ 47, ρ 48] (γ 1) := hJ
  obtain ⟨-, -, -, -, -, -, -, -, -, -, -, -, -, -, -, -, -, -, -, -, -, -, -, -, -, r25, -, -, -, -, -, -, -, -, -, -, -, -, -, -, -, -, -, -, -, -, -, -, -, -, r50, -⟩ := hr
  have r25 : (0 : Int) ≤ ρ 25 ∧ ρ 25 ≤ 20 := r25
  have r50 : (7 : Int) ≤ ρ 50 ∧ ρ 50 ≤ 7 := r50
  obtain ⟨f0, f1, -⟩ := hf
  have f0 : (0 : Int) ≤ ρ 35 + -ρ 25 := f0
  have f1 : (0 : Int) ≤ -ρ 49 + ((-8) * ρ 26 + ρ 24) := f1
  obtain ⟨w_0, w_1, w_2, w_3, w_4, w_5, w_6, w_7, w_8, w_9, w_10⟩ : (ρ 24 ≥ ρ 49 + 8 * ρ 26) ∧ (ρ 25 ≤ 20) ∧ (¬ (0 ≤ -ρ 50)) ∧ (¬ (0 ≤ -ρ 50 + 1)) ∧ (¬ (0 ≤ -ρ 50 + 2)) ∧ (¬ (0 ≤ -ρ 50 + 3)) ∧ (¬ (0 ≤ -ρ 50 + 4)) ∧ (¬ (0 ≤ -ρ 50 + 5)) ∧ (¬ (0 ≤ -ρ 50 + 6)) ∧ (0 ≤ -ρ 50 + 7) ∧ (ρ 25 ≤ ρ 35) := ⟨by omega, by omega, by omega, by omega, by omega, by omega, by omega, by omega, by omega, by omega, by omega⟩
  obtain ⟨-, -, -, -, -, -, -, -, -, -, -, -, -, -, -, -, -, -, -, -, -, -, -, -, m24, m25, m26, m27, m28, m29, m30, m31, m32, m33, m34, m35, m36, m37, m38, m39, m40, m41, m42, m43, -, m45, m46, -⟩ := hm
  have m24 : γ 1 92 0 0 = ρ 28 := m24
  have m25 : γ 1 92 0 1 = ρ 29 := m25
  have m26 : γ 1 92 0 2 = ρ 30 := m26
  have m27 : γ 1 92 0 3 = ρ 31 := m27
  have m28 : γ 1 92 0 4 = ρ 32 := m28
  have m29 : γ 1 92 0 5 = ρ 33 := m29
  have m30 : γ 1 92 0 6 = ρ 34 := m30
  have m31 : γ 1 92 0 7 = ρ 35 := m31
  have m32 : γ 1 92 0 8 = ρ 36 := m32
  have m33 : γ 1 92 0 9 = ρ 37 := m33
  have m34 : γ 1 92 0 10 = ρ 38 := m34
  have m35 : γ 1 92 0 11 = ρ 39 := m35
  have m36 : γ 1 92 0 12 = ρ 40 := m36
  have m37 : γ 1 92 0 13 = ρ 41 := m37
  have m38 : γ 1 92 0 14 = ρ 42 := m38
  have m39 : γ 1 92 0 15 = ρ 43 := m39
  have m40 : γ 1 92 0 16 = ρ 44 := m40
  have m41 : γ 1 92 0 17 = ρ 45 := m41
  have m42 : γ 1 92 0 18 = ρ 46 := m42
  have m43 : γ 1 92 0 19 = ρ 47 := m43
  have m45 : γ 0 73 0 (ρ 26) = ρ 49 := m45
  have m46 : γ 0 69 0 (ρ 26) = ρ 50 := m46
  show jn77 [ρ 0, ρ 1, ρ 2, ρ 3, ρ 4, ρ 5, ρ 6, ρ 7, ρ 8, ρ 9, ρ 10, ρ 11, ρ 12, ρ 13, ρ 14, ρ 15, ρ 16, ρ 17, ρ 18, ρ 19, ρ 20, ρ 21, ρ 22, ρ 23] (γ 0) 2 [ρ 0, ρ 1, ρ 2, ρ 3, ρ 4, ρ 5, ρ 6, ρ 7, ρ 8, ρ 9, ρ 10, ρ 11, ρ 12, ρ 13, ρ 14, ρ 15, ρ 16, ρ 17, ρ 18, ρ 19, ρ 20, ρ 21, ρ 22, ρ 23, ρ 26 + 1, ρ 27, ρ 28, ρ 29, ρ 30, ρ 31, ρ 32, ρ 33, ρ 34, ρ 35, ρ 36, ρ 37, ρ 38, ρ 39, ρ 40, ρ 41, ρ 42, ρ 43, ρ 44, ρ 45, ρ 46, ρ 47, ρ 48] (γ 1)
  have hD : en77 (γ 0) (3, [ρ 24, ρ 25, ρ 26, ρ 27], γ 1) = .inl (2, [ρ 26 + 1, ρ 27], γ 1) := by
    unfold en77
    refine (if_neg (show ¬ (3 : Nat) = 0 by decide)).trans ?_
    refine (if_neg (show ¬ (3 : Nat) = 1 by decide)).trans ?_
    refine (if_neg (show ¬ (3 : Nat) = 2 by decide)).trans ?_
    refine (if_pos (show (3 : Nat) = 3 by decide)).trans ?_
    refine (zLet_eq (show _ = γ 1 from rfl)).trans ?_
    refine (zLet_eq (show _ = ρ 24 from rfl)).trans ?_
    refine (zLet_eq (show _ = ρ 25 from rfl)).trans ?_
    refine (zLet_eq (show _ = ρ 26 from rfl)).trans ?_
    refine (zLet_eq (show _ = ρ 27 from rfl)).trans ?_
    refine (zLet_eq m24).trans ?_
    refine (zLet_eq m25).trans ?_
    refine (zLet_eq m26).trans ?_
    refine (zLet_eq m27).trans ?_
    refine (zLet_eq m28).trans ?_
    refine (zLet_eq m29).trans ?_
    refine (zLet_eq m30).trans ?_
    refine (zLet_eq m31).trans ?_
    refine (zLet_eq m32).trans ?_
    refine (zLet_eq m33).trans ?_
    refine (zLet_eq m34).trans ?_
    refine (zLet_eq m35).trans ?_
    refine (zLet_eq m36).trans ?_
    refine (zLet_eq m37).trans ?_
    refine (zLet_eq m38).trans ?_
    refine (zLet_eq m39).trans ?_
    refine (zLet_eq m40).trans ?_
    refine (zLet_eq m41).trans ?_
    refine (zLet_eq m42).trans ?_
    refine (zLet_eq m43).trans ?_
    refine (zLet_eq m45).trans ?_
    refine (if_pos w_0).trans ?_
    refine (if_pos w_1).trans ?_
    refine (zLet_eq m46).trans ?_
    refine (if_neg w_2).trans ?_
    refine (if_neg w_3).trans ?_
    refine (if_neg w_4).trans ?_
    refine (if_neg w_5).trans ?_
    refine (if_neg w_6).trans ?_
    refine (if_neg w_7).trans ?_
    refine (if_neg w_8).trans ?_
    refine (if_pos w_9).trans ?_
    refine (if_pos w_10).trans ?_
    rfl
  exact zGoo_ato hJ hD
theorem vn77a3_15 {S : Nat → zSpc}  {a : List Int} {g : rHp} : ∀ (ρ : Nat → Int) (γ : Nat → rHp), jn77 a g 3 (zAg (zNA a77_ 3) ρ) (γ 1) → zO 24 S a g q77a3_15 ρ γ → zGl (fun i vs g1 => jn77 a g i vs g1) (sn77 a g) q77a3_15 ρ γ := by
  intro ρ γ hJ h
  obtain ⟨ha, hg, hr, hf, hm, hc, hl⟩ := h
  have ha : a = [ρ 0, ρ 1, ρ 2, ρ 3, ρ 4, ρ 5, ρ 6, ρ 7, ρ 8, ρ 9, ρ 10, ρ 11, ρ 12, ρ 13, ρ 14, ρ 15, ρ 16, ρ 17, ρ 18, ρ 19, ρ 20, ρ 21, ρ 22, ρ 23] := ha
  subst ha
  subst hg
  have hJ : jn77 [ρ 0, ρ 1, ρ 2, ρ 3, ρ 4, ρ 5, ρ 6, ρ 7, ρ 8, ρ 9, ρ 10, ρ 11, ρ 12, ρ 13, ρ 14, ρ 15, ρ 16, ρ 17, ρ 18, ρ 19, ρ 20, ρ 21, ρ 22, ρ 23] (γ 0) 3 [ρ 0, ρ 1, ρ 2, ρ 3, ρ 4, ρ 5, ρ 6, ρ 7, ρ 8, ρ 9, ρ 10, ρ 11, ρ 12, ρ 13, ρ 14, ρ 15, ρ 16, ρ 17, ρ 18, ρ 19, ρ 20, ρ 21, ρ 22, ρ 23, ρ 24, ρ 25, ρ 26, ρ 27, ρ 28, ρ 29, ρ 30, ρ 31, ρ 32, ρ 33, ρ 34, ρ 35, ρ 36, ρ 37, ρ 38, ρ 39, ρ 40, ρ 41, ρ 42, ρ 43, ρ 44, ρ 45, ρ 46, ρ 47, ρ 48] (γ 1) := hJ
  obtain ⟨-, -, -, -, -, -, -, -, -, -, -, -, -, -, -, -, -, -, -, -, -, -, -, -, -, r25, -, -, -, -, -, -, -, -, -, -, -, -, -, -, -, -, -, -, -, -, -, -, -, -, r50, -⟩ := hr
  have r25 : (0 : Int) ≤ ρ 25 ∧ ρ 25 ≤ 20 := r25
  have r50 : (7 : Int) ≤ ρ 50 ∧ ρ 50 ≤ 7 := r50
  obtain ⟨f0, f1, -⟩ := hf
  have f0 : (0 : Int) ≤ -ρ 35 + ρ 25 + (-1) := f0
  have f1 : (0 : Int) ≤ -ρ 49 + ((-8) * ρ 26 + ρ 24) := f1
  obtain ⟨w_0, w_1, w_2, w_3, w_4, w_5, w_6, w_7, w_8, w_9, w_10⟩ : (ρ 24 ≥ ρ 49 + 8 * ρ 26) ∧ (ρ 25 ≤ 20) ∧ (¬ (0 ≤ -ρ 50)) ∧ (¬ (0 ≤ -ρ 50 + 1)) ∧ (¬ (0 ≤ -ρ 50 + 2)) ∧ (¬ (0 ≤ -ρ 50 + 3)) ∧ (¬ (0 ≤ -ρ 50 + 4)) ∧ (¬ (0 ≤ -ρ 50 + 5)) ∧ (¬ (0 ≤ -ρ 50 + 6)) ∧ (0 ≤ -ρ 50 + 7) ∧ (¬ (ρ 25 ≤ ρ 35)) := ⟨by omega, by omega, by omega, by omega, by omega, by omega, by omega, by omega, by omega, by omega, by omega⟩
  obtain ⟨-, -, -, -, -, -, -, -, -, -, -, -, -, -, -, -, -, -, -, -, -, -, -, -, m24, m25, m26, m27, m28, m29, m30, m31, m32, m33, m34, m35, m36, m37, m38, m39, m40, m41, m42, m43, -, m45, m46, -⟩ := hm
  have m24 : γ 1 92 0 0 = ρ 28 := m24
  have m25 : γ 1 92 0 1 = ρ 29 := m25
  have m26 : γ 1 92 0 2 = ρ 30 := m26
  have m27 : γ 1 92 0 3 = ρ 31 := m27
  have m28 : γ 1 92 0 4 = ρ 32 := m28
  have m29 : γ 1 92 0 5 = ρ 33 := m29
  have m30 : γ 1 92 0 6 = ρ 34 := m30
  have m31 : γ 1 92 0 7 = ρ 35 := m31
  have m32 : γ 1 92 0 8 = ρ 36 := m32
  have m33 : γ 1 92 0 9 = ρ 37 := m33
  have m34 : γ 1 92 0 10 = ρ 38 := m34
  have m35 : γ 1 92 0 11 = ρ 39 := m35
  have m36 : γ 1 92 0 12 = ρ 40 := m36
  have m37 : γ 1 92 0 13 = ρ 41 := m37
  have m38 : γ 1 92 0 14 = ρ 42 := m38
  have m39 : γ 1 92 0 15 = ρ 43 := m39
  have m40 : γ 1 92 0 16 = ρ 44 := m40
  have m41 : γ 1 92 0 17 = ρ 45 := m41
  have m42 : γ 1 92 0 18 = ρ 46 := m42
  have m43 : γ 1 92 0 19 = ρ 47 := m43
  have m45 : γ 0 73 0 (ρ 26) = ρ 49 := m45
  have m46 : γ 0 69 0 (ρ 26) = ρ 50 := m46
  obtain ⟨-, c2⟩ := hc
  have c2 : γ 2 = rUp (γ 1) 92 0 (ρ 50) (ρ 25) := c2
  show jn77 [ρ 0, ρ 1, ρ 2, ρ 3, ρ 4, ρ 5, ρ 6, ρ 7, ρ 8, ρ 9, ρ 10, ρ 11, ρ 12, ρ 13, ρ 14, ρ 15, ρ 16, ρ 17, ρ 18, ρ 19, ρ 20, ρ 21, ρ 22, ρ 23] (γ 0) 2 [ρ 0, ρ 1, ρ 2, ρ 3, ρ 4, ρ 5, ρ 6, ρ 7, ρ 8, ρ 9, ρ 10, ρ 11, ρ 12, ρ 13, ρ 14, ρ 15, ρ 16, ρ 17, ρ 18, ρ 19, ρ 20, ρ 21, ρ 22, ρ 23, ρ 26 + 1, 1, ρ 28, ρ 29, ρ 30, ρ 31, ρ 32, ρ 33, ρ 34, ρ 25, ρ 36, ρ 37, ρ 38, ρ 39, ρ 40, ρ 41, ρ 42, ρ 43, ρ 44, ρ 45, ρ 46, ρ 47, ρ 48] (γ 2)
  have hD : en77 (γ 0) (3, [ρ 24, ρ 25, ρ 26, ρ 27], γ 1) = .inl (2, [ρ 26 + 1, 1], γ 2) := by
    unfold en77
    refine (if_neg (show ¬ (3 : Nat) = 0 by decide)).trans ?_
    refine (if_neg (show ¬ (3 : Nat) = 1 by decide)).trans ?_
    refine (if_neg (show ¬ (3 : Nat) = 2 by decide)).trans ?_
    refine (if_pos (show (3 : Nat) = 3 by decide)).trans ?_
    refine (zLet_eq (show _ = γ 1 from rfl)).trans ?_
    refine (zLet_eq (show _ = ρ 24 from rfl)).trans ?_
    refine (zLet_eq (show _ = ρ 25 from rfl)).trans ?_
    refine (zLet_eq (show _ = ρ 26 from rfl)).trans ?_
    refine (zLet_eq (show _ = ρ 27 from rfl)).trans ?_
    refine (zLet_eq m24).trans ?_
    refine (zLet_eq m25).trans ?_
    refine (zLet_eq m26).trans ?_
    refine (zLet_eq m27).trans ?_
    refine (zLet_eq m28).trans ?_
    refine (zLet_eq m29).trans ?_
    refine (zLet_eq m30).trans ?_
    refine (zLet_eq m31).trans ?_
    refine (zLet_eq m32).trans ?_
    refine (zLet_eq m33).trans ?_
    refine (zLet_eq m34).trans ?_
    refine (zLet_eq m35).trans ?_
    refine (zLet_eq m36).trans ?_
    refine (zLet_eq m37).trans ?_
    refine (zLet_eq m38).trans ?_
    refine (zLet_eq m39).trans ?_
    refine (zLet_eq m40).trans ?_
    refine (zLet_eq m41).trans ?_
    refine (zLet_eq m42).trans ?_
    refine (zLet_eq m43).trans ?_
    refine (zLet_eq m45).trans ?_
    refine (if_pos w_0).trans ?_
    refine (if_pos w_1).trans ?_
    refine (zLet_eq m46).trans ?_
    refine (if_neg w_2).trans ?_
    refine (if_neg w_3).trans ?_
    refine (if_neg w_4).trans ?_
    refine (if_neg w_5).trans ?_
    refine (if_neg w_6).trans ?_
    refine (if_neg w_7).trans ?_
    refine (if_neg w_8).trans ?_
    refine (if_pos w_9).trans ?_
    refine (if_neg w_10).trans ?_
    refine (zLet_eq c2.symm).trans ?_
    rfl
  exact zGoo_ato hJ hD
theorem vn77a3_16 {S : Nat → zSpc}  {a : List Int} {g : rHp} : ∀ (ρ : Nat → Int) (γ : Nat → rHp), jn77 a g 3 (zAg (zNA a77_ 3) ρ) (γ 1) → zO 24 S a g q77a3_16 ρ γ → zGl (fun i vs g1 => jn77 a g i vs g1) (sn77 a g) q77a3_16 ρ γ := by
  intro ρ γ hJ h
  obtain ⟨ha, hg, hr, hf, hm, hc, hl⟩ := h
  have ha : a = [ρ 0, ρ 1, ρ 2, ρ 3, ρ 4, ρ 5, ρ 6, ρ 7, ρ 8, ρ 9, ρ 10, ρ 11, ρ 12, ρ 13, ρ 14, ρ 15, ρ 16, ρ 17, ρ 18, ρ 19, ρ 20, ρ 21, ρ 22, ρ 23] := ha
  subst ha
  subst hg
  have hJ : jn77 [ρ 0, ρ 1, ρ 2, ρ 3, ρ 4, ρ 5, ρ 6, ρ 7, ρ 8, ρ 9, ρ 10, ρ 11, ρ 12, ρ 13, ρ 14, ρ 15, ρ 16, ρ 17, ρ 18, ρ 19, ρ 20, ρ 21, ρ 22, ρ 23] (γ 0) 3 [ρ 0, ρ 1, ρ 2, ρ 3, ρ 4, ρ 5, ρ 6, ρ 7, ρ 8, ρ 9, ρ 10, ρ 11, ρ 12, ρ 13, ρ 14, ρ 15, ρ 16, ρ 17, ρ 18, ρ 19, ρ 20, ρ 21, ρ 22, ρ 23, ρ 24, ρ 25, ρ 26, ρ 27, ρ 28, ρ 29, ρ 30, ρ 31, ρ 32, ρ 33, ρ 34, ρ 35, ρ 36, ρ 37, ρ 38, ρ 39, ρ 40, ρ 41, ρ 42, ρ 43, ρ 44, ρ 45, ρ 46, ρ 47, ρ 48] (γ 1) := hJ
  obtain ⟨-, -, -, -, -, -, -, -, -, -, -, -, -, -, -, -, -, -, -, -, -, -, -, -, -, r25, -, -, -, -, -, -, -, -, -, -, -, -, -, -, -, -, -, -, -, -, -, -, -, -, r50, -⟩ := hr
  have r25 : (0 : Int) ≤ ρ 25 ∧ ρ 25 ≤ 20 := r25
  have r50 : (8 : Int) ≤ ρ 50 ∧ ρ 50 ≤ 8 := r50
  obtain ⟨f0, f1, -⟩ := hf
  have f0 : (0 : Int) ≤ ρ 36 + -ρ 25 := f0
  have f1 : (0 : Int) ≤ -ρ 49 + ((-8) * ρ 26 + ρ 24) := f1
  obtain ⟨w_0, w_1, w_2, w_3, w_4, w_5, w_6, w_7, w_8, w_9, w_10, w_11⟩ : (ρ 24 ≥ ρ 49 + 8 * ρ 26) ∧ (ρ 25 ≤ 20) ∧ (¬ (0 ≤ -ρ 50)) ∧ (¬ (0 ≤ -ρ 50 + 1)) ∧ (¬ (0 ≤ -ρ 50 + 2)) ∧ (¬ (0 ≤ -ρ 50 + 3)) ∧ (¬ (0 ≤ -ρ 50 + 4)) ∧ (¬ (0 ≤ -ρ 50 + 5)) ∧ (¬ (0 ≤ -ρ 50 + 6)) ∧ (¬ (0 ≤ -ρ 50 + 7)) ∧ (0 ≤ -ρ 50 + 8) ∧ (ρ 25 ≤ ρ 36) := ⟨by omega, by omega, by omega, by omega, by omega, by omega, by omega, by omega, by omega, by omega, by omega, by omega⟩
  obtain ⟨-, -, -, -, -, -, -, -, -, -, -, -, -, -, -, -, -, -, -, -, -, -, -, -, m24, m25, m26, m27, m28, m29, m30, m31, m32, m33, m34, m35, m36, m37, m38, m39, m40, m41, m42, m43, -, m45, m46, -⟩ := hm
  have m24 : γ 1 92 0 0 = ρ 28 := m24
  have m25 : γ 1 92 0 1 = ρ 29 := m25
  have m26 : γ 1 92 0 2 = ρ 30 := m26
  have m27 : γ 1 92 0 3 = ρ 31 := m27
  have m28 : γ 1 92 0 4 = ρ 32 := m28
  have m29 : γ 1 92 0 5 = ρ 33 := m29
  have m30 : γ 1 92 0 6 = ρ 34 := m30
  have m31 : γ 1 92 0 7 = ρ 35 := m31
  have m32 : γ 1 92 0 8 = ρ 36 := m32
  have m33 : γ 1 92 0 9 = ρ 37 := m33
  have m34 : γ 1 92 0 10 = ρ 38 := m34
  have m35 : γ 1 92 0 11 = ρ 39 := m35
  have m36 : γ 1 92 0 12 = ρ 40 := m36
  have m37 : γ 1 92 0 13 = ρ 41 := m37
  have m38 : γ 1 92 0 14 = ρ 42 := m38
  have m39 : γ 1 92 0 15 = ρ 43 := m39
  have m40 : γ 1 92 0 16 = ρ 44 := m40
  have m41 : γ 1 92 0 17 = ρ 45 := m41
  have m42 : γ 1 92 0 18 = ρ 46 := m42
  have m43 : γ 1 92 0 19 = ρ 47 := m43
  have m45 : γ 0 73 0 (ρ 26) = ρ 49 := m45
  have m46 : γ 0 69 0 (ρ 26) = ρ 50 := m46
  show jn77 [ρ 0, ρ 1, ρ 2, ρ 3, ρ 4, ρ 5, ρ 6, ρ 7, ρ 8, ρ 9, ρ 10, ρ 11, ρ 12, ρ 13, ρ 14, ρ 15, ρ 16, ρ 17, ρ 18, ρ 19, ρ 20, ρ 21, ρ 22, ρ 23] (γ 0) 2 [ρ 0, ρ 1, ρ 2, ρ 3, ρ 4, ρ 5, ρ 6, ρ 7, ρ 8, ρ 9, ρ 10, ρ 11, ρ 12, ρ 13, ρ 14, ρ 15, ρ 16, ρ 17, ρ 18, ρ 19, ρ 20, ρ 21, ρ 22, ρ 23, ρ 26 + 1, ρ 27, ρ 28, ρ 29, ρ 30, ρ 31, ρ 32, ρ 33, ρ 34, ρ 35, ρ 36, ρ 37, ρ 38, ρ 39, ρ 40, ρ 41, ρ 42, ρ 43, ρ 44, ρ 45, ρ 46, ρ 47, ρ 48] (γ 1)
  have hD : en77 (γ 0) (3, [ρ 24, ρ 25, ρ 26, ρ 27], γ 1) = .inl (2, [ρ 26 + 1, ρ 27], γ 1) := by
    unfold en77
    refine (if_neg (show ¬ (3 : Nat) = 0 by decide)).trans ?_
    refine (if_neg (show ¬ (3 : Nat) = 1 by decide)).trans ?_
    refine (if_neg (show ¬ (3 : Nat) = 2 by decide)).trans ?_
    refine (if_pos (show (3 : Nat) = 3 by decide)).trans ?_
    refine (zLet_eq (show _ = γ 1 from rfl)).trans ?_
    refine (zLet_eq (show _ = ρ 24 from rfl)).trans ?_
    refine (zLet_eq (show _ = ρ 25 from rfl)).trans ?_
    refine (zLet_eq (show _ = ρ 26 from rfl)).trans ?_
    refine (zLet_eq (show _ = ρ 27 from rfl)).trans ?_
    refine (zLet_eq m24).trans ?_
    refine (zLet_eq m25).trans ?_
    refine (zLet_eq m26).trans ?_
    refine (zLet_eq m27).trans ?_
    refine (zLet_eq m28).trans ?_
    refine (zLet_eq m29).trans ?_
    refine (zLet_eq m30).trans ?_
    refine (zLet_eq m31).trans ?_
    refine (zLet_eq m32).trans ?_
    refine (zLet_eq m33).trans ?_
    refine (zLet_eq m34).trans ?_
    refine (zLet_eq m35).trans ?_
    refine (zLet_eq m36).trans ?_
    refine (zLet_eq m37).trans ?_
    refine (zLet_eq m38).trans ?_
    refine (zLet_eq m39).trans ?_
    refine (zLet_eq m40).trans ?_
    refine (zLet_eq m41).trans ?_
    refine (zLet_eq m42).trans ?_
    refine (zLet_eq m43).trans ?_
    refine (zLet_eq m45).trans ?_
    refine (if_pos w_0).trans ?_
    refine (if_pos w_1).trans ?_
    refine (zLet_eq m46).trans ?_
    refine (if_neg w_2).trans ?_
    refine (if_neg w_3).trans ?_
    refine (if_neg w_4).trans ?_
    refine (if_neg w_5).trans ?_
    refine (if_neg w_6).trans ?_
    refine (if_neg w_7).trans ?_
    refine (if_neg w_8).trans ?_
    refine (if_neg w_9).trans ?_
    refine (if_pos w_10).trans ?_
    refine (if_pos w_11).trans ?_
    rfl
  exact zGoo_ato hJ hD
theorem vn77a3_17 {S : Nat → zSpc}  {a : List Int} {g : rHp} : ∀ (ρ : Nat → Int) (γ : Nat → rHp), jn77 a g 3 (zAg (zNA a77_ 3) ρ) (γ 1) → zO 24 S a g q77a3_17 ρ γ → zGl (fun i vs g1 => jn77 a g i vs g1) (sn77 a g) q77a3_17 ρ γ := by
  intro ρ γ hJ h
  obtain ⟨ha, hg, hr, hf, hm, hc, hl⟩ := h
  have ha : a = [ρ 0, ρ 1, ρ 2, ρ 3, ρ 4, ρ 5, ρ 6, ρ 7, ρ 8, ρ 9, ρ 10, ρ 11, ρ 12, ρ 13, ρ 14, ρ 15, ρ 16, ρ 17, ρ 18, ρ 19, ρ 20, ρ 21, ρ 22, ρ 23] := ha
  subst ha
  subst hg
  have hJ : jn77 [ρ 0, ρ 1, ρ 2, ρ 3, ρ 4, ρ 5, ρ 6, ρ 7, ρ 8, ρ 9, ρ 10, ρ 11, ρ 12, ρ 13, ρ 14, ρ 15, ρ 16, ρ 17, ρ 18, ρ 19, ρ 20, ρ 21, ρ 22, ρ 23] (γ 0) 3 [ρ 0, ρ 1, ρ 2, ρ 3, ρ 4, ρ 5, ρ 6, ρ 7, ρ 8, ρ 9, ρ 10, ρ 11, ρ 12, ρ 13, ρ 14, ρ 15, ρ 16, ρ 17, ρ 18, ρ 19, ρ 20, ρ 21, ρ 22, ρ 23, ρ 24, ρ 25, ρ 26, ρ 27, ρ 28, ρ 29, ρ 30, ρ 31, ρ 32, ρ 33, ρ 34, ρ 35, ρ 36, ρ 37, ρ 38, ρ 39, ρ 40, ρ 41, ρ 42, ρ 43, ρ 44, ρ 45, ρ 46, ρ 47, ρ 48] (γ 1) := hJ
  obtain ⟨-, -, -, -, -, -, -, -, -, -, -, -, -, -, -, -, -, -, -, -, -, -, -, -, -, r25, -, -, -, -, -, -, -, -, -, -, -, -, -, -, -, -, -, -, -, -, -, -, -, -, r50, -⟩ := hr
  have r25 : (0 : Int) ≤ ρ 25 ∧ ρ 25 ≤ 20 := r25
  have r50 : (8 : Int) ≤ ρ 50 ∧ ρ 50 ≤ 8 := r50
  obtain ⟨f0, f1, -⟩ := hf
  have f0 : (0 : Int) ≤ -ρ 36 + ρ 25 + (-1) := f0
  have f1 : (0 : Int) ≤ -ρ 49 + ((-8) * ρ 26 + ρ 24) := f1
  obtain ⟨w_0, w_1, w_2, w_3, w_4, w_5, w_6, w_7, w_8, w_9, w_10, w_11⟩ : (ρ 24 ≥ ρ 49 + 8 * ρ 26) ∧ (ρ 25 ≤ 20) ∧ (¬ (0 ≤ -ρ 50)) ∧ (¬ (0 ≤ -ρ 50 + 1)) ∧ (¬ (0 ≤ -ρ 50 + 2)) ∧ (¬ (0 ≤ -ρ 50 + 3)) ∧ (¬ (0 ≤ -ρ 50 + 4)) ∧ (¬ (0 ≤ -ρ 50 + 5)) ∧ (¬ (0 ≤ -ρ 50 + 6)) ∧ (¬ (0 ≤ -ρ 50 + 7)) ∧ (0 ≤ -ρ 50 + 8) ∧ (¬ (ρ 25 ≤ ρ 36)) := ⟨by omega, by omega, by omega, by omega, by omega, by omega, by omega, by omega, by omega, by omega, by omega, by omega⟩
  obtain ⟨-, -, -, -, -, -, -, -, -, -, -, -, -, -, -, -, -, -, -, -, -, -, -, -, m24, m25, m26, m27, m28, m29, m30, m31, m32, m33, m34, m35, m36, m37, m38, m39, m40, m41, m42, m43, -, m45, m46, -⟩ := hm
  have m24 : γ 1 92 0 0 = ρ 28 := m24
  have m25 : γ 1 92 0 1 = ρ 29 := m25
  have m26 : γ 1 92 0 2 = ρ 30 := m26
  have m27 : γ 1 92 0 3 = ρ 31 := m27
  have m28 : γ 1 92 0 4 = ρ 32 := m28
  have m29 : γ 1 92 0 5 = ρ 33 := m29
  have m30 : γ 1 92 0 6 = ρ 34 := m30
  have m31 : γ 1 92 0 7 = ρ 35 := m31
  have m32 : γ 1 92 0 8 = ρ 36 := m32
  have m33 : γ 1 92 0 9 = ρ 37 := m33
  have m34 : γ 1 92 0 10 = ρ 38 := m34
  have m35 : γ 1 92 0 11 = ρ 39 := m35
  have m36 : γ 1 92 0 12 = ρ 40 := m36
  have m37 : γ 1 92 0 13 = ρ 41 := m37
  have m38 : γ 1 92 0 14 = ρ 42 := m38
  have m39 : γ 1 92 0 15 = ρ 43 := m39
  have m40 : γ 1 92 0 16 = ρ 44 := m40
  have m41 : γ 1 92 0 17 = ρ 45 := m41
  have m42 : γ 1 92 0 18 = ρ 46 := m42
  have m43 : γ 1 92 0 19 = ρ 47 := m43
  have m45 : γ 0 73 0 (ρ 26) = ρ 49 := m45
  have m46 : γ 0 69 0 (ρ 26) = ρ 50 := m46
  obtain ⟨-, c2⟩ := hc
  have c2 : γ 2 = rUp (γ 1) 92 0 (ρ 50) (ρ 25) := c2
  show jn77 [ρ 0, ρ 1, ρ 2, ρ 3, ρ 4, ρ 5, ρ 6, ρ 7, ρ 8, ρ 9, ρ 10, ρ 11, ρ 12, ρ 13, ρ 14, ρ 15, ρ 16, ρ 17, ρ 18, ρ 19, ρ 20, ρ 21, ρ 22, ρ 23] (γ 0) 2 [ρ 0, ρ 1, ρ 2, ρ 3, ρ 4, ρ 5, ρ 6, ρ 7, ρ 8, ρ 9, ρ 10, ρ 11, ρ 12, ρ 13, ρ 14, ρ 15, ρ 16, ρ 17, ρ 18, ρ 19, ρ 20, ρ 21, ρ 22, ρ 23, ρ 26 + 1, 1, ρ 28, ρ 29, ρ 30, ρ 31, ρ 32, ρ 33, ρ 34, ρ 35, ρ 25, ρ 37, ρ 38, ρ 39, ρ 40, ρ 41, ρ 42, ρ 43, ρ 44, ρ 45, ρ 46, ρ 47, ρ 48] (γ 2)
  have hD : en77 (γ 0) (3, [ρ 24, ρ 25, ρ 26, ρ 27], γ 1) = .inl (2, [ρ 26 + 1, 1], γ 2) := by
    unfold en77
    refine (if_neg (show ¬ (3 : Nat) = 0 by decide)).trans ?_
    refine (if_neg (show ¬ (3 : Nat) = 1 by decide)).trans ?_
    refine (if_neg (show ¬ (3 : Nat) = 2 by decide)).trans ?_
    refine (if_pos (show (3 : Nat) = 3 by decide)).trans ?_
    refine (zLet_eq (show _ = γ 1 from rfl)).trans ?_
    refine (zLet_eq (show _ = ρ 24 from rfl)).trans ?_
    refine (zLet_eq (show _ = ρ 25 from rfl)).trans ?_
    refine (zLet_eq (show _ = ρ 26 from rfl)).trans ?_
    refine (zLet_eq (show _ = ρ 27 from rfl)).trans ?_
    refine (zLet_eq m24).trans ?_
    refine (zLet_eq m25).trans ?_
    refine (zLet_eq m26).trans ?_
    refine (zLet_eq m27).trans ?_
    refine (zLet_eq m28).trans ?_
    refine (zLet_eq m29).trans ?_
    refine (zLet_eq m30).trans ?_
    refine (zLet_eq m31).trans ?_
    refine (zLet_eq m32).trans ?_
    refine (zLet_eq m33).trans ?_
    refine (zLet_eq m34).trans ?_
    refine (zLet_eq m35).trans ?_
    refine (zLet_eq m36).trans ?_
    refine (zLet_eq m37).trans ?_
    refine (zLet_eq m38).trans ?_
    refine (zLet_eq m39).trans ?_
    refine (zLet_eq m40).trans ?_
    refine (zLet_eq m41).trans ?_
    refine (zLet_eq m42).trans ?_
    refine (zLet_eq m43).trans ?_
    refine (zLet_eq m45).trans ?_
    refine (if_pos w_0).trans ?_
    refine (if_pos w_1).trans ?_
    refine (zLet_eq m46).trans ?_
    refine (if_neg w_2).trans ?_
    refine (if_neg w_3).trans ?_
    refine (if_neg w_4).trans ?_
    refine (if_neg w_5).trans ?_
    refine (if_neg w_6).trans ?_
    refine (if_neg w_7).trans ?_
    refine (if_neg w_8).trans ?_
    refine (if_neg w_9).trans ?_
    refine (if_pos w_10).trans ?_
    refine (if_neg w_11).trans ?_
    refine (zLet_eq c2.symm).trans ?_
    rfl
  exact zGoo_ato hJ hD
theorem vn77a3_18 {S : Nat → zSpc}  {a : List Int} {g : rHp} : ∀ (ρ : Nat → Int) (γ : Nat → rHp), jn77 a g 3 (zAg (zNA a77_ 3) ρ) (γ 1) → zO 24 S a g q77a3_18 ρ γ → zGl (fun i vs g1 => jn77 a g i vs g1) (sn77 a g) q77a3_18 ρ γ := by
  intro ρ γ hJ h
  obtain ⟨ha, hg, hr, hf, hm, hc, hl⟩ := h
  have ha : a = [ρ 0, ρ 1, ρ 2, ρ 3, ρ 4, ρ 5, ρ 6, ρ 7, ρ 8, ρ 9, ρ 10, ρ 11, ρ 12, ρ 13, ρ 14, ρ 15, ρ 16, ρ 17, ρ 18, ρ 19, ρ 20, ρ 21, ρ 22, ρ 23] := ha
  subst ha
  subst hg
  have hJ : jn77 [ρ 0, ρ 1, ρ 2, ρ 3, ρ 4, ρ 5, ρ 6, ρ 7, ρ 8, ρ 9, ρ 10, ρ 11, ρ 12, ρ 13, ρ 14, ρ 15, ρ 16, ρ 17, ρ 18, ρ 19, ρ 20, ρ 21, ρ 22, ρ 23] (γ 0) 3 [ρ 0, ρ 1, ρ 2, ρ 3, ρ 4, ρ 5, ρ 6, ρ 7, ρ 8, ρ 9, ρ 10, ρ 11, ρ 12, ρ 13, ρ 14, ρ 15, ρ 16, ρ 17, ρ 18, ρ 19, ρ 20, ρ 21, ρ 22, ρ 23, ρ 24, ρ 25, ρ 26, ρ 27, ρ 28, ρ 29, ρ 30, ρ 31, ρ 32, ρ 33, ρ 34, ρ 35, ρ 36, ρ 37, ρ 38, ρ 39, ρ 40, ρ 41, ρ 42, ρ 43, ρ 44, ρ 45, ρ 46, ρ 47, ρ 48] (γ 1) := hJ
  obtain ⟨-, -, -, -, -, -, -, -, -, -, -, -, -, -, -, -, -, -, -, -, -, -, -, -, -, r25, -, -, -, -, -, -, -, -, -, -, -, -, -, -, -, -, -, -, -, -, -, -, -, -, r50, -⟩ := hr
  have r25 : (0 : Int) ≤ ρ 25 ∧ ρ 25 ≤ 20 := r25
  have r50 : (9 : Int) ≤ ρ 50 ∧ ρ 50 ≤ 9 := r50
  obtain ⟨f0, f1, -⟩ := hf
  have f0 : (0 : Int) ≤ ρ 37 + -ρ 25 := f0
  have f1 : (0 : Int) ≤ -ρ 49 + ((-8) * ρ 26 + ρ 24) := f1
  obtain ⟨w_0, w_1, w_2, w_3, w_4, w_5, w_6, w_7, w_8, w_9, w_10, w_11, w_12⟩ : (ρ 24 ≥ ρ 49 + 8 * ρ 26) ∧ (ρ 25 ≤ 20) ∧ (¬ (0 ≤ -ρ 50)) ∧ (¬ (0 ≤ -ρ 50 + 1)) ∧ (¬ (0 ≤ -ρ 50 + 2)) ∧ (¬ (0 ≤ -ρ 50 + 3)) ∧ (¬ (0 ≤ -ρ 50 + 4)) ∧ (¬ (0 ≤ -ρ 50 + 5)) ∧ (¬ (0 ≤ -ρ 50 + 6)) ∧ (¬ (0 ≤ -ρ 50 + 7)) ∧ (¬ (0 ≤ -ρ 50 + 8)) ∧ (0 ≤ -ρ 50 + 9) ∧ (ρ 25 ≤ ρ 37) := ⟨by omega, by omega, by omega, by omega, by omega, by omega, by omega, by omega, by omega, by omega, by omega, by omega, by omega⟩
  obtain ⟨-, -, -, -, -, -, -, -, -, -, -, -, -, -, -, -, -, -, -, -, -, -, -, -, m24, m25, m26, m27, m28, m29, m30, m31, m32, m33, m34, m35, m36, m37, m38, m39, m40, m41, m42, m43, -, m45, m46, -⟩ := hm
  have m24 : γ 1 92 0 0 = ρ 28 := m24
  have m25 : γ 1 92 0 1 = ρ 29 := m25
  have m26 : γ 1 92 0 2 = ρ 30 := m26
  have m27 : γ 1 92 0 3 = ρ 31 := m27
  have m28 : γ 1 92 0 4 = ρ 32 := m28
  have m29 : γ 1 92 0 5 = ρ 33 := m29
  have m30 : γ 1 92 0 6 = ρ 34 := m30
  have m31 : γ 1 92 0 7 = ρ 35 := m31
  have m32 : γ 1 92 0 8 = ρ 36 := m32
  have m33 : γ 1 92 0 9 = ρ 37 := m33
  have m34 : γ 1 92 0 10 = ρ 38 := m34
  have m35 : γ 1 92 0 11 = ρ 39 := m35
  have m36 : γ 1 92 0 12 = ρ 40 := m36
  have m37 : γ 1 92 0 13 = ρ 41 := m37
  have m38 : γ 1 92 0 14 = ρ 42 := m38
  have m39 : γ 1 92 0 15 = ρ 43 := m39
  have m40 : γ 1 92 0 16 = ρ 44 := m40
  have m41 : γ 1 92 0 17 = ρ 45 := m41
  have m42 : γ 1 92 0 18 = ρ 46 := m42
  have m43 : γ 1 92 0 19 = ρ 47 := m43
  have m45 : γ 0 73 0 (ρ 26) = ρ 49 := m45
  have m46 : γ 0 69 0 (ρ 26) = ρ 50 := m46
  show jn77 [ρ 0, ρ 1, ρ 2, ρ 3, ρ 4, ρ 5, ρ 6, ρ 7, ρ 8, ρ 9, ρ 10, ρ 11, ρ 12, ρ 13, ρ 14, ρ 15, ρ 16, ρ 17, ρ 18, ρ 19, ρ 20, ρ 21, ρ 22, ρ 23] (γ 0) 2 [ρ 0, ρ 1, ρ 2, ρ 3, ρ 4, ρ 5, ρ 6, ρ 7, ρ 8, ρ 9, ρ 10, ρ 11, ρ 12, ρ 13, ρ 14, ρ 15, ρ 16, ρ 17, ρ 18, ρ 19, ρ 20, ρ 21, ρ 22, ρ 23, ρ 26 + 1, ρ 27, ρ 28, ρ 29, ρ 30, ρ 31, ρ 32, ρ 33, ρ 34, ρ 35, ρ 36, ρ 37, ρ 38, ρ 39, ρ 40, ρ 41, ρ 42, ρ 43, ρ 44, ρ 45, ρ 46, ρ 47, ρ 48] (γ 1)
  have hD : en77 (γ 0) (3, [ρ 24, ρ 25, ρ 26, ρ 27], γ 1) = .inl (2, [ρ 26 + 1, ρ 27], γ 1) := by
    unfold en77
    refine (if_neg (show ¬ (3 : Nat) = 0 by decide)).trans ?_
    refine (if_neg (show ¬ (3 : Nat) = 1 by decide)).trans ?_
    refine (if_neg (show ¬ (3 : Nat) = 2 by decide)).trans ?_
    refine (if_pos (show (3 : Nat) = 3 by decide)).trans ?_
    refine (zLet_eq (show _ = γ 1 from rfl)).trans ?_
    refine (zLet_eq (show _ = ρ 24 from rfl)).trans ?_
    refine (zLet_eq (show _ = ρ 25 from rfl)).trans ?_
    refine (zLet_eq (show _ = ρ 26 from rfl)).trans ?_
    refine (zLet_eq (show _ = ρ 27 from rfl)).trans ?_
    refine (zLet_eq m24).trans ?_
    refine (zLet_eq m25).trans ?_
    refine (zLet_eq m26).trans ?_
    refine (zLet_eq m27).trans ?_
    refine (zLet_eq m28).trans ?_
    refine (zLet_eq m29).trans ?_
    refine (zLet_eq m30).trans ?_
    refine (zLet_eq m31).trans ?_
    refine (zLet_eq m32).trans ?_
    refine (zLet_eq m33).trans ?_
    refine (zLet_eq m34).trans ?_
    refine (zLet_eq m35).trans ?_
    refine (zLet_eq m36).trans ?_
    refine (zLet_eq m37).trans ?_
    refine (zLet_eq m38).trans ?_
    refine (zLet_eq m39).trans ?_
    refine (zLet_eq m40).trans ?_
    refine (zLet_eq m41).trans ?_
    refine (zLet_eq m42).trans ?_
    refine (zLet_eq m43).trans ?_
    refine (zLet_eq m45).trans ?_
    refine (if_pos w_0).trans ?_
    refine (if_pos w_1).trans ?_
    refine (zLet_eq m46).trans ?_
    refine (if_neg w_2).trans ?_
    refine (if_neg w_3).trans ?_
    refine (if_neg w_4).trans ?_
    refine (if_neg w_5).trans ?_
    refine (if_neg w_6).trans ?_
    refine (if_neg w_7).trans ?_
    refine (if_neg w_8).trans ?_
    refine (if_neg w_9).trans ?_
    refine (if_neg w_10).trans ?_
    refine (if_pos w_11).trans ?_
    refine (if_pos w_12).trans ?_
    rfl
  exact zGoo_ato hJ hD
theorem vn77a3_19 {S : Nat → zSpc}  {a : List Int} {g : rHp} : ∀ (ρ : Nat → Int) (γ : Nat → rHp), jn77 a g 3 (zAg (zNA a77_ 3) ρ) (γ 1) → zO 24 S a g q77a3_19 ρ γ → zGl (fun i vs g1 => jn77 a g i vs g1) (sn77 a g) q77a3_19 ρ γ := by
  intro ρ γ hJ h
  obtain ⟨ha, hg, hr, hf, hm, hc, hl⟩ := h
  have ha : a = [ρ 0, ρ 1, ρ 2, ρ 3, ρ 4, ρ 5, ρ 6, ρ 7, ρ 8, ρ 9, ρ 10, ρ 11, ρ 12, ρ 13, ρ 14, ρ 15, ρ 16, ρ 17, ρ 18, ρ 19, ρ 20, ρ 21, ρ 22, ρ 23] := ha
  subst ha
  subst hg
  have hJ : jn77 [ρ 0, ρ 1, ρ 2, ρ 3, ρ 4, ρ 5, ρ 6, ρ 7, ρ 8, ρ 9, ρ 10, ρ 11, ρ 12, ρ 13, ρ 14, ρ 15, ρ 16, ρ 17, ρ 18, ρ 19, ρ 20, ρ 21, ρ 22, ρ 23] (γ 0) 3 [ρ 0, ρ 1, ρ 2, ρ 3, ρ 4, ρ 5, ρ 6, ρ 7, ρ 8, ρ 9, ρ 10, ρ 11, ρ 12, ρ 13, ρ 14, ρ 15, ρ 16, ρ 17, ρ 18, ρ 19, ρ 20, ρ 21, ρ 22, ρ 23, ρ 24, ρ 25, ρ 26, ρ 27, ρ 28, ρ 29, ρ 30, ρ 31, ρ 32, ρ 33, ρ 34, ρ 35, ρ 36, ρ 37, ρ 38, ρ 39, ρ 40, ρ 41, ρ 42, ρ 43, ρ 44, ρ 45, ρ 46, ρ 47, ρ 48] (γ 1) := hJ
  obtain ⟨-, -, -, -, -, -, -, -, -, -, -, -, -, -, -, -, -, -, -, -, -, -, -, -, -, r25, -, -, -, -, -, -, -, -, -, -, -, -, -, -, -, -, -, -, -, -, -, -, -, -, r50, -⟩ := hr
  have r25 : (0 : Int) ≤ ρ 25 ∧ ρ 25 ≤ 20 := r25
  have r50 : (9 : Int) ≤ ρ 50 ∧ ρ 50 ≤ 9 := r50
  obtain ⟨f0, f1, -⟩ := hf
  have f0 : (0 : Int) ≤ -ρ 37 + ρ 25 + (-1) := f0
  have f1 : (0 : Int) ≤ -ρ 49 + ((-8) * ρ 26 + ρ 24) := f1
  obtain ⟨w_0, w_1, w_2, w_3, w_4, w_5, w_6, w_7, w_8, w_9, w_10, w_11, w_12⟩ : (ρ 24 ≥ ρ 49 + 8 * ρ 26) ∧ (ρ 25 ≤ 20) ∧ (¬ (0 ≤ -ρ 50)) ∧ (¬ (0 ≤ -ρ 50 + 1)) ∧ (¬ (0 ≤ -ρ 50 + 2)) ∧ (¬ (0 ≤ -ρ 50 + 3)) ∧ (¬ (0 ≤ -ρ 50 + 4)) ∧ (¬ (0 ≤ -ρ 50 + 5)) ∧ (¬ (0 ≤ -ρ 50 + 6)) ∧ (¬ (0 ≤ -ρ 50 + 7)) ∧ (¬ (0 ≤ -ρ 50 + 8)) ∧ (0 ≤ -ρ 50 + 9) ∧ (¬ (ρ 25 ≤ ρ 37)) := ⟨by omega, by omega, by omega, by omega, by omega, by omega, by omega, by omega, by omega, by omega, by omega, by omega, by omega⟩
  obtain ⟨-, -, -, -, -, -, -, -, -, -, -, -, -, -, -, -, -, -, -, -, -, -, -, -, m24, m25, m26, m27, m28, m29, m30, m31, m32, m33, m34, m35, m36, m37, m38, m39, m40, m41, m42, m43, -, m45, m46, -⟩ := hm
  have m24 : γ 1 92 0 0 = ρ 28 := m24
  have m25 : γ 1 92 0 1 = ρ 29 := m25
  have m26 : γ 1 92 0 2 = ρ 30 := m26
  have m27 : γ 1 92 0 3 = ρ 31 := m27
  have m28 : γ 1 92 0 4 = ρ 32 := m28
  have m29 : γ 1 92 0 5 = ρ 33 := m29
  have m30 : γ 1 92 0 6 = ρ 34 := m30
  have m31 : γ 1 92 0 7 = ρ 35 := m31
  have m32 : γ 1 92 0 8 = ρ 36 := m32
  have m33 : γ 1 92 0 9 = ρ 37 := m33
  have m34 : γ 1 92 0 10 = ρ 38 := m34
  have m35 : γ 1 92 0 11 = ρ 39 := m35
  have m36 : γ 1 92 0 12 = ρ 40 := m36
  have m37 : γ 1 92 0 13 = ρ 41 := m37
  have m38 : γ 1 92 0 14 = ρ 42 := m38
  have m39 : γ 1 92 0 15 = ρ 43 := m39
  have m40 : γ 1 92 0 16 = ρ 44 := m40
  have m41 : γ 1 92 0 17 = ρ 45 := m41
  have m42 : γ 1 92 0 18 = ρ 46 := m42
  have m43 : γ 1 92 0 19 = ρ 47 := m43
  have m45 : γ 0 73 0 (ρ 26) = ρ 49 := m45
  have m46 : γ 0 69 0 (ρ 26) = ρ 50 := m46
  obtain ⟨-, c2⟩ := hc
  have c2 : γ 2 = rUp (γ 1) 92 0 (ρ 50) (ρ 25) := c2
  show jn77 [ρ 0, ρ 1, ρ 2, ρ 3, ρ 4, ρ 5, ρ 6, ρ 7, ρ 8, ρ 9, ρ 10, ρ 11, ρ 12, ρ 13, ρ 14, ρ 15, ρ 16, ρ 17, ρ 18, ρ 19, ρ 20, ρ 21, ρ 22, ρ 23] (γ 0) 2 [ρ 0, ρ 1, ρ 2, ρ 3, ρ 4, ρ 5, ρ 6, ρ 7, ρ 8, ρ 9, ρ 10, ρ 11, ρ 12, ρ 13, ρ 14, ρ 15, ρ 16, ρ 17, ρ 18, ρ 19, ρ 20, ρ 21, ρ 22, ρ 23, ρ 26 + 1, 1, ρ 28, ρ 29, ρ 30, ρ 31, ρ 32, ρ 33, ρ 34, ρ 35, ρ 36, ρ 25, ρ 38, ρ 39, ρ 40, ρ 41, ρ 42, ρ 43, ρ 44, ρ 45, ρ 46, ρ 47, ρ 48] (γ 2)
  have hD : en77 (γ 0) (3, [ρ 24, ρ 25, ρ 26, ρ 27], γ 1) = .inl (2, [ρ 26 + 1, 1], γ 2) := by
    unfold en77
    refine (if_neg (show ¬ (3 : Nat) = 0 by decide)).trans ?_
    refine (if_neg (show ¬ (3 : Nat) = 1 by decide)).trans ?_
    refine (if_neg (show ¬ (3 : Nat) = 2 by decide)).trans ?_
    refine (if_pos (show (3 : Nat) = 3 by decide)).trans ?_
    refine (zLet_eq (show _ = γ 1 from rfl)).trans ?_
    refine (zLet_eq (show _ = ρ 24 from rfl)).trans ?_
    refine (zLet_eq (show _ = ρ 25 from rfl)).trans ?_
    refine (zLet_eq (show _ = ρ 26 from rfl)).trans ?_
    refine (zLet_eq (show _ = ρ 27 from rfl)).trans ?_
    refine (zLet_eq m24).trans ?_
    refine (zLet_eq m25).trans ?_
    refine (zLet_eq m26).trans ?_
    refine (zLet_eq m27).trans ?_
    refine (zLet_eq m28).trans ?_
    refine (zLet_eq m29).trans ?_
    refine (zLet_eq m30).trans ?_
    refine (zLet_eq m31).trans ?_
    refine (zLet_eq m32).trans ?_
    refine (zLet_eq m33).trans ?_
    refine (zLet_eq m34).trans ?_
    refine (zLet_eq m35).trans ?_
    refine (zLet_eq m36).trans ?_
    refine (zLet_eq m37).trans ?_
    refine (zLet_eq m38).trans ?_
    refine (zLet_eq m39).trans ?_
    refine (zLet_eq m40).trans ?_
    refine (zLet_eq m41).trans ?_
    refine (zLet_eq m42).trans ?_
    refine (zLet_eq m43).trans ?_
    refine (zLet_eq m45).trans ?_
    refine (if_pos w_0).trans ?_
    refine (if_pos w_1).trans ?_
    refine (zLet_eq m46).trans ?_
    refine (if_neg w_2).trans ?_
    refine (if_neg w_3).trans ?_
    refine (if_neg w_4).trans ?_
    refine (if_neg w_5).trans ?_
    refine (if_neg w_6).trans ?_
    refine (if_neg w_7).trans ?_
    refine (if_neg w_8).trans ?_
    refine (if_neg w_9).trans ?_
    refine (if_neg w_10).trans ?_
    refine (if_pos w_11).trans ?_
    refine (if_neg w_12).trans ?_
    refine (zLet_eq c2.symm).trans ?_
    rfl
  exact zGoo_ato hJ hD
theorem vn77a3_20 {S : Nat → zSpc}  {a : List Int} {g : rHp} : ∀ (ρ : Nat → Int) (γ : Nat → rHp), jn77 a g 3 (zAg (zNA a77_ 3) ρ) (γ 1) → zO 24 S a g q77a3_20 ρ γ → zGl (fun i vs g1 => jn77 a g i vs g1) (sn77 a g) q77a3_20 ρ γ := by
  intro ρ γ hJ h
  obtain ⟨ha, hg, hr, hf, hm, hc, hl⟩ := h
  have ha : a = [ρ 0, ρ 1, ρ 2, ρ 3, ρ 4, ρ 5, ρ 6, ρ 7, ρ 8, ρ 9, ρ 10, ρ 11, ρ 12, ρ 13, ρ 14, ρ 15, ρ 16, ρ 17, ρ 18, ρ 19, ρ 20, ρ 21, ρ 22, ρ 23] := ha
  subst ha
  subst hg
  have hJ : jn77 [ρ 0, ρ 1, ρ 2, ρ 3, ρ 4, ρ 5, ρ 6, ρ 7, ρ 8, ρ 9, ρ 10, ρ 11, ρ 12, ρ 13, ρ 14, ρ 15, ρ 16, ρ 17, ρ 18, ρ 19, ρ 20, ρ 21, ρ 22, ρ 23] (γ 0) 3 [ρ 0, ρ 1, ρ 2, ρ 3, ρ 4, ρ 5, ρ 6, ρ 7, ρ 8, ρ 9, ρ 10, ρ 11, ρ 12, ρ 13, ρ 14, ρ 15, ρ 16, ρ 17, ρ 18, ρ 19, ρ 20, ρ 21, ρ 22, ρ 23, ρ 24, ρ 25, ρ 26, ρ 27, ρ 28, ρ 29, ρ 30, ρ 31, ρ 32, ρ 33, ρ 34, ρ 35, ρ 36, ρ 37, ρ 38, ρ 39, ρ 40, ρ 41, ρ 42, ρ 43, ρ 44, ρ 45, ρ 46, ρ 47, ρ 48] (γ 1) := hJ
  obtain ⟨-, -, -, -, -, -, -, -, -, -, -, -, -, -, -, -, -, -, -, -, -, -, -, -, -, r25, -, -, -, -, -, -, -, -, -, -, -, -, -, -, -, -, -, -, -, -, -, -, -, -, r50, -⟩ := hr
  have r25 : (0 : Int) ≤ ρ 25 ∧ ρ 25 ≤ 20 := r25
  have r50 : (10 : Int) ≤ ρ 50 ∧ ρ 50 ≤ 10 := r50
  obtain ⟨f0, f1, -⟩ := hf
  have f0 : (0 : Int) ≤ ρ 38 + -ρ 25 := f0
  have f1 : (0 : Int) ≤ -ρ 49 + ((-8) * ρ 26 + ρ 24) := f1
  obtain ⟨w_0, w_1, w_2, w_3, w_4, w_5, w_6, w_7, w_8, w_9, w_10, w_11, w_12, w_13⟩ : (ρ 24 ≥ ρ 49 + 8 * ρ 26) ∧ (ρ 25 ≤ 20) ∧ (¬ (0 ≤ -ρ 50)) ∧ (¬ (0 ≤ -ρ 50 + 1)) ∧ (¬ (0 ≤ -ρ 50 + 2)) ∧ (¬ (0 ≤ -ρ 50 + 3)) ∧ (¬ (0 ≤ -ρ 50 + 4)) ∧ (¬ (0 ≤ -ρ 50 + 5)) ∧ (¬ (0 ≤ -ρ 50 + 6)) ∧ (¬ (0 ≤ -ρ 50 + 7)) ∧ (¬ (0 ≤ -ρ 50 + 8)) ∧ (¬ (0 ≤ -ρ 50 + 9)) ∧ (0 ≤ -ρ 50 + 10) ∧ (ρ 25 ≤ ρ 38) := ⟨by omega, by omega, by omega, by omega, by omega, by omega, by omega, by omega, by omega, by omega, by omega, by omega, by omega, by omega⟩
  obtain ⟨-, -, -, -, -, -, -, -, -, -, -, -, -, -, -, -, -, -, -, -, -, -, -, -, m24, m25, m26, m27, m28, m29, m30, m31, m32, m33, m34, m35, m36, m37, m38, m39, m40, m41, m42, m43, -, m45, m46, -⟩ := hm
  have m24 : γ 1 92 0 0 = ρ 28 := m24
  have m25 : γ 1 92 0 1 = ρ 29 := m25
  have m26 : γ 1 92 0 2 = ρ 30 := m26
  have m27 : γ 1 92 0 3 = ρ 31 := m27
  have m28 : γ 1 92 0 4 = ρ 32 := m28
  have m29 : γ 1 92 0 5 = ρ 33 := m29
  have m30 : γ 1 92 0 6 = ρ 34 := m30
  have m31 : γ 1 92 0 7 = ρ 35 := m31
  have m32 : γ 1 92 0 8 = ρ 36 := m32
  have m33 : γ 1 92 0 9 = ρ 37 := m33
  have m34 : γ 1 92 0 10 = ρ 38 := m34
  have m35 : γ 1 92 0 11 = ρ 39 := m35
  have m36 : γ 1 92 0 12 = ρ 40 := m36
  have m37 : γ 1 92 0 13 = ρ 41 := m37
  have m38 : γ 1 92 0 14 = ρ 42 := m38
  have m39 : γ 1 92 0 15 = ρ 43 := m39
  have m40 : γ 1 92 0 16 = ρ 44 := m40
  have m41 : γ 1 92 0 17 = ρ 45 := m41
  have m42 : γ 1 92 0 18 = ρ 46 := m42
  have m43 : γ 1 92 0 19 = ρ 47 := m43
  have m45 : γ 0 73 0 (ρ 26) = ρ 49 := m45
  have m46 : γ 0 69 0 (ρ 26) = ρ 50 := m46
  show jn77 [ρ 0, ρ 1, ρ 2, ρ 3, ρ 4, ρ 5, ρ 6, ρ 7, ρ 8, ρ 9, ρ 10, ρ 11, ρ 12, ρ 13, ρ 14, ρ 15, ρ 16, ρ 17, ρ 18, ρ 19, ρ 20, ρ 21, ρ 22, ρ 23] (γ 0) 2 [ρ 0, ρ 1, ρ 2, ρ 3, ρ 4, ρ 5, ρ 6, ρ 7, ρ 8, ρ 9, ρ 10, ρ 11, ρ 12, ρ 13, ρ 14, ρ 15, ρ 16, ρ 17, ρ 18, ρ 19, ρ 20, ρ 21, ρ 22, ρ 23, ρ 26 + 1, ρ 27, ρ 28, ρ 29, ρ 30, ρ 31, ρ 32, ρ 33, ρ 34, ρ 35, ρ 36, ρ 37, ρ 38, ρ 39, ρ 40, ρ 41, ρ 42, ρ 43, ρ 44, ρ 45, ρ 46, ρ 47, ρ 48] (γ 1)
  have hD : en77 (γ 0) (3, [ρ 24, ρ 25, ρ 26, ρ 27], γ 1) = .inl (2, [ρ 26 + 1, ρ 27], γ 1) := by
    unfold en77
    refine (if_neg (show ¬ (3 : Nat) = 0 by decide)).trans ?_
    refine (if_neg (show ¬ (3 : Nat) = 1 by decide)).trans ?_
    refine (if_neg (show ¬ (3 : Nat) = 2 by decide)).trans ?_
    refine (if_pos (show (3 : Nat) = 3 by decide)).trans ?_
    refine (zLet_eq (show _ = γ 1 from rfl)).trans ?_
    refine (zLet_eq (show _ = ρ 24 from rfl)).trans ?_
    refine (zLet_eq (show _ = ρ 25 from rfl)).trans ?_
    refine (zLet_eq (show _ = ρ 26 from rfl)).trans ?_
    refine (zLet_eq (show _ = ρ 27 from rfl)).trans ?_
    refine (zLet_eq m24).trans ?_
    refine (zLet_eq m25).trans ?_
    refine (zLet_eq m26).trans ?_
    refine (zLet_eq m27).trans ?_
    refine (zLet_eq m28).trans ?_
    refine (zLet_eq m29).trans ?_
    refine (zLet_eq m30).trans ?_
    refine (zLet_eq m31).trans ?_
    refine (zLet_eq m32).trans ?_
    refine (zLet_eq m33).trans ?_
    refine (zLet_eq m34).trans ?_
    refine (zLet_eq m35).trans ?_
    refine (zLet_eq m36).trans ?_
    refine (zLet_eq m37).trans ?_
    refine (zLet_eq m38).trans ?_
    refine (zLet_eq m39).trans ?_
    refine (zLet_eq m40).trans ?_
    refine (zLet_eq m41).trans ?_
    refine (zLet_eq m42).trans ?_
    refine (zLet_eq m43).trans ?_
    refine (zLet_eq m45).trans ?_
    refine (if_pos w_0).trans ?_
    refine (if_pos w_1).trans ?_
    refine (zLet_eq m46).trans ?_
    refine (if_neg w_2).trans ?_
    refine (if_neg w_3).trans ?_
    refine (if_neg w_4).trans ?_
    refine (if_neg w_5).trans ?_
    refine (if_neg w_6).trans ?_
    refine (if_neg w_7).trans ?_
    refine (if_neg w_8).trans ?_
    refine (if_neg w_9).trans ?_
    refine (if_neg w_10).trans ?_
    refine (if_neg w_11).trans ?_
    refine (if_pos w_12).trans ?_
    refine (if_pos w_13).trans ?_
    rfl
  exact zGoo_ato hJ hD
theorem vn77a3_21 {S : Nat → zSpc}  {a : List Int} {g : rHp} : ∀ (ρ : Nat → Int) (γ : Nat → rHp), jn77 a g 3 (zAg (zNA a77_ 3) ρ) (γ 1) → zO 24 S a g q77a3_21 ρ γ → zGl (fun i vs g1 => jn77 a g i vs g1) (sn77 a g) q77a3_21 ρ γ := by
  intro ρ γ hJ h
  obtain ⟨ha, hg, hr, hf, hm, hc, hl⟩ := h
  have ha : a = [ρ 0, ρ 1, ρ 2, ρ 3, ρ 4, ρ 5, ρ 6, ρ 7, ρ 8, ρ 9, ρ 10, ρ 11, ρ 12, ρ 13, ρ 14, ρ 15, ρ 16, ρ 17, ρ 18, ρ 19, ρ 20, ρ 21, ρ 22, ρ 23] := ha
  subst ha
  subst hg
  have hJ : jn77 [ρ 0, ρ 1, ρ 2, ρ 3, ρ 4, ρ 5, ρ 6, ρ 7, ρ 8, ρ 9, ρ 10, ρ 11, ρ 12, ρ 13, ρ 14, ρ 15, ρ 16, ρ 17, ρ 18, ρ 19, ρ 20, ρ 21, ρ 22, ρ 23] (γ 0) 3 [ρ 0, ρ 1, ρ 2, ρ 3, ρ 4, ρ 5, ρ 6, ρ 7, ρ 8, ρ 9, ρ 10, ρ 11, ρ 12, ρ 13, ρ 14, ρ 15, ρ 16, ρ 17, ρ 18, ρ 19, ρ 20, ρ 21, ρ 22, ρ 23, ρ 24, ρ 25, ρ 26, ρ 27, ρ 28, ρ 29, ρ 30, ρ 31, ρ 32, ρ 33, ρ 34, ρ 35, ρ 36, ρ 37, ρ 38, ρ 39, ρ 40, ρ 41, ρ 42, ρ 43, ρ 44, ρ 45, ρ 46, ρ 47, ρ 48] (γ 1) := hJ
  obtain ⟨-, -, -, -, -, -, -, -, -, -, -, -, -, -, -, -, -, -, -, -, -, -, -, -, -, r25, -, -, -, -, -, -, -, -, -, -, -, -, -, -, -, -, -, -, -, -, -, -, -, -, r50, -⟩ := hr
  have r25 : (0 : Int) ≤ ρ 25 ∧ ρ 25 ≤ 20 := r25
  have r50 : (10 : Int) ≤ ρ 50 ∧ ρ 50 ≤ 10 := r50
  obtain ⟨f0, f1, -⟩ := hf
  have f0 : (0 : Int) ≤ -ρ 38 + ρ 25 + (-1) := f0
  have f1 : (0 : Int) ≤ -ρ 49 + ((-8) * ρ 26 + ρ 24) := f1
  obtain ⟨w_0, w_1, w_2, w_3, w_4, w_5, w_6, w_7, w_8, w_9, w_10, w_11, w_12, w_13⟩ : (ρ 24 ≥ ρ 49 + 8 * ρ 26) ∧ (ρ 25 ≤ 20) ∧ (¬ (0 ≤ -ρ 50)) ∧ (¬ (0 ≤ -ρ 50 + 1)) ∧ (¬ (0 ≤ -ρ 50 + 2)) ∧ (¬ (0 ≤ -ρ 50 + 3)) ∧ (¬ (0 ≤ -ρ 50 + 4)) ∧ (¬ (0 ≤ -ρ 50 + 5)) ∧ (¬ (0 ≤ -ρ 50 + 6)) ∧ (¬ (0 ≤ -ρ 50 + 7)) ∧ (¬ (0 ≤ -ρ 50 + 8)) ∧ (¬ (0 ≤ -ρ 50 + 9)) ∧ (0 ≤ -ρ 50 + 10) ∧ (¬ (ρ 25 ≤ ρ 38)) := ⟨by omega, by omega, by omega, by omega, by omega, by omega, by omega, by omega, by omega, by omega, by omega, by omega, by omega, by omega⟩
  obtain ⟨-, -, -, -, -, -, -, -, -, -, -, -, -, -, -, -, -, -, -, -, -, -, -, -, m24, m25, m26, m27, m28, m29, m30, m31, m32, m33, m34, m35, m36, m37, m38, m39, m40, m41, m42, m43, -, m45, m46, -⟩ := hm
  have m24 : γ 1 92 0 0 = ρ 28 := m24
  have m25 : γ 1 92 0 1 = ρ 29 := m25
  have m26 : γ 1 92 0 2 = ρ 30 := m26
  have m27 : γ 1 92 0 3 = ρ 31 := m27
  have m28 : γ 1 92 0 4 = ρ 32 := m28
  have m29 : γ 1 92 0 5 = ρ 33 := m29
  have m30 : γ 1 92 0 6 = ρ 34 := m30
  have m31 : γ 1 92 0 7 = ρ 35 := m31
  have m32 : γ 1 92 0 8 = ρ 36 := m32
  have m33 : γ 1 92 0 9 = ρ 37 := m33
  have m34 : γ 1 92 0 10 = ρ 38 := m34
  have m35 : γ 1 92 0 11 = ρ 39 := m35
  have m36 : γ 1 92 0 12 = ρ 40 := m36
  have m37 : γ 1 92 0 13 = ρ 41 := m37
  have m38 : γ 1 92 0 14 = ρ 42 := m38
  have m39 : γ 1 92 0 15 = ρ 43 := m39
  have m40 : γ 1 92 0 16 = ρ 44 := m40
  have m41 : γ 1 92 0 17 = ρ 45 := m41
  have m42 : γ 1 92 0 18 = ρ 46 := m42
  have m43 : γ 1 92 0 19 = ρ 47 := m43
  have m45 : γ 0 73 0 (ρ 26) = ρ 49 := m45
  have m46 : γ 0 69 0 (ρ 26) = ρ 50 := m46
  obtain ⟨-, c2⟩ := hc
  have c2 : γ 2 = rUp (γ 1) 92 0 (ρ 50) (ρ 25) := c2
  show jn77 [ρ 0, ρ 1, ρ 2, ρ 3, ρ 4, ρ 5, ρ 6, ρ 7, ρ 8, ρ 9, ρ 10, ρ 11, ρ 12, ρ 13, ρ 14, ρ 15, ρ 16, ρ 17, ρ 18, ρ 19, ρ 20, ρ 21, ρ 22, ρ 23] (γ 0) 2 [ρ 0, ρ 1, ρ 2, ρ 3, ρ 4, ρ 5, ρ 6, ρ 7, ρ 8, ρ 9, ρ 10, ρ 11, ρ 12, ρ 13, ρ 14, ρ 15, ρ 16, ρ 17, ρ 18, ρ 19, ρ 20, ρ 21, ρ 22, ρ 23, ρ 26 + 1, 1, ρ 28, ρ 29, ρ 30, ρ 31, ρ 32, ρ 33, ρ 34, ρ 35, ρ 36, ρ 37, ρ 25, ρ 39, ρ 40, ρ 41, ρ 42, ρ 43, ρ 44, ρ 45, ρ 46, ρ 47, ρ 48] (γ 2)
  have hD : en77 (γ 0) (3, [ρ 24, ρ 25, ρ 26, ρ 27], γ 1) = .inl (2, [ρ 26 + 1, 1], γ 2) := by
    unfold en77
    refine (if_neg (show ¬ (3 : Nat) = 0 by decide)).trans ?_
    refine (if_neg (show ¬ (3 : Nat) = 1 by decide)).trans ?_
    refine (if_neg (show ¬ (3 : Nat) = 2 by decide)).trans ?_
    refine (if_pos (show (3 : Nat) = 3 by decide)).trans ?_
    refine (zLet_eq (show _ = γ 1 from rfl)).trans ?_
    refine (zLet_eq (show _ = ρ 24 from rfl)).trans ?_
    refine (zLet_eq (show _ = ρ 25 from rfl)).trans ?_
    refine (zLet_eq (show _ = ρ 26 from rfl)).trans ?_
    refine (zLet_eq (show _ = ρ 27 from rfl)).trans ?_
    refine (zLet_eq m24).trans ?_
    refine (zLet_eq m25).trans ?_
    refine (zLet_eq m26).trans ?_
    refine (zLet_eq m27).trans ?_
    refine (zLet_eq m28).trans ?_
    refine (zLet_eq m29).trans ?_
    refine (zLet_eq m30).trans ?_
    refine (zLet_eq m31).trans ?_
    refine (zLet_eq m32).trans ?_
    refine (zLet_eq m33).trans ?_
    refine (zLet_eq m34).trans ?_
    refine (zLet_eq m35).trans ?_
    refine (zLet_eq m36).trans ?_
    refine (zLet_eq m37).trans ?_
    refine (zLet_eq m38).trans ?_
    refine (zLet_eq m39).trans ?_
    refine (zLet_eq m40).trans ?_
    refine (zLet_eq m41).trans ?_
    refine (zLet_eq m42).trans ?_
    refine (zLet_eq m43).trans ?_
    refine (zLet_eq m45).trans ?_
    refine (if_pos w_0).trans ?_
    refine (if_pos w_1).trans ?_
    refine (zLet_eq m46).trans ?_
    refine (if_neg w_2).trans ?_
    refine (if_neg w_3).trans ?_
    refine (if_neg w_4).trans ?_
    refine (if_neg w_5).trans ?_
    refine (if_neg w_6).trans ?_
    refine (if_neg w_7).trans ?_
    refine (if_neg w_8).trans ?_
    refine (if_neg w_9).trans ?_
    refine (if_neg w_10).trans ?_
    refine (if_neg w_11).trans ?_
    refine (if_pos w_12).trans ?_
    refine (if_neg w_13).trans ?_
    refine (zLet_eq c2.symm).trans ?_
    rfl
  exact zGoo_ato hJ hD
theorem vn77a3_22 {S : Nat → zSpc}  {a : List Int} {g : rHp} : ∀ (ρ : Nat → Int) (γ : Nat → rHp), jn77 a g 3 (zAg (zNA a77_ 3) ρ) (γ 1) → zO 24 S a g q77a3_22 ρ γ → zGl (fun i vs g1 => jn77 a g i vs g1) (sn77 a g) q77a3_22 ρ γ := by
  intro ρ γ hJ h
  obtain ⟨ha, hg, hr, hf, hm, hc, hl⟩ := h
  have ha : a = [ρ 0, ρ 1, ρ 2, ρ 3, ρ 4, ρ 5, ρ 6, ρ 7, ρ 8, ρ 9, ρ 10, ρ 11, ρ 12, ρ 13, ρ 14, ρ 15, ρ 16, ρ 17, ρ 18, ρ 19, ρ 20, ρ 21, ρ 22, ρ 23] := ha
  subst ha
  subst hg
  have hJ : jn77 [ρ 0, ρ 1, ρ 2, ρ 3, ρ 4, ρ 5, ρ 6, ρ 7, ρ 8, ρ 9, ρ 10, ρ 11, ρ 12, ρ 13, ρ 14, ρ 15, ρ 16, ρ 17, ρ 18, ρ 19, ρ 20, ρ 21, ρ 22, ρ 23] (γ 0) 3 [ρ 0, ρ 1, ρ 2, ρ 3, ρ 4, ρ 5, ρ 6, ρ 7, ρ 8, ρ 9, ρ 10, ρ 11, ρ 12, ρ 13, ρ 14, ρ 15, ρ 16, ρ 17, ρ 18, ρ 19, ρ 20, ρ 21, ρ 22, ρ 23, ρ 24, ρ 25, ρ 26, ρ 27, ρ 28, ρ 29, ρ 30, ρ 31, ρ 32, ρ 33, ρ 34, ρ 35, ρ 36, ρ 37, ρ 38, ρ 39, ρ 40, ρ 41, ρ 42, ρ 43, ρ 44, ρ 45, ρ 46, ρ 47, ρ 48] (γ 1) := hJ
  obtain ⟨-, -, -, -, -, -, -, -, -, -, -, -, -, -, -, -, -, -, -, -, -, -, -, -, -, r25, -, -, -, -, -, -, -, -, -, -, -, -, -, -, -, -, -, -, -, -, -, -, -, -, r50, -⟩ := hr
  have r25 : (0 : Int) ≤ ρ 25 ∧ ρ 25 ≤ 20 := r25
  have r50 : (11 : Int) ≤ ρ 50 ∧ ρ 50 ≤ 11 := r50
  obtain ⟨f0, f1, -⟩ := hf
  have f0 : (0 : Int) ≤ ρ 39 + -ρ 25 := f0
  have f1 : (0 : Int) ≤ -ρ 49 + ((-8) * ρ 26 + ρ 24) := f1
  obtain ⟨w_0, w_1, w_2, w_3, w_4, w_5, w_6, w_7, w_8, w_9, w_10, w_11, w_12, w_13, w_14⟩ : (ρ 24 ≥ ρ 49 + 8 * ρ 26) ∧ (ρ 25 ≤ 20) ∧ (¬ (0 ≤ -ρ 50)) ∧ (¬ (0 ≤ -ρ 50 + 1)) ∧ (¬ (0 ≤ -ρ 50 + 2)) ∧ (¬ (0 ≤ -ρ 50 + 3)) ∧ (¬ (0 ≤ -ρ 50 + 4)) ∧ (¬ (0 ≤ -ρ 50 + 5)) ∧ (¬ (0 ≤ -ρ 50 + 6)) ∧ (¬ (0 ≤ -ρ 50 + 7)) ∧ (¬ (0 ≤ -ρ 50 + 8)) ∧ (¬ (0 ≤ -ρ 50 + 9)) ∧ (¬ (0 ≤ -ρ 50 + 10)) ∧ (0 ≤ -ρ 50 + 11) ∧ (ρ 25 ≤ ρ 39) := ⟨by omega, by omega, by omega, by omega, by omega, by omega, by omega, by omega, by omega, by omega, by omega, by omega, by omega, by omega, by omega⟩
  obtain ⟨-, -, -, -, -, -, -, -, -, -, -, -, -, -, -, -, -, -, -, -, -, -, -, -, m24, m25, m26, m27, m28, m29, m30, m31, m32, m33, m34, m35, m36, m37, m38, m39, m40, m41, m42, m43, -, m45, m46, -⟩ := hm
  have m24 : γ 1 92 0 0 = ρ 28 := m24
  have m25 : γ 1 92 0 1 = ρ 29 := m25
  have m26 : γ 1 92 0 2 = ρ 30 := m26
  have m27 : γ 1 92 0 3 = ρ 31 := m27
  have m28 : γ 1 92 0 4 = ρ 32 := m28
  have m29 : γ 1 92 0 5 = ρ 33 := m29
  have m30 : γ 1 92 0 6 = ρ 34 := m30
  have m31 : γ 1 92 0 7 = ρ 35 := m31
  have m32 : γ 1 92 0 8 = ρ 36 := m32
  have m33 : γ 1 92 0 9 = ρ 37 := m33
  have m34 : γ 1 92 0 10 = ρ 38 := m34
  have m35 : γ 1 92 0 11 = ρ 39 := m35
  have m36 : γ 1 92 0 12 = ρ 40 := m36
  have m37 : γ 1 92 0 13 = ρ 41 := m37
  have m38 : γ 1 92 0 14 = ρ 42 := m38
  have m39 : γ 1 92 0 15 = ρ 43 := m39
  have m40 : γ 1 92 0 16 = ρ 44 := m40
  have m41 : γ 1 92 0 17 = ρ 45 := m41
  have m42 : γ 1 92 0 18 = ρ 46 := m42
  have m43 : γ 1 92 0 19 = ρ 47 := m43
  have m45 : γ 0 73 0 (ρ 26) = ρ 49 := m45
  have m46 : γ 0 69 0 (ρ 26) = ρ 50 := m46
  show jn77 [ρ 0, ρ 1, ρ 2, ρ 3, ρ 4, ρ 5, ρ 6, ρ 7, ρ 8, ρ 9, ρ 10, ρ 11, ρ 12, ρ 13, ρ 14, ρ 15, ρ 16, ρ 17, ρ 18, ρ 19, ρ 20, ρ 21, ρ 22, ρ 23] (γ 0) 2 [ρ 0, ρ 1, ρ 2, ρ 3, ρ 4, ρ 5, ρ 6, ρ 7, ρ 8, ρ 9, ρ 10, ρ 11, ρ 12, ρ 13, ρ 14, ρ 15, ρ 16, ρ 17, ρ 18, ρ 19, ρ 20, ρ 21, ρ 22, ρ 23, ρ 26 + 1, ρ 27, ρ 28, ρ 29, ρ 30, ρ 31, ρ 32, ρ 33, ρ 34, ρ 35, ρ 36, ρ 37, ρ 38, ρ 39, ρ 40, ρ 41, ρ 42, ρ 43, ρ 44, ρ 45, ρ 46, ρ 47, ρ 48] (γ 1)
  have hD : en77 (γ 0) (3, [ρ 24, ρ 25, ρ 26, ρ 27], γ 1) = .inl (2, [ρ 26 + 1, ρ 27], γ 1) := by
    unfold en77
    refine (if_neg (show ¬ (3 : Nat) = 0 by decide)).trans ?_
    refine (if_neg (show ¬ (3 : Nat) = 1 by decide)).trans ?_
    refine (if_neg (show ¬ (3 : Nat) = 2 by decide)).trans ?_
    refine (if_pos (show (3 : Nat) = 3 by decide)).trans ?_
    refine (zLet_eq (show _ = γ 1 from rfl)).trans ?_
    refine (zLet_eq (show _ = ρ 24 from rfl)).trans ?_
    refine (zLet_eq (show _ = ρ 25 from rfl)).trans ?_
    refine (zLet_eq (show _ = ρ 26 from rfl)).trans ?_
    refine (zLet_eq (show _ = ρ 27 from rfl)).trans ?_
    refine (zLet_eq m24).trans ?_
    refine (zLet_eq m25).trans ?_
    refine (zLet_eq m26).trans ?_
    refine (zLet_eq m27).trans ?_
    refine (zLet_eq m28).trans ?_
    refine (zLet_eq m29).trans ?_
    refine (zLet_eq m30).trans ?_
    refine (zLet_eq m31).trans ?_
    refine (zLet_eq m32).trans ?_
    refine (zLet_eq m33).trans ?_
    refine (zLet_eq m34).trans ?_
    refine (zLet_eq m35).trans ?_
    refine (zLet_eq m36).trans ?_
    refine (zLet_eq m37).trans ?_
    refine (zLet_eq m38).trans ?_
    refine (zLet_eq m39).trans ?_
    refine (zLet_eq m40).trans ?_
    refine (zLet_eq m41).trans ?_
    refine (zLet_eq m42).trans ?_
    refine (zLet_eq m43).trans ?_
    refine (zLet_eq m45).trans ?_
    refine (if_pos w_0).trans ?_
    refine (if_pos w_1).trans ?_
    refine (zLet_eq m46).trans ?_
    refine (if_neg w_2).trans ?_
    refine (if_neg w_3).trans ?_
    refine (if_neg w_4).trans ?_
    refine (if_neg w_5).trans ?_
    refine (if_neg w_6).trans ?_
    refine (if_neg w_7).trans ?_
    refine (if_neg w_8).trans ?_
    refine (if_neg w_9).trans ?_
    refine (if_neg w_10).trans ?_
    refine (if_neg w_11).trans ?_
    refine (if_neg w_12).trans ?_
    refine (if_pos w_13).trans ?_
    refine (if_pos w_14).trans ?_
    rfl
  exact zGoo_ato hJ hD
theorem vn77a3_23 {S : Nat → zSpc}  {a : List Int} {g : rHp} : ∀ (ρ : Nat → Int) (γ : Nat → rHp), jn77 a g 3 (zAg (zNA a77_ 3) ρ) (γ 1) → zO 24 S a g q77a3_23 ρ γ → zGl (fun i vs g1 => jn77 a g i vs g1) (sn77 a g) q77a3_23 ρ γ := by
  intro ρ γ hJ h
  obtain ⟨ha, hg, hr, hf, hm, hc, hl⟩ := h
  have ha : a = [ρ 0, ρ 1, ρ 2, ρ 3, ρ 4, ρ 5, ρ 6, ρ 7, ρ 8, ρ 9, ρ 10, ρ 11, ρ 12, ρ 13, ρ 14, ρ 15, ρ 16, ρ 17, ρ 18, ρ 19, ρ 20, ρ 21, ρ 22, ρ 23] := ha
  subst ha
  subst hg
  have hJ : jn77 [ρ 0, ρ 1, ρ 2, ρ 3, ρ 4, ρ 5, ρ 6, ρ 7, ρ 8, ρ 9, ρ 10, ρ 11, ρ 12, ρ 13, ρ 14, ρ 15, ρ 16, ρ 17, ρ 18, ρ 19, ρ 20, ρ 21, ρ 22, ρ 23] (γ 0) 3 [ρ 0, ρ 1, ρ 2, ρ 3, ρ 4, ρ 5, ρ 6, ρ 7, ρ 8, ρ 9, ρ 10, ρ 11, ρ 12, ρ 13, ρ 14, ρ 15, ρ 16, ρ 17, ρ 18, ρ 19, ρ 20, ρ 21, ρ 22, ρ 23, ρ 24, ρ 25, ρ 26, ρ 27, ρ 28, ρ 29, ρ 30, ρ 31, ρ 32, ρ 33, ρ 34, ρ 35, ρ 36, ρ 37, ρ 38, ρ 39, ρ 40, ρ 41, ρ 42, ρ 43, ρ 44, ρ 45, ρ 46, ρ 47, ρ 48] (γ 1) := hJ
  obtain ⟨-, -, -, -, -, -, -, -, -, -, -, -, -, -, -, -, -, -, -, -, -, -, -, -, -, r25, -, -, -, -, -, -, -, -, -, -, -, -, -, -, -, -, -, -, -, -, -, -, -, -, r50, -⟩ := hr
  have r25 : (0 : Int) ≤ ρ 25 ∧ ρ 25 ≤ 20 := r25
  have r50 : (11 : Int) ≤ ρ 50 ∧ ρ 50 ≤ 11 := r50
  obtain ⟨f0, f1, -⟩ := hf
  have f0 : (0 : Int) ≤ -ρ 39 + ρ 25 + (-1) := f0
  have f1 : (0 : Int) ≤ -ρ 49 + ((-8) * ρ 26 + ρ 24) := f1
  obtain ⟨w_0, w_1, w_2, w_3, w_4, w_5, w_6, w_7, w_8, w_9, w_10, w_11, w_12, w_13, w_14⟩ : (ρ 24 ≥ ρ 49 + 8 * ρ 26) ∧ (ρ 25 ≤ 20) ∧ (¬ (0 ≤ -ρ 50)) ∧ (¬ (0 ≤ -ρ 50 + 1)) ∧ (¬ (0 ≤ -ρ 50 + 2)) ∧ (¬ (0 ≤ -ρ 50 + 3)) ∧ (¬ (0 ≤ -ρ 50 + 4)) ∧ (¬ (0 ≤ -ρ 50 + 5)) ∧ (¬ (0 ≤ -ρ 50 + 6)) ∧ (¬ (0 ≤ -ρ 50 + 7)) ∧ (¬ (0 ≤ -ρ 50 + 8)) ∧ (¬ (0 ≤ -ρ 50 + 9)) ∧ (¬ (0 ≤ -ρ 50 + 10)) ∧ (0 ≤ -ρ 50 + 11) ∧ (¬ (ρ 25 ≤ ρ 39)) := ⟨by omega, by omega, by omega, by omega, by omega, by omega, by omega, by omega, by omega, by omega, by omega, by omega, by omega, by omega, by omega⟩
  obtain ⟨-, -, -, -, -, -, -, -, -, -, -, -, -, -, -, -, -, -, -, -, -, -, -, -, m24, m25, m26, m27, m28, m29, m30, m31, m32, m33, m34, m35, m36, m37, m38, m39, m40, m41, m42, m43, -, m45, m46, -⟩ := hm
  have m24 : γ 1 92 0 0 = ρ 28 := m24
  have m25 : γ 1 92 0 1 = ρ 29 := m25
  have m26 : γ 1 92 0 2 = ρ 30 := m26
  have m27 : γ 1 92 0 3 = ρ 31 := m27
  have m28 : γ 1 92 0 4 = ρ 32 := m28
  have m29 : γ 1 92 0 5 = ρ 33 := m29
  have m30 : γ 1 92 0 6 = ρ 34 := m30
  have m31 : γ 1 92 0 7 = ρ 35 := m31
  have m32 : γ 1 92 0 8 = ρ 36 := m32
  have m33 : γ 1 92 0 9 = ρ 37 := m33
  have m34 : γ 1 92 0 10 = ρ 38 := m34
  have m35 : γ 1 92 0 11 = ρ 39 := m35
  have m36 : γ 1 92 0 12 = ρ 40 := m36
  have m37 : γ 1 92 0 13 = ρ 41 := m37
  have m38 : γ 1 92 0 14 = ρ 42 := m38
  have m39 : γ 1 92 0 15 = ρ 43 := m39
  have m40 : γ 1 92 0 16 = ρ 44 := m40
  have m41 : γ 1 92 0 17 = ρ 45 := m41
  have m42 : γ 1 92 0 18 = ρ 46 := m42
  have m43 : γ 1 92 0 19 = ρ 47 := m43
  have m45 : γ 0 73 0 (ρ 26) = ρ 49 := m45
  have m46 : γ 0 69 0 (ρ 26) = ρ 50 := m46
  obtain ⟨-, c2⟩ := hc
  have c2 : γ 2 = rUp (γ 1) 92 0 (ρ 50) (ρ 25) := c2
  show jn77 [ρ 0, ρ 1, ρ 2, ρ 3, ρ 4, ρ 5, ρ 6, ρ 7, ρ 8, ρ 9, ρ 10, ρ 11, ρ 12, ρ 13, ρ 14, ρ 15, ρ 16, ρ 17, ρ 18, ρ 19, ρ 20, ρ 21, ρ 22, ρ 23] (γ 0) 2 [ρ 0, ρ 1, ρ 2, ρ 3, ρ 4, ρ 5, ρ 6, ρ 7, ρ 8, ρ 9, ρ 10, ρ 11, ρ 12, ρ 13, ρ 14, ρ 15, ρ 16, ρ 17, ρ 18, ρ 19, ρ 20, ρ 21, ρ 22, ρ 23, ρ 26 + 1, 1, ρ 28, ρ 29, ρ 30, ρ 31, ρ 32, ρ 33, ρ 34, ρ 35, ρ 36, ρ 37, ρ 38, ρ 25, ρ 40, ρ 41, ρ 42, ρ 43, ρ 44, ρ 45, ρ 46, ρ 47, ρ 48] (γ 2)
  have hD : en77 (γ 0) (3, [ρ 24, ρ 25, ρ 26, ρ 27], γ 1) = .inl (2, [ρ 26 + 1, 1], γ 2) := by
    unfold en77
    refine (if_neg (show ¬ (3 : Nat) = 0 by decide)).trans ?_
    refine (if_neg (show ¬ (3 : Nat) = 1 by decide)).trans ?_
    refine (if_neg (show ¬ (3 : Nat) = 2 by decide)).trans ?_
    refine (if_pos (show (3 : Nat) = 3 by decide)).trans ?_
    refine (zLet_eq (show _ = γ 1 from rfl)).trans ?_
    refine (zLet_eq (show _ = ρ 24 from rfl)).trans ?_
    refine (zLet_eq (show _ = ρ 25 from rfl)).trans ?_
    refine (zLet_eq (show _ = ρ 26 from rfl)).trans ?_
    refine (zLet_eq (show _ = ρ 27 from rfl)).trans ?_
    refine (zLet_eq m24).trans ?_
    refine (zLet_eq m25).trans ?_
    refine (zLet_eq m26).trans ?_
    refine (zLet_eq m27).trans ?_
    refine (zLet_eq m28).trans ?_
    refine (zLet_eq m29).trans ?_
    refine (zLet_eq m30).trans ?_
    refine (zLet_eq m31).trans ?_
    refine (zLet_eq m32).trans ?_
    refine (zLet_eq m33).trans ?_
    refine (zLet_eq m34).trans ?_
    refine (zLet_eq m35).trans ?_
    refine (zLet_eq m36).trans ?_
    refine (zLet_eq m37).trans ?_
    refine (zLet_eq m38).trans ?_
    refine (zLet_eq m39).trans ?_
    refine (zLet_eq m40).trans ?_
    refine (zLet_eq m41).trans ?_
    refine (zLet_eq m42).trans ?_
    refine (zLet_eq m43).trans ?_
    refine (zLet_eq m45).trans ?_
    refine (if_pos w_0).trans ?_
    refine (if_pos w_1).trans ?_
    refine (zLet_eq m46).trans ?_
    refine (if_neg w_2).trans ?_
    refine (if_neg w_3).trans ?_
    refine (if_neg w_4).trans ?_
    refine (if_neg w_5).trans ?_
    refine (if_neg w_6).trans ?_
    refine (if_neg w_7).trans ?_
    refine (if_neg w_8).trans ?_
    refine (if_neg w_9).trans ?_
    refine (if_neg w_10).trans ?_
    refine (if_neg w_11).trans ?_
    refine (if_neg w_12).trans ?_
    refine (if_pos w_13).trans ?_
    refine (if_neg w_14).trans ?_
    refine (zLet_eq c2.symm).trans ?_
    rfl
  exact zGoo_ato hJ hD
theorem vn77a3_24 {S : Nat → zSpc}  {a : List Int} {g : rHp} : ∀ (ρ : Nat → Int) (γ : Nat → rHp), jn77 a g 3 (zAg (zNA a77_ 3) ρ) (γ 1) → zO 24 S a g q77a3_24 ρ γ → zGl (fun i vs g1 => jn77 a g i vs g1) (sn77 a g) q77a3_24 ρ γ := by
  intro ρ γ hJ h
  obtain ⟨ha, hg, hr, hf, hm, hc, hl⟩ := h
  have ha : a = [ρ 0, ρ 1, ρ 2, ρ 3, ρ 4, ρ 5, ρ 6, ρ 7, ρ 8, ρ 9, ρ 10, ρ 11, ρ 12, ρ 13, ρ 14, ρ 15, ρ 16, ρ 17, ρ 18, ρ 19, ρ 20, ρ 21, ρ 22, ρ 23] := ha
  subst ha
  subst hg
  have hJ : jn77 [ρ 0, ρ 1, ρ 2, ρ 3, ρ 4, ρ 5, ρ 6, ρ 7, ρ 8, ρ 9, ρ 10, ρ 11, ρ 12, ρ 13, ρ 14, ρ 15, ρ 16, ρ 17, ρ 18, ρ 19, ρ 20, ρ 21, ρ 22, ρ 23] (γ 0) 3 [ρ 0, ρ 1, ρ 2, ρ 3, ρ 4, ρ 5, ρ 6, ρ 7, ρ 8, ρ 9, ρ 10, ρ 11, ρ 12, ρ 13, ρ 14, ρ 15, ρ 16, ρ 17, ρ 18, ρ 19, ρ 20, ρ 21, ρ 22, ρ 23, ρ 24, ρ 25, ρ 26, ρ 27, ρ 28, ρ 29, ρ 30, ρ 31, ρ 32, ρ 33, ρ 34, ρ 35, ρ 36, ρ 37, ρ 38, ρ 39, ρ 40, ρ 41, ρ 42, ρ 43, ρ 44, ρ 45, ρ 46, ρ 47, ρ 48] (γ 1) := hJ
  obtain ⟨-, -, -, -, -, -, -, -, -, -, -, -, -, -, -, -, -, -, -, -, -, -, -, -, -, r25, -, -, -, -, -, -, -, -, -, -, -, -, -, -, -, -, -, -, -, -, -, -, -, -, r50, -⟩ := hr
  have r25 : (0 : Int) ≤ ρ 25 ∧ ρ 25 ≤ 20 := r25
  have r50 : (12 : Int) ≤ ρ 50 ∧ ρ 50 ≤ 12 := r50
  obtain ⟨f0, f1, -⟩ := hf
  have f0 : (0 : Int) ≤ ρ 40 + -ρ 25 := f0
  have f1 : (0 : Int) ≤ -ρ 49 + ((-8) * ρ 26 + ρ 24) := f1
  obtain ⟨w_0, w_1, w_2, w_3, w_4, w_5, w_6, w_7, w_8, w_9, w_10, w_11, w_12, w_13, w_14, w_15⟩ : (ρ 24 ≥ ρ 49 + 8 * ρ 26) ∧ (ρ 25 ≤ 20) ∧ (¬ (0 ≤ -ρ 50)) ∧ (¬ (0 ≤ -ρ 50 + 1)) ∧ (¬ (0 ≤ -ρ 50 + 2)) ∧ (¬ (0 ≤ -ρ 50 + 3)) ∧ (¬ (0 ≤ -ρ 50 + 4)) ∧ (¬ (0 ≤ -ρ 50 + 5)) ∧ (¬ (0 ≤ -ρ 50 + 6)) ∧ (¬ (0 ≤ -ρ 50 + 7)) ∧ (¬ (0 ≤ -ρ 50 + 8)) ∧ (¬ (0 ≤ -ρ 50 + 9)) ∧ (¬ (0 ≤ -ρ 50 + 10)) ∧ (¬ (0 ≤ -ρ 50 + 11)) ∧ (0 ≤ -ρ 50 + 12) ∧ (ρ 25 ≤ ρ 40) := ⟨by omega, by omega, by omega, by omega, by omega, by omega, by omega, by omega, by omega, by omega, by omega, by omega, by omega, by omega, by omega, by omega⟩
  obtain ⟨-, -, -, -, -, -, -, -, -, -, -, -, -, -, -, -, -, -, -, -, -, -, -, -, m24, m25, m26, m27, m28, m29, m30, m31, m32, m33, m34, m35, m36, m37, m38, m39, m40, m41, m42, m43, -, m45, m46, -⟩ := hm
  have m24 : γ 1 92 0 0 = ρ 28 := m24
  have m25 : γ 1 92 0 1 = ρ 29 := m25
  have m26 : γ 1 92 0 2 = ρ 30 := m26
  have m27 : γ 1 92 0 3 = ρ 31 := m27
  have m28 : γ 1 92 0 4 = ρ 32 := m28
  have m29 : γ 1 92 0 5 = ρ 33 := m29
  have m30 : γ 1 92 0 6 = ρ 34 := m30
  have m31 : γ 1 92 0 7 = ρ 35 := m31
  have m32 : γ 1 92 0 8 = ρ 36 := m32
  have m33 : γ 1 92 0 9 = ρ 37 := m33
  have m34 : γ 1 92 0 10 = ρ 38 := m34
  have m35 : γ 1 92 0 11 = ρ 39 := m35
  have m36 : γ 1 92 0 12 = ρ 40 := m36
  have m37 : γ 1 92 0 13 = ρ 41 := m37
  have m38 : γ 1 92 0 14 = ρ 42 := m38
  have m39 : γ 1 92 0 15 = ρ 43 := m39
  have m40 : γ 1 92 0 16 = ρ 44 := m40
  have m41 : γ 1 92 0 17 = ρ 45 := m41
  have m42 : γ 1 92 0 18 = ρ 46 := m42
  have m43 : γ 1 92 0 19 = ρ 47 := m43
  have m45 : γ 0 73 0 (ρ 26) = ρ 49 := m45
  have m46 : γ 0 69 0 (ρ 26) = ρ 50 := m46
  show jn77 [ρ 0, ρ 1, ρ 2, ρ 3, ρ 4, ρ 5, ρ 6, ρ 7, ρ 8, ρ 9, ρ 10, ρ 11, ρ 12, ρ 13, ρ 14, ρ 15, ρ 16, ρ 17, ρ 18, ρ 19, ρ 20, ρ 21, ρ 22, ρ 23] (γ 0) 2 [ρ 0, ρ 1, ρ 2, ρ 3, ρ 4, ρ 5, ρ 6, ρ 7, ρ 8, ρ 9, ρ 10, ρ 11, ρ 12, ρ 13, ρ 14, ρ 15, ρ 16, ρ 17, ρ 18, ρ 19, ρ 20, ρ 21, ρ 22, ρ 23, ρ 26 + 1, ρ 27, ρ 28, ρ 29, ρ 30, ρ 31, ρ 32, ρ 33, ρ 34, ρ 35, ρ 36, ρ 37, ρ 38, ρ 39, ρ 40, ρ 41, ρ 42, ρ 43, ρ 44, ρ 45, ρ 46, ρ 47, ρ 48] (γ 1)
  have hD : en77 (γ 0) (3, [ρ 24, ρ 25, ρ 26, ρ 27], γ 1) = .inl (2, [ρ 26 + 1, ρ 27], γ 1) := by
    unfold en77
    refine (if_neg (show ¬ (3 : Nat) = 0 by decide)).trans ?_
    refine (if_neg (show ¬ (3 : Nat) = 1 by decide)).trans ?_
    refine (if_neg (show ¬ (3 : Nat) = 2 by decide)).trans ?_
    refine (if_pos (show (3 : Nat) = 3 by decide)).trans ?_
    refine (zLet_eq (show _ = γ 1 from rfl)).trans ?_
    refine (zLet_eq (show _ = ρ 24 from rfl)).trans ?_
    refine (zLet_eq (show _ = ρ 25 from rfl)).trans ?_
    refine (zLet_eq (show _ = ρ 26 from rfl)).trans ?_
    refine (zLet_eq (show _ = ρ 27 from rfl)).trans ?_
    refine (zLet_eq m24).trans ?_
    refine (zLet_eq m25).trans ?_
    refine (zLet_eq m26).trans ?_
    refine (zLet_eq m27).trans ?_
    refine (zLet_eq m28).trans ?_
    refine (zLet_eq m29).trans ?_
    refine (zLet_eq m30).trans ?_
    refine (zLet_eq m31).trans ?_
    refine (zLet_eq m32).trans ?_
    refine (zLet_eq m33).trans ?_
    refine (zLet_eq m34).trans ?_
    refine (zLet_eq m35).trans ?_
    refine (zLet_eq m36).trans ?_
    refine (zLet_eq m37).trans ?_
    refine (zLet_eq m38).trans ?_
    refine (zLet_eq m39).trans ?_
    refine (zLet_eq m40).trans ?_
    refine (zLet_eq m41).trans ?_
    refine (zLet_eq m42).trans ?_
    refine (zLet_eq m43).trans ?_
    refine (zLet_eq m45).trans ?_
    refine (if_pos w_0).trans ?_
    refine (if_pos w_1).trans ?_
    refine (zLet_eq m46).trans ?_
    refine (if_neg w_2).trans ?_
    refine (if_neg w_3).trans ?_
    refine (if_neg w_4).trans ?_
    refine (if_neg w_5).trans ?_
    refine (if_neg w_6).trans ?_
    refine (if_neg w_7).trans ?_
    refine (if_neg w_8).trans ?_
    refine (if_neg w_9).trans ?_
    refine (if_neg w_10).trans ?_
    refine (if_neg w_11).trans ?_
    refine (if_neg w_12).trans ?_
    refine (if_neg w_13).trans ?_
    refine (if_pos w_14).trans ?_
    refine (if_pos w_15).trans ?_
    rfl
  exact zGoo_ato hJ hD
theorem vn77a3_25 {S : Nat → zSpc}  {a : List Int} {g : rHp} : ∀ (ρ : Nat → Int) (γ : Nat → rHp), jn77 a g 3 (zAg (zNA a77_ 3) ρ) (γ 1) → zO 24 S a g q77a3_25 ρ γ → zGl (fun i vs g1 => jn77 a g i vs g1) (sn77 a g) q77a3_25 ρ γ := by
  intro ρ γ hJ h
  obtain ⟨ha, hg, hr, hf, hm, hc, hl⟩ := h
  have ha : a = [ρ 0, ρ 1, ρ 2, ρ 3, ρ 4, ρ 5, ρ 6, ρ 7, ρ 8, ρ 9, ρ 10, ρ 11, ρ 12, ρ 13, ρ 14, ρ 15, ρ 16, ρ 17, ρ 18, ρ 19, ρ 20, ρ 21, ρ 22, ρ 23] := ha
  subst ha
  subst hg
  have hJ : jn77 [ρ 0, ρ 1, ρ 2, ρ 3, ρ 4, ρ 5, ρ 6, ρ 7, ρ 8, ρ 9, ρ 10, ρ 11, ρ 12, ρ 13, ρ 14, ρ 15, ρ 16, ρ 17, ρ 18, ρ 19, ρ 20, ρ 21, ρ 22, ρ 23] (γ 0) 3 [ρ 0, ρ 1, ρ 2, ρ 3, ρ 4, ρ 5, ρ 6, ρ 7, ρ 8, ρ 9, ρ 10, ρ 11, ρ 12, ρ 13, ρ 14, ρ 15, ρ 16, ρ 17, ρ 18, ρ 19, ρ 20, ρ 21, ρ 22, ρ 23, ρ 24, ρ 25, ρ 26, ρ 27, ρ 28, ρ 29, ρ 30, ρ 31, ρ 32, ρ 33, ρ 34, ρ 35, ρ 36, ρ 37, ρ 38, ρ 39, ρ 40, ρ 41, ρ 42, ρ 43, ρ 44, ρ 45, ρ 46, ρ 47, ρ 48] (γ 1) := hJ
  obtain ⟨-, -, -, -, -, -, -, -, -, -, -, -, -, -, -, -, -, -, -, -, -, -, -, -, -, r25, -, -, -, -, -, -, -, -, -, -, -, -, -, -, -, -, -, -, -, -, -, -, -, -, r50, -⟩ := hr
  have r25 : (0 : Int) ≤ ρ 25 ∧ ρ 25 ≤ 20 := r25
  have r50 : (12 : Int) ≤ ρ 50 ∧ ρ 50 ≤ 12 := r50
  obtain ⟨f0, f1, -⟩ := hf
  have f0 : (0 : Int) ≤ -ρ 40 + ρ 25 + (-1) := f0
  have f1 : (0 : Int) ≤ -ρ 49 + ((-8) * ρ 26 + ρ 24) := f1
  obtain ⟨w_0, w_1, w_2, w_3, w_4, w_5, w_6, w_7, w_8, w_9, w_10, w_11, w_12, w_13, w_14, w_15⟩ : (ρ 24 ≥ ρ 49 + 8 * ρ 26) ∧ (ρ 25 ≤ 20) ∧ (¬ (0 ≤ -ρ 50)) ∧ (¬ (0 ≤ -ρ 50 + 1)) ∧ (¬ (0 ≤ -ρ 50 + 2)) ∧ (¬ (0 ≤ -ρ 50 + 3)) ∧ (¬ (0 ≤ -ρ 50 + 4)) ∧ (¬ (0 ≤ -ρ 50 + 5)) ∧ (¬ (0 ≤ -ρ 50 + 6)) ∧ (¬ (0 ≤ -ρ 50 + 7)) ∧ (¬ (0 ≤ -ρ 50 + 8)) ∧ (¬ (0 ≤ -ρ 50 + 9)) ∧ (¬ (0 ≤ -ρ 50 + 10)) ∧ (¬ (0 ≤ -ρ 50 + 11)) ∧ (0 ≤ -ρ 50 + 12) ∧ (¬ (ρ 25 ≤ ρ 40)) := ⟨by omega, by omega, by omega, by omega, by omega, by omega, by omega, by omega, by omega, by omega, by omega, by omega, by omega, by omega, by omega, by omega⟩
  obtain ⟨-, -, -, -, -, -, -, -, -, -, -, -, -, -, -, -, -, -, -, -, -, -, -, -, m24, m25, m26, m27, m28, m29, m30, m31, m32, m33, m34, m35, m36, m37, m38, m39, m40, m41, m42, m43, -, m45, m46, -⟩ := hm
  have m24 : γ 1 92 0 0 = ρ 28 := m24
  have m25 : γ 1 92 0 1 = ρ 29 := m25
  have m26 : γ 1 92 0 2 = ρ 30 := m26
  have m27 : γ 1 92 0 3 = ρ 31 := m27
  have m28 : γ 1 92 0 4 = ρ 32 := m28
  have m29 : γ 1 92 0 5 = ρ 33 := m29
  have m30 : γ 1 92 0 6 = ρ 34 := m30
  have m31 : γ 1 92 0 7 = ρ 35 := m31
  have m32 : γ 1 92 0 8 = ρ 36 := m32
  have m33 : γ 1 92 0 9 = ρ 37 := m33
  have m34 : γ 1 92 0 10 = ρ 38 := m34
  have m35 : γ 1 92 0 11 = ρ 39 := m35
  have m36 : γ 1 92 0 12 = ρ 40 := m36
  have m37 : γ 1 92 0 13 = ρ 41 := m37
  have m38 : γ 1 92 0 14 = ρ 42 := m38
  have m39 : γ 1 92 0 15 = ρ 43 := m39
  have m40 : γ 1 92 0 16 = ρ 44 := m40
  have m41 : γ 1 92 0 17 = ρ 45 := m41
  have m42 : γ 1 92 0 18 = ρ 46 := m42
  have m43 : γ 1 92 0 19 = ρ 47 := m43
  have m45 : γ 0 73 0 (ρ 26) = ρ 49 := m45
  have m46 : γ 0 69 0 (ρ 26) = ρ 50 := m46
  obtain ⟨-, c2⟩ := hc
  have c2 : γ 2 = rUp (γ 1) 92 0 (ρ 50) (ρ 25) := c2
  show jn77 [ρ 0, ρ 1, ρ 2, ρ 3, ρ 4, ρ 5, ρ 6, ρ 7, ρ 8, ρ 9, ρ 10, ρ 11, ρ 12, ρ 13, ρ 14, ρ 15, ρ 16, ρ 17, ρ 18, ρ 19, ρ 20, ρ 21, ρ 22, ρ 23] (γ 0) 2 [ρ 0, ρ 1, ρ 2, ρ 3, ρ 4, ρ 5, ρ 6, ρ 7, ρ 8, ρ 9, ρ 10, ρ 11, ρ 12, ρ 13, ρ 14, ρ 15, ρ 16, ρ 17, ρ 18, ρ 19, ρ 20, ρ 21, ρ 22, ρ 23, ρ 26 + 1, 1, ρ 28, ρ 29, ρ 30, ρ 31, ρ 32, ρ 33, ρ 34, ρ 35, ρ 36, ρ 37, ρ 38, ρ 39, ρ 25, ρ 41, ρ 42, ρ 43, ρ 44, ρ 45, ρ 46, ρ 47, ρ 48] (γ 2)
  have hD : en77 (γ 0) (3, [ρ 24, ρ 25, ρ 26, ρ 27], γ 1) = .inl (2, [ρ 26 + 1, 1], γ 2) := by
    unfold en77
    refine (if_neg (show ¬ (3 : Nat) = 0 by decide)).trans ?_
    refine (if_neg (show ¬ (3 : Nat) = 1 by decide)).trans ?_
    refine (if_neg (show ¬ (3 : Nat) = 2 by decide)).trans ?_
    refine (if_pos (show (3 : Nat) = 3 by decide)).trans ?_
    refine (zLet_eq (show _ = γ 1 from rfl)).trans ?_
    refine (zLet_eq (show _ = ρ 24 from rfl)).trans ?_
    refine (zLet_eq (show _ = ρ 25 from rfl)).trans ?_
    refine (zLet_eq (show _ = ρ 26 from rfl)).trans ?_
    refine (zLet_eq (show _ = ρ 27 from rfl)).trans ?_
    refine (zLet_eq m24).trans ?_
    refine (zLet_eq m25).trans ?_
    refine (zLet_eq m26).trans ?_
    refine (zLet_eq m27).trans ?_
    refine (zLet_eq m28).trans ?_
    refine (zLet_eq m29).trans ?_
    refine (zLet_eq m30).trans ?_
    refine (zLet_eq m31).trans ?_
    refine (zLet_eq m32).trans ?_
    refine (zLet_eq m33).trans ?_
    refine (zLet_eq m34).trans ?_
    refine (zLet_eq m35).trans ?_
    refine (zLet_eq m36).trans ?_
    refine (zLet_eq m37).trans ?_
    refine (zLet_eq m38).trans ?_
    refine (zLet_eq m39).trans ?_
    refine (zLet_eq m40).trans ?_
    refine (zLet_eq m41).trans ?_
    refine (zLet_eq m42).trans ?_
    refine (zLet_eq m43).trans ?_
    refine (zLet_eq m45).trans ?_
    refine (if_pos w_0).trans ?_
    refine (if_pos w_1).trans ?_
    refine (zLet_eq m46).trans ?_
    refine (if_neg w_2).trans ?_
    refine (if_neg w_3).trans ?_
    refine (if_neg w_4).trans ?_
    refine (if_neg w_5).trans ?_
    refine (if_neg w_6).trans ?_
    refine (if_neg w_7).trans ?_
    refine (if_neg w_8).trans ?_
    refine (if_neg w_9).trans ?_
    refine (if_neg w_10).trans ?_
    refine (if_neg w_11).trans ?_
    refine (if_neg w_12).trans ?_
    refine (if_neg w_13).trans ?_
    refine (if_pos w_14).trans ?_
    refine (if_neg w_15).trans ?_
    refine (zLet_eq c2.symm).trans ?_
    rfl
  exact zGoo_ato hJ hD
theorem vn77a3_26 {S : Nat → zSpc}  {a : List Int} {g : rHp} : ∀ (ρ : Nat → Int) (γ : Nat → rHp), jn77 a g 3 (zAg (zNA a77_ 3) ρ) (γ 1) → zO 24 S a g q77a3_26 ρ γ → zGl (fun i vs g1 => jn77 a g i vs g1) (sn77 a g) q77a3_26 ρ γ := by
  intro ρ γ hJ h
  obtain ⟨ha, hg, hr, hf, hm, hc, hl⟩ := h
  have ha : a = [ρ 0, ρ 1, ρ 2, ρ 3, ρ 4, ρ 5, ρ 6, ρ 7, ρ 8, ρ 9, ρ 10, ρ 11, ρ 12, ρ 13, ρ 14, ρ 15, ρ 16, ρ 17, ρ 18, ρ 19, ρ 20, ρ 21, ρ 22, ρ 23] := ha
  subst ha
  subst hg
  have hJ : jn77 [ρ 0, ρ 1, ρ 2, ρ 3, ρ 4, ρ 5, ρ 6, ρ 7, ρ 8, ρ 9, ρ 10, ρ 11, ρ 12, ρ 13, ρ 14, ρ 15, ρ 16, ρ 17, ρ 18, ρ 19, ρ 20, ρ 21, ρ 22, ρ 23] (γ 0) 3 [ρ 0, ρ 1, ρ 2, ρ 3, ρ 4, ρ 5, ρ 6, ρ 7, ρ 8, ρ 9, ρ 10, ρ 11, ρ 12, ρ 13, ρ 14, ρ 15, ρ 16, ρ 17, ρ 18, ρ 19, ρ 20, ρ 21, ρ 22, ρ 23, ρ 24, ρ 25, ρ 26, ρ 27, ρ 28, ρ 29, ρ 30, ρ 31, ρ 32, ρ 33, ρ 34, ρ 35, ρ 36, ρ 37, ρ 38, ρ 39, ρ 40, ρ 41, ρ 42, ρ 43, ρ 44, ρ 45, ρ 46, ρ 47, ρ 48] (γ 1) := hJ
  obtain ⟨-, -, -, -, -, -, -, -, -, -, -, -, -, -, -, -, -, -, -, -, -, -, -, -, -, r25, -, -, -, -, -, -, -, -, -, -, -, -, -, -, -, -, -, -, -, -, -, -, -, -, r50, -⟩ := hr
  have r25 : (0 : Int) ≤ ρ 25 ∧ ρ 25 ≤ 20 := r25
  have r50 : (13 : Int) ≤ ρ 50 ∧ ρ 50 ≤ 13 := r50
  obtain ⟨f0, f1, -⟩ := hf
  have f0 : (0 : Int) ≤ ρ 41 + -ρ 25 := f0
  have f1 : (0 : Int) ≤ -ρ 49 + ((-8) * ρ 26 + ρ 24) := f1
  obtain ⟨w_0, w_1, w_2, w_3, w_4, w_5, w_6, w_7, w_8, w_9, w_10, w_11, w_12, w_13, w_14, w_15, w_16⟩ : (ρ 24 ≥ ρ 49 + 8 * ρ 26) ∧ (ρ 25 ≤ 20) ∧ (¬ (0 ≤ -ρ 50)) ∧ (¬ (0 ≤ -ρ 50 + 1)) ∧ (¬ (0 ≤ -ρ 50 + 2)) ∧ (¬ (0 ≤ -ρ 50 + 3)) ∧ (¬ (0 ≤ -ρ 50 + 4)) ∧ (¬ (0 ≤ -ρ 50 + 5)) ∧ (¬ (0 ≤ -ρ 50 + 6)) ∧ (¬ (0 ≤ -ρ 50 + 7)) ∧ (¬ (0 ≤ -ρ 50 + 8)) ∧ (¬ (0 ≤ -ρ 50 + 9)) ∧ (¬ (0 ≤ -ρ 50 + 10)) ∧ (¬ (0 ≤ -ρ 50 + 11)) ∧ (¬ (0 ≤ -ρ 50 + 12)) ∧ (0 ≤ -ρ 50 + 13) ∧ (ρ 25 ≤ ρ 41) := ⟨by omega, by omega, by omega, by omega, by omega, by omega, by omega, by omega, by omega, by omega, by omega, by omega, by omega, by omega, by omega, by omega, by omega⟩
  obtain ⟨-, -, -, -, -, -, -, -, -, -, -, -, -, -, -, -, -, -, -, -, -, -, -, -, m24, m25, m26, m27, m28, m29, m30, m31, m32, m33, m34, m35, m36, m37, m38, m39, m40, m41, m42, m43, -, m45, m46, -⟩ := hm
  have m24 : γ 1 92 0 0 = ρ 28 := m24
  have m25 : γ 1 92 0 1 = ρ 29 := m25
  have m26 : γ 1 92 0 2 = ρ 30 := m26
  have m27 : γ 1 92 0 3 = ρ 31 := m27
  have m28 : γ 1 92 0 4 = ρ 32 := m28
  have m29 : γ 1 92 0 5 = ρ 33 := m29
  have m30 : γ 1 92 0 6 = ρ 34 := m30
  have m31 : γ 1 92 0 7 = ρ 35 := m31
  have m32 : γ 1 92 0 8 = ρ 36 := m32
  have m33 : γ 1 92 0 9 = ρ 37 := m33
  have m34 : γ 1 92 0 10 = ρ 38 := m34
  have m35 : γ 1 92 0 11 = ρ 39 := m35
  have m36 : γ 1 92 0 12 = ρ 40 := m36
  have m37 : γ 1 92 0 13 = ρ 41 := m37
  have m38 : γ 1 92 0 14 = ρ 42 := m38
  have m39 : γ 1 92 0 15 = ρ 43 := m39
  have m40 : γ 1 92 0 16 = ρ 44 := m40
  have m41 : γ 1 92 0 17 = ρ 45 := m41
  have m42 : γ 1 92 0 18 = ρ 46 := m42
  have m43 : γ 1 92 0 19 = ρ 47 := m43
  have m45 : γ 0 73 0 (ρ 26) = ρ 49 := m45
  have m46 : γ 0 69 0 (ρ 26) = ρ 50 := m46
  show jn77 [ρ 0, ρ 1, ρ 2, ρ 3, ρ 4, ρ 5, ρ 6, ρ 7, ρ 8, ρ 9, ρ 10, ρ 11, ρ 12, ρ 13, ρ 14, ρ 15, ρ 16, ρ 17, ρ 18, ρ 19, ρ 20, ρ 21, ρ 22, ρ 23] (γ 0) 2 [ρ 0, ρ 1, ρ 2, ρ 3, ρ 4, ρ 5, ρ 6, ρ 7, ρ 8, ρ 9, ρ 10, ρ 11, ρ 12, ρ 13, ρ 14, ρ 15, ρ 16, ρ 17, ρ 18, ρ 19, ρ 20, ρ 21, ρ 22, ρ 23, ρ 26 + 1, ρ 27, ρ 28, ρ 29, ρ 30, ρ 31, ρ 32, ρ 33, ρ 34, ρ 35, ρ 36, ρ 37, ρ 38, ρ 39, ρ 40, ρ 41, ρ 42, ρ 43, ρ 44, ρ 45, ρ 46, ρ 47, ρ 48] (γ 1)
  have hD : en77 (γ 0) (3, [ρ 24, ρ 25, ρ 26, ρ 27], γ 1) = .inl (2, [ρ 26 + 1, ρ 27], γ 1) := by
    unfold en77
    refine (if_neg (show ¬ (3 : Nat) = 0 by decide)).trans ?_
    refine (if_neg (show ¬ (3 : Nat) = 1 by decide)).trans ?_
    refine (if_neg (show ¬ (3 : Nat) = 2 by decide)).trans ?_
    refine (if_pos (show (3 : Nat) = 3 by decide)).trans ?_
    refine (zLet_eq (show _ = γ 1 from rfl)).trans ?_
    refine (zLet_eq (show _ = ρ 24 from rfl)).trans ?_
    refine (zLet_eq (show _ = ρ 25 from rfl)).trans ?_
    refine (zLet_eq (show _ = ρ 26 from rfl)).trans ?_
    refine (zLet_eq (show _ = ρ 27 from rfl)).trans ?_
    refine (zLet_eq m24).trans ?_
    refine (zLet_eq m25).trans ?_
    refine (zLet_eq m26).trans ?_
    refine (zLet_eq m27).trans ?_
    refine (zLet_eq m28).trans ?_
    refine (zLet_eq m29).trans ?_
    refine (zLet_eq m30).trans ?_
    refine (zLet_eq m31).trans ?_
    refine (zLet_eq m32).trans ?_
    refine (zLet_eq m33).trans ?_
    refine (zLet_eq m34).trans ?_
    refine (zLet_eq m35).trans ?_
    refine (zLet_eq m36).trans ?_
    refine (zLet_eq m37).trans ?_
    refine (zLet_eq m38).trans ?_
    refine (zLet_eq m39).trans ?_
    refine (zLet_eq m40).trans ?_
    refine (zLet_eq m41).trans ?_
    refine (zLet_eq m42).trans ?_
    refine (zLet_eq m43).trans ?_
    refine (zLet_eq m45).trans ?_
    refine (if_pos w_0).trans ?_
    refine (if_pos w_1).trans ?_
    refine (zLet_eq m46).trans ?_
    refine (if_neg w_2).trans ?_
    refine (if_neg w_3).trans ?_
    refine (if_neg w_4).trans ?_
    refine (if_neg w_5).trans ?_
    refine (if_neg w_6).trans ?_
    refine (if_neg w_7).trans ?_
    refine (if_neg w_8).trans ?_
    refine (if_neg w_9).trans ?_
    refine (if_neg w_10).trans ?_
    refine (if_neg w_11).trans ?_
    refine (if_neg w_12).trans ?_
    refine (if_neg w_13).trans ?_
    refine (if_neg w_14).trans ?_
    refine (if_pos w_15).trans ?_
    refine (if_pos w_16).trans ?_
    rfl
  exact zGoo_ato hJ hD
theorem vn77a3_27 {S : Nat → zSpc}  {a : List Int} {g : rHp} : ∀ (ρ : Nat → Int) (γ : Nat → rHp), jn77 a g 3 (zAg (zNA a77_ 3) ρ) (γ 1) → zO 24 S a g q77a3_27 ρ γ → zGl (fun i vs g1 => jn77 a g i vs g1) (sn77 a g) q77a3_27 ρ γ := by
  intro ρ γ hJ h
  obtain ⟨ha, hg, hr, hf, hm, hc, hl⟩ := h
  have ha : a = [ρ 0, ρ 1, ρ 2, ρ 3, ρ 4, ρ 5, ρ 6, ρ 7, ρ 8, ρ 9, ρ 10, ρ 11, ρ 12, ρ 13, ρ 14, ρ 15, ρ 16, ρ 17, ρ 18, ρ 19, ρ 20, ρ 21, ρ 22, ρ 23] := ha
  subst ha
  subst hg
  have hJ : jn77 [ρ 0, ρ 1, ρ 2, ρ 3, ρ 4, ρ 5, ρ 6, ρ 7, ρ 8, ρ 9, ρ 10, ρ 11, ρ 12, ρ 13, ρ 14, ρ 15, ρ 16, ρ 17, ρ 18, ρ 19, ρ 20, ρ 21, ρ 22, ρ 23] (γ 0) 3 [ρ 0, ρ 1, ρ 2, ρ 3, ρ 4, ρ 5, ρ 6, ρ 7, ρ 8, ρ 9, ρ 10, ρ 11, ρ 12, ρ 13, ρ 14, ρ 15, ρ 16, ρ 17, ρ 18, ρ 19, ρ 20, ρ 21, ρ 22, ρ 23, ρ 24, ρ 25, ρ 26, ρ 27, ρ 28, ρ 29, ρ 30, ρ 31, ρ 32, ρ 33, ρ 34, ρ 35, ρ 36, ρ 37, ρ 38, ρ 39, ρ 40, ρ 41, ρ 42, ρ 43, ρ 44, ρ 45, ρ 46, ρ 47, ρ 48] (γ 1) := hJ
  obtain ⟨-, -, -, -, -, -, -, -, -, -, -, -, -, -, -, -, -, -, -, -, -, -, -, -, -, r25, -, -, -, -, -, -, -, -, -, -, -, -, -, -, -, -, -, -, -, -, -, -, -, -, r50, -⟩ := hr
  have r25 : (0 : Int) ≤ ρ 25 ∧ ρ 25 ≤ 20 := r25
  have r50 : (13 : Int) ≤ ρ 50 ∧ ρ 50 ≤ 13 := r50
  obtain ⟨f0, f1, -⟩ := hf
  have f0 : (0 : Int) ≤ -ρ 41 + ρ 25 + (-1) := f0
  have f1 : (0 : Int) ≤ -ρ 49 + ((-8) * ρ 26 + ρ 24) := f1
  obtain ⟨w_0, w_1, w_2, w_3, w_4, w_5, w_6, w_7, w_8, w_9, w_10, w_11, w_12, w_13, w_14, w_15, w_16⟩ : (ρ 24 ≥ ρ 49 + 8 * ρ 26) ∧ (ρ 25 ≤ 20) ∧ (¬ (0 ≤ -ρ 50)) ∧ (¬ (0 ≤ -ρ 50 + 1)) ∧ (¬ (0 ≤ -ρ 50 + 2)) ∧ (¬ (0 ≤ -ρ 50 + 3)) ∧ (¬ (0 ≤ -ρ 50 + 4)) ∧ (¬ (0 ≤ -ρ 50 + 5)) ∧ (¬ (0 ≤ -ρ 50 + 6)) ∧ (¬ (0 ≤ -ρ 50 + 7)) ∧ (¬ (0 ≤ -ρ 50 + 8)) ∧ (¬ (0 ≤ -ρ 50 + 9)) ∧ (¬ (0 ≤ -ρ 50 + 10)) ∧ (¬ (0 ≤ -ρ 50 + 11)) ∧ (¬ (0 ≤ -ρ 50 + 12)) ∧ (0 ≤ -ρ 50 + 13) ∧ (¬ (ρ 25 ≤ ρ 41)) := ⟨by omega, by omega, by omega, by omega, by omega, by omega, by omega, by omega, by omega, by omega, by omega, by omega, by omega, by omega, by omega, by omega, by omega⟩
  obtain ⟨-, -, -, -, -, -, -, -, -, -, -, -, -, -, -, -, -, -, -, -, -, -, -, -, m24, m25, m26, m27, m28, m29, m30, m31, m32, m33, m34, m35, m36, m37, m38, m39, m40, m41, m42, m43, -, m45, m46, -⟩ := hm
  have m24 : γ 1 92 0 0 = ρ 28 := m24
  have m25 : γ 1 92 0 1 = ρ 29 := m25
  have m26 : γ 1 92 0 2 = ρ 30 := m26
  have m27 : γ 1 92 0 3 = ρ 31 := m27
  have m28 : γ 1 92 0 4 = ρ 32 := m28
  have m29 : γ 1 92 0 5 = ρ 33 := m29
  have m30 : γ 1 92 0 6 = ρ 34 := m30
  have m31 : γ 1 92 0 7 = ρ 35 := m31
  have m32 : γ 1 92 0 8 = ρ 36 := m32
  have m33 : γ 1 92 0 9 = ρ 37 := m33
  have m34 : γ 1 92 0 10 = ρ 38 := m34
  have m35 : γ 1 92 0 11 = ρ 39 := m35
  have m36 : γ 1 92 0 12 = ρ 40 := m36
  have m37 : γ 1 92 0 13 = ρ 41 := m37
  have m38 : γ 1 92 0 14 = ρ 42 := m38
  have m39 : γ 1 92 0 15 = ρ 43 := m39
  have m40 : γ 1 92 0 16 = ρ 44 := m40
  have m41 : γ 1 92 0 17 = ρ 45 := m41
  have m42 : γ 1 92 0 18 = ρ 46 := m42
  have m43 : γ 1 92 0 19 = ρ 47 := m43
  have m45 : γ 0 73 0 (ρ 26) = ρ 49 := m45
  have m46 : γ 0 69 0 (ρ 26) = ρ 50 := m46
  obtain ⟨-, c2⟩ := hc
  have c2 : γ 2 = rUp (γ 1) 92 0 (ρ 50) (ρ 25) := c2
  show jn77 [ρ 0, ρ 1, ρ 2, ρ 3, ρ 4, ρ 5, ρ 6, ρ 7, ρ 8, ρ 9, ρ 10, ρ 11, ρ 12, ρ 13, ρ 14, ρ 15, ρ 16, ρ 17, ρ 18, ρ 19, ρ 20, ρ 21, ρ 22, ρ 23] (γ 0) 2 [ρ 0, ρ 1, ρ 2, ρ 3, ρ 4, ρ 5, ρ 6, ρ 7, ρ 8, ρ 9, ρ 10, ρ 11, ρ 12, ρ 13, ρ 14, ρ 15, ρ 16, ρ 17, ρ 18, ρ 19, ρ 20, ρ 21, ρ 22, ρ 23, ρ 26 + 1, 1, ρ 28, ρ 29, ρ 30, ρ 31, ρ 32, ρ 33, ρ 34, ρ 35, ρ 36, ρ 37, ρ 38, ρ 39, ρ 40, ρ 25, ρ 42, ρ 43, ρ 44, ρ 45, ρ 46, ρ 47, ρ 48] (γ 2)
  have hD : en77 (γ 0) (3, [ρ 24, ρ 25, ρ 26, ρ 27], γ 1) = .inl (2, [ρ 26 + 1, 1], γ 2) := by
    unfold en77
    refine (if_neg (show ¬ (3 : Nat) = 0 by decide)).trans ?_
    refine (if_neg (show ¬ (3 : Nat) = 1 by decide)).trans ?_
    refine (if_neg (show ¬ (3 : Nat) = 2 by decide)).trans ?_
    refine (if_pos (show (3 : Nat) = 3 by decide)).trans ?_
    refine (zLet_eq (show _ = γ 1 from rfl)).trans ?_
    refine (zLet_eq (show _ = ρ 24 from rfl)).trans ?_
    refine (zLet_eq (show _ = ρ 25 from rfl)).trans ?_
    refine (zLet_eq (show _ = ρ 26 from rfl)).trans ?_
    refine (zLet_eq (show _ = ρ 27 from rfl)).trans ?_
    refine (zLet_eq m24).trans ?_
    refine (zLet_eq m25).trans ?_
    refine (zLet_eq m26).trans ?_
    refine (zLet_eq m27).trans ?_
    refine (zLet_eq m28).trans ?_
    refine (zLet_eq m29).trans ?_
    refine (zLet_eq m30).trans ?_
    refine (zLet_eq m31).trans ?_
    refine (zLet_eq m32).trans ?_
    refine (zLet_eq m33).trans ?_
    refine (zLet_eq m34).trans ?_
    refine (zLet_eq m35).trans ?_
    refine (zLet_eq m36).trans ?_
    refine (zLet_eq m37).trans ?_
    refine (zLet_eq m38).trans ?_
    refine (zLet_eq m39).trans ?_
    refine (zLet_eq m40).trans ?_
    refine (zLet_eq m41).trans ?_
    refine (zLet_eq m42).trans ?_
    refine (zLet_eq m43).trans ?_
    refine (zLet_eq m45).trans ?_
    refine (if_pos w_0).trans ?_
    refine (if_pos w_1).trans ?_
    refine (zLet_eq m46).trans ?_
    refine (if_neg w_2).trans ?_
    refine (if_neg w_3).trans ?_
    refine (if_neg w_4).trans ?_
    refine (if_neg w_5).trans ?_
    refine (if_neg w_6).trans ?_
    refine (if_neg w_7).trans ?_
    refine (if_neg w_8).trans ?_
    refine (if_neg w_9).trans ?_
    refine (if_neg w_10).trans ?_
    refine (if_neg w_11).trans ?_
    refine (if_neg w_12).trans ?_
    refine (if_neg w_13).trans ?_
    refine (if_neg w_14).trans ?_
    refine (if_pos w_15).trans ?_
    refine (if_neg w_16).trans ?_
    refine (zLet_eq c2.symm).trans ?_
    rfl
  exact zGoo_ato hJ hD
theorem vn77a3_28 {S : Nat → zSpc}  {a : List Int} {g : rHp} : ∀ (ρ : Nat → Int) (γ : Nat → rHp), jn77 a g 3 (zAg (zNA a77_ 3) ρ) (γ 1) → zO 24 S a g q77a3_28 ρ γ → zGl (fun i vs g1 => jn77 a g i vs g1) (sn77 a g) q77a3_28 ρ γ := by
  intro ρ γ hJ h
  obtain ⟨ha, hg, hr, hf, hm, hc, hl⟩ := h
  have ha : a = [ρ 0, ρ 1, ρ 2, ρ 3, ρ 4, ρ 5, ρ 6, ρ 7, ρ 8, ρ 9, ρ 10, ρ 11, ρ 12, ρ 13, ρ 14, ρ 15, ρ 16, ρ 17, ρ 18, ρ 19, ρ 20, ρ 21, ρ 22, ρ 23] := ha
  subst ha
  subst hg
  have hJ : jn77 [ρ 0, ρ 1, ρ 2, ρ 3, ρ 4, ρ 5, ρ 6, ρ 7, ρ 8, ρ 9, ρ 10, ρ 11, ρ 12, ρ 13, ρ 14, ρ 15, ρ 16, ρ 17, ρ 18, ρ 19, ρ 20, ρ 21, ρ 22, ρ 23] (γ 0) 3 [ρ 0, ρ 1, ρ 2, ρ 3, ρ 4, ρ 5, ρ 6, ρ 7, ρ 8, ρ 9, ρ 10, ρ 11, ρ 12, ρ 13, ρ 14, ρ 15, ρ 16, ρ 17, ρ 18, ρ 19, ρ 20, ρ 21, ρ 22, ρ 23, ρ 24, ρ 25, ρ 26, ρ 27, ρ 28, ρ 29, ρ 30, ρ 31, ρ 32, ρ 33, ρ 34, ρ 35, ρ 36, ρ 37, ρ 38, ρ 39, ρ 40, ρ 41, ρ 42, ρ 43, ρ 44, ρ 45, ρ 46, ρ 47, ρ 48] (γ 1) := hJ
  obtain ⟨-, -, -, -, -, -, -, -, -, -, -, -, -, -, -, -, -, -, -, -, -, -, -, -, -, r25, -, -, -, -, -, -, -, -, -, -, -, -, -, -, -, -, -, -, -, -, -, -, -, -, r50, -⟩ := hr
  have r25 : (0 : Int) ≤ ρ 25 ∧ ρ 25 ≤ 20 := r25
  have r50 : (14 : Int) ≤ ρ 50 ∧ ρ 50 ≤ 14 := r50
  obtain ⟨f0, f1, -⟩ := hf
  have f0 : (0 : Int) ≤ ρ 42 + -ρ 25 := f0
  have f1 : (0 : Int) ≤ -ρ 49 + ((-8) * ρ 26 + ρ 24) := f1
  obtain ⟨w_0, w_1, w_2, w_3, w_4, w_5, w_6, w_7, w_8, w_9, w_10, w_11, w_12, w_13, w_14, w_15, w_16, w_17⟩ : (ρ 24 ≥ ρ 49 + 8 * ρ 26) ∧ (ρ 25 ≤ 20) ∧ (¬ (0 ≤ -ρ 50)) ∧ (¬ (0 ≤ -ρ 50 + 1)) ∧ (¬ (0 ≤ -ρ 50 + 2)) ∧ (¬ (0 ≤ -ρ 50 + 3)) ∧ (¬ (0 ≤ -ρ 50 + 4)) ∧ (¬ (0 ≤ -ρ 50 + 5)) ∧ (¬ (0 ≤ -ρ 50 + 6)) ∧ (¬ (0 ≤ -ρ 50 + 7)) ∧ (¬ (0 ≤ -ρ 50 + 8)) ∧ (¬ (0 ≤ -ρ 50 + 9)) ∧ (¬ (0 ≤ -ρ 50 + 10)) ∧ (¬ (0 ≤ -ρ 50 + 11)) ∧ (¬ (0 ≤ -ρ 50 + 12)) ∧ (¬ (0 ≤ -ρ 50 + 13)) ∧ (0 ≤ -ρ 50 + 14) ∧ (ρ 25 ≤ ρ 42) := ⟨by omega, by omega, by omega, by omega, by omega, by omega, by omega, by omega, by omega, by omega, by omega, by omega, by omega, by omega, by omega, by omega, by omega, by omega⟩
  obtain ⟨-, -, -, -, -, -, -, -, -, -, -, -, -, -, -, -, -, -, -, -, -, -, -, -, m24, m25, m26, m27, m28, m29, m30, m31, m32, m33, m34, m35, m36, m37, m38, m39, m40, m41, m42, m43, -, m45, m46, -⟩ := hm
  have m24 : γ 1 92 0 0 = ρ 28 := m24
  have m25 : γ 1 92 0 1 = ρ 29 := m25
  have m26 : γ 1 92 0 2 = ρ 30 := m26
  have m27 : γ 1 92 0 3 = ρ 31 := m27
  have m28 : γ 1 92 0 4 = ρ 32 := m28
  have m29 : γ 1 92 0 5 = ρ 33 := m29
  have m30 : γ 1 92 0 6 = ρ 34 := m30
  have m31 : γ 1 92 0 7 = ρ 35 := m31
  have m32 : γ 1 92 0 8 = ρ 36 := m32
  have m33 : γ 1 92 0 9 = ρ 37 := m33
  have m34 : γ 1 92 0 10 = ρ 38 := m34
  have m35 : γ 1 92 0 11 = ρ 39 := m35
  have m36 : γ 1 92 0 12 = ρ 40 := m36
  have m37 : γ 1 92 0 13 = ρ 41 := m37
  have m38 : γ 1 92 0 14 = ρ 42 := m38
  have m39 : γ 1 92 0 15 = ρ 43 := m39
  have m40 : γ 1 92 0 16 = ρ 44 := m40
  have m41 : γ 1 92 0 17 = ρ 45 := m41
  have m42 : γ 1 92 0 18 = ρ 46 := m42
  have m43 : γ 1 92 0 19 = ρ 47 := m43
  have m45 : γ 0 73 0 (ρ 26) = ρ 49 := m45
  have m46 : γ 0 69 0 (ρ 26) = ρ 50 := m46
  show jn77 [ρ 0, ρ 1, ρ 2, ρ 3, ρ 4, ρ 5, ρ 6, ρ 7, ρ 8, ρ 9, ρ 10, ρ 11, ρ 12, ρ 13, ρ 14, ρ 15, ρ 16, ρ 17, ρ 18, ρ 19, ρ 20, ρ 21, ρ 22, ρ 23] (γ 0) 2 [ρ 0, ρ 1, ρ 2, ρ 3, ρ 4, ρ 5, ρ 6, ρ 7, ρ 8, ρ 9, ρ 10, ρ 11, ρ 12, ρ 13, ρ 14, ρ 15, ρ 16, ρ 17, ρ 18, ρ 19, ρ 20, ρ 21, ρ 22, ρ 23, ρ 26 + 1, ρ 27, ρ 28, ρ 29, ρ 30, ρ 31, ρ 32, ρ 33, ρ 34, ρ 35, ρ 36, ρ 37, ρ 38, ρ 39, ρ 40, ρ 41, ρ 42, ρ 43, ρ 44, ρ 45, ρ 46, ρ 47, ρ 48] (γ 1)
  have hD : en77 (γ 0) (3, [ρ 24, ρ 25, ρ 26, ρ 27], γ 1) = .inl (2, [ρ 26 + 1, ρ 27], γ 1) := by
    unfold en77
    refine (if_neg (show ¬ (3 : Nat) = 0 by decide)).trans ?_
    refine (if_neg (show ¬ (3 : Nat) = 1 by decide)).trans ?_
    refine (if_neg (show ¬ (3 : Nat) = 2 by decide)).trans ?_
    refine (if_pos (show (3 : Nat) = 3 by decide)).trans ?_
    refine (zLet_eq (show _ = γ 1 from rfl)).trans ?_
    refine (zLet_eq (show _ = ρ 24 from rfl)).trans ?_
    refine (zLet_eq (show _ = ρ 25 from rfl)).trans ?_
    refine (zLet_eq (show _ = ρ 26 from rfl)).trans ?_
    refine (zLet_eq (show _ = ρ 27 from rfl)).trans ?_
    refine (zLet_eq m24).trans ?_
    refine (zLet_eq m25).trans ?_
    refine (zLet_eq m26).trans ?_
    refine (zLet_eq m27).trans ?_
    refine (zLet_eq m28).trans ?_
    refine (zLet_eq m29).trans ?_
    refine (zLet_eq m30).trans ?_
    refine (zLet_eq m31).trans ?_
    refine (zLet_eq m32).trans ?_
    refine (zLet_eq m33).trans ?_
    refine (zLet_eq m34).trans ?_
    refine (zLet_eq m35).trans ?_
    refine (zLet_eq m36).trans ?_
    refine (zLet_eq m37).trans ?_
    refine (zLet_eq m38).trans ?_
    refine (zLet_eq m39).trans ?_
    refine (zLet_eq m40).trans ?_
    refine (zLet_eq m41).trans ?_
    refine (zLet_eq m42).trans ?_
    refine (zLet_eq m43).trans ?_
    refine (zLet_eq m45).trans ?_
    refine (if_pos w_0).trans ?_
    refine (if_pos w_1).trans ?_
    refine (zLet_eq m46).trans ?_
    refine (if_neg w_2).trans ?_
    refine (if_neg w_3).trans ?_
    refine (if_neg w_4).trans ?_
    refine (if_neg w_5).trans ?_
    refine (if_neg w_6).trans ?_
    refine (if_neg w_7).trans ?_
    refine (if_neg w_8).trans ?_
    refine (if_neg w_9).trans ?_
    refine (if_neg w_10).trans ?_
    refine (if_neg w_11).trans ?_
    refine (if_neg w_12).trans ?_
    refine (if_neg w_13).trans ?_
    refine (if_neg w_14).trans ?_
    refine (if_neg w_15).trans ?_
    refine (if_pos w_16).trans ?_
    refine (if_pos w_17).trans ?_
    rfl
  exact zGoo_ato hJ hD
theorem vn77a3_29 {S : Nat → zSpc}  {a : List Int} {g : rHp} : ∀ (ρ : Nat → Int) (γ : Nat → rHp), jn77 a g 3 (zAg (zNA a77_ 3) ρ) (γ 1) → zO 24 S a g q77a3_29 ρ γ → zGl (fun i vs g1 => jn77 a g i vs g1) (sn77 a g) q77a3_29 ρ γ := by
  intro ρ γ hJ h
  obtain ⟨ha, hg, hr, hf, hm, hc, hl⟩ := h
  have ha : a = [ρ 0, ρ 1, ρ 2, ρ 3, ρ 4, ρ 5, ρ 6, ρ 7, ρ 8, ρ 9, ρ 10, ρ 11, ρ 12, ρ 13, ρ 14, ρ 15, ρ 16, ρ 17, ρ 18, ρ 19, ρ 20, ρ 21, ρ 22, ρ 23] := ha
  subst ha
  subst hg
  have hJ : jn77 [ρ 0, ρ 1, ρ 2, ρ 3, ρ 4, ρ 5, ρ 6, ρ 7, ρ 8, ρ 9, ρ 10, ρ 11, ρ 12, ρ 13, ρ 14, ρ 15, ρ 16, ρ 17, ρ 18, ρ 19, ρ 20, ρ 21, ρ 22, ρ 23] (γ 0) 3 [ρ 0, ρ 1, ρ 2, ρ 3, ρ 4, ρ 5, ρ 6, ρ 7, ρ 8, ρ 9, ρ 10, ρ 11, ρ 12, ρ 13, ρ 14, ρ 15, ρ 16, ρ 17, ρ 18, ρ 19, ρ 20, ρ 21, ρ 22, ρ 23, ρ 24, ρ 25, ρ 26, ρ 27, ρ 28, ρ 29, ρ 30, ρ 31, ρ 32, ρ 33, ρ 34, ρ 35, ρ 36, ρ 37, ρ 38, ρ 39, ρ 40, ρ 41, ρ 42, ρ 43, ρ 44, ρ 45, ρ 46, ρ 47, ρ 48] (γ 1) := hJ
  obtain ⟨-, -, -, -, -, -, -, -, -, -, -, -, -, -, -, -, -, -, -, -, -, -, -, -, -, r25, -, -, -, -, -, -, -, -, -, -, -, -, -, -, -, -, -, -, -, -, -, -, -, -, r50, -⟩ := hr
  have r25 : (0 : Int) ≤ ρ 25 ∧ ρ 25 ≤ 20 := r25
  have r50 : (14 : Int) ≤ ρ 50 ∧ ρ 50 ≤ 14 := r50
  obtain ⟨f0, f1, -⟩ := hf
  have f0 : (0 : Int) ≤ -ρ 42 + ρ 25 + (-1) := f0
  have f1 : (0 : Int) ≤ -ρ 49 + ((-8) * ρ 26 + ρ 24) := f1
  obtain ⟨w_0, w_1, w_2, w_3, w_4, w_5, w_6, w_7, w_8, w_9, w_10, w_11, w_12, w_13, w_14, w_15, w_16, w_17⟩ : (ρ 24 ≥ ρ 49 + 8 * ρ 26) ∧ (ρ 25 ≤ 20) ∧ (¬ (0 ≤ -ρ 50)) ∧ (¬ (0 ≤ -ρ 50 + 1)) ∧ (¬ (0 ≤ -ρ 50 + 2)) ∧ (¬ (0 ≤ -ρ 50 + 3)) ∧ (¬ (0 ≤ -ρ 50 + 4)) ∧ (¬ (0 ≤ -ρ 50 + 5)) ∧ (¬ (0 ≤ -ρ 50 + 6)) ∧ (¬ (0 ≤ -ρ 50 + 7)) ∧ (¬ (0 ≤ -ρ 50 + 8)) ∧ (¬ (0 ≤ -ρ 50 + 9)) ∧ (¬ (0 ≤ -ρ 50 + 10)) ∧ (¬ (0 ≤ -ρ 50 + 11)) ∧ (¬ (0 ≤ -ρ 50 + 12)) ∧ (¬ (0 ≤ -ρ 50 + 13)) ∧ (0 ≤ -ρ 50 + 14) ∧ (¬ (ρ 25 ≤ ρ 42)) := ⟨by omega, by omega, by omega, by omega, by omega, by omega, by omega, by omega, by omega, by omega, by omega, by omega, by omega, by omega, by omega, by omega, by omega, by omega⟩
  obtain ⟨-, -, -, -, -, -, -, -, -, -, -, -, -, -, -, -, -, -, -, -, -, -, -, -, m24, m25, m26, m27, m28, m29, m30, m31, m32, m33, m34, m35, m36, m37, m38, m39, m40, m41, m42, m43, -, m45, m46, -⟩ := hm
  have m24 : γ 1 92 0 0 = ρ 28 := m24
  have m25 : γ 1 92 0 1 = ρ 29 := m25
  have m26 : γ 1 92 0 2 = ρ 30 := m26
  have m27 : γ 1 92 0 3 = ρ 31 := m27
  have m28 : γ 1 92 0 4 = ρ 32 := m28
  have m29 : γ 1 92 0 5 = ρ 33 := m29
  have m30 : γ 1 92 0 6 = ρ 34 := m30
  have m31 : γ 1 92 0 7 = ρ 35 := m31
  have m32 : γ 1 92 0 8 = ρ 36 := m32
  have m33 : γ 1 92 0 9 = ρ 37 := m33
  have m34 : γ 1 92 0 10 = ρ 38 := m34
  have m35 : γ 1 92 0 11 = ρ 39 := m35
  have m36 : γ 1 92 0 12 = ρ 40 := m36
  have m37 : γ 1 92 0 13 = ρ 41 := m37
  have m38 : γ 1 92 0 14 = ρ 42 := m38
  have m39 : γ 1 92 0 15 = ρ 43 := m39
  have m40 : γ 1 92 0 16 = ρ 44 := m40
  have m41 : γ 1 92 0 17 = ρ 45 := m41
  have m42 : γ 1 92 0 18 = ρ 46 := m42
  have m43 : γ 1 92 0 19 = ρ 47 := m43
  have m45 : γ 0 73 0 (ρ 26) = ρ 49 := m45
  have m46 : γ 0 69 0 (ρ 26) = ρ 50 := m46
  obtain ⟨-, c2⟩ := hc
  have c2 : γ 2 = rUp (γ 1) 92 0 (ρ 50) (ρ 25) := c2
  show jn77 [ρ 0, ρ 1, ρ 2, ρ 3, ρ 4, ρ 5, ρ 6, ρ 7, ρ 8, ρ 9, ρ 10, ρ 11, ρ 12, ρ 13, ρ 14, ρ 15, ρ 16, ρ 17, ρ 18, ρ 19, ρ 20, ρ 21, ρ 22, ρ 23] (γ 0) 2 [ρ 0, ρ 1, ρ 2, ρ 3, ρ 4, ρ 5, ρ 6, ρ 7, ρ 8, ρ 9, ρ 10, ρ 11, ρ 12, ρ 13, ρ 14, ρ 15, ρ 16, ρ 17, ρ 18, ρ 19, ρ 20, ρ 21, ρ 22, ρ 23, ρ 26 + 1, 1, ρ 28, ρ 29, ρ 30, ρ 31, ρ 32, ρ 33, ρ 34, ρ 35, ρ 36, ρ 37, ρ 38, ρ 39, ρ 40, ρ 41, ρ 25, ρ 43, ρ 44, ρ 45, ρ 46, ρ 47, ρ 48] (γ 2)
  have hD : en77 (γ 0) (3, [ρ 24, ρ 25, ρ 26, ρ 27], γ 1) = .inl (2, [ρ 26 + 1, 1], γ 2) := by
    unfold en77
    refine (if_neg (show ¬ (3 : Nat) = 0 by decide)).trans ?_
    refine (if_neg (show ¬ (3 : Nat) = 1 by decide)).trans ?_
    refine (if_neg (show ¬ (3 : Nat) = 2 by decide)).trans ?_
    refine (if_pos (show (3 : Nat) = 3 by decide)).trans ?_
    refine (zLet_eq (show _ = γ 1 from rfl)).trans ?_
    refine (zLet_eq (show _ = ρ 24 from rfl)).trans ?_
    refine (zLet_eq (show _ = ρ 25 from rfl)).trans ?_
    refine (zLet_eq (show _ = ρ 26 from rfl)).trans ?_
    refine (zLet_eq (show _ = ρ 27 from rfl)).trans ?_
    refine (zLet_eq m24).trans ?_
    refine (zLet_eq m25).trans ?_
    refine (zLet_eq m26).trans ?_
    refine (zLet_eq m27).trans ?_
    refine (zLet_eq m28).trans ?_
    refine (zLet_eq m29).trans ?_
    refine (zLet_eq m30).trans ?_
    refine (zLet_eq m31).trans ?_
    refine (zLet_eq m32).trans ?_
    refine (zLet_eq m33).trans ?_
    refine (zLet_eq m34).trans ?_
    refine (zLet_eq m35).trans ?_
    refine (zLet_eq m36).trans ?_
    refine (zLet_eq m37).trans ?_
    refine (zLet_eq m38).trans ?_
    refine (zLet_eq m39).trans ?_
    refine (zLet_eq m40).trans ?_
    refine (zLet_eq m41).trans ?_
    refine (zLet_eq m42).trans ?_
    refine (zLet_eq m43).trans ?_
    refine (zLet_eq m45).trans ?_
    refine (if_pos w_0).trans ?_
    refine (if_pos w_1).trans ?_
    refine (zLet_eq m46).trans ?_
    refine (if_neg w_2).trans ?_
    refine (if_neg w_3).trans ?_
    refine (if_neg w_4).trans ?_
    refine (if_neg w_5).trans ?_
    refine (if_neg w_6).trans ?_
    refine (if_neg w_7).trans ?_
    refine (if_neg w_8).trans ?_
    refine (if_neg w_9).trans ?_
    refine (if_neg w_10).trans ?_
    refine (if_neg w_11).trans ?_
    refine (if_neg w_12).trans ?_
    refine (if_neg w_13).trans ?_
    refine (if_neg w_14).trans ?_
    refine (if_neg w_15).trans ?_
    refine (if_pos w_16).trans ?_
    refine (if_neg w_17).trans ?_
    refine (zLet_eq c2.symm).trans ?_
    rfl
  exact zGoo_ato hJ hD
theorem vn77a3_30 {S : Nat → zSpc}  {a : List Int} {g : rHp} : ∀ (ρ : Nat → Int) (γ : Nat → rHp), jn77 a g 3 (zAg (zNA a77_ 3) ρ) (γ 1) → zO 24 S a g q77a3_30 ρ γ → zGl (fun i vs g1 => jn77 a g i vs g1) (sn77 a g) q77a3_30 ρ γ := by
  intro ρ γ hJ h
  obtain ⟨ha, hg, hr, hf, hm, hc, hl⟩ := h
  have ha : a = [ρ 0, ρ 1, ρ 2, ρ 3, ρ 4, ρ 5, ρ 6, ρ 7, ρ 8, ρ 9, ρ 10, ρ 11, ρ 12, ρ 13, ρ 14, ρ 15, ρ 16, ρ 17, ρ 18, ρ 19, ρ 20, ρ 21, ρ 22, ρ 23] := ha
  subst ha
  subst hg
  have hJ : jn77 [ρ 0, ρ 1, ρ 2, ρ 3, ρ 4, ρ 5, ρ 6, ρ 7, ρ 8, ρ 9, ρ 10, ρ 11, ρ 12, ρ 13, ρ 14, ρ 15, ρ 16, ρ 17, ρ 18, ρ 19, ρ 20, ρ 21, ρ 22, ρ 23] (γ 0) 3 [ρ 0, ρ 1, ρ 2, ρ 3, ρ 4, ρ 5, ρ 6, ρ 7, ρ 8, ρ 9, ρ 10, ρ 11, ρ 12, ρ 13, ρ 14, ρ 15, ρ 16, ρ 17, ρ 18, ρ 19, ρ 20, ρ 21, ρ 22, ρ 23, ρ 24, ρ 25, ρ 26, ρ 27, ρ 28, ρ 29, ρ 30, ρ 31, ρ 32, ρ 33, ρ 34, ρ 35, ρ 36, ρ 37, ρ 38, ρ 39, ρ 40, ρ 41, ρ 42, ρ 43, ρ 44, ρ 45, ρ 46, ρ 47, ρ 48] (γ 1) := hJ
  obtain ⟨-, -, -, -, -, -, -, -, -, -, -, -, -, -, -, -, -, -, -, -, -, -, -, -, -, r25, -, -, -, -, -, -, -, -, -, -, -, -, -, -, -, -, -, -, -, -, -, -, -, -, r50, -⟩ := hr
  have r25 : (0 : Int) ≤ ρ 25 ∧ ρ 25 ≤ 20 := r25
  have r50 : (15 : Int) ≤ ρ 50 ∧ ρ 50 ≤ 15 := r50
  obtain ⟨f0, f1, -⟩ := hf
  have f0 : (0 : Int) ≤ ρ 43 + -ρ 25 := f0
  have f1 : (0 : Int) ≤ -ρ 49 + ((-8) * ρ 26 + ρ 24) := f1
  obtain ⟨w_0, w_1, w_2, w_3, w_4, w_5, w_6, w_7, w_8, w_9, w_10, w_11, w_12, w_13, w_14, w_15, w_16, w_17, w_18⟩ : (ρ 24 ≥ ρ 49 + 8 * ρ 26) ∧ (ρ 25 ≤ 20) ∧ (¬ (0 ≤ -ρ 50)) ∧ (¬ (0 ≤ -ρ 50 + 1)) ∧ (¬ (0 ≤ -ρ 50 + 2)) ∧ (¬ (0 ≤ -ρ 50 + 3)) ∧ (¬ (0 ≤ -ρ 50 + 4)) ∧ (¬ (0 ≤ -ρ 50 + 5)) ∧ (¬ (0 ≤ -ρ 50 + 6)) ∧ (¬ (0 ≤ -ρ 50 + 7)) ∧ (¬ (0 ≤ -ρ 50 + 8)) ∧ (¬ (0 ≤ -ρ 50 + 9)) ∧ (¬ (0 ≤ -ρ 50 + 10)) ∧ (¬ (0 ≤ -ρ 50 + 11)) ∧ (¬ (0 ≤ -ρ 50 + 12)) ∧ (¬ (0 ≤ -ρ 50 + 13)) ∧ (¬ (0 ≤ -ρ 50 + 14)) ∧ (0 ≤ -ρ 50 + 15) ∧ (ρ 25 ≤ ρ 43) := ⟨by omega, by omega, by omega, by omega, by omega, by omega, by omega, by omega, by omega, by omega, by omega, by omega, by omega, by omega, by omega, by omega, by omega, by omega, by omega⟩
  obtain ⟨-, -, -, -, -, -, -, -, -, -, -, -, -, -, -, -, -, -, -, -, -, -, -, -, m24, m25, m26, m27, m28, m29, m30, m31, m32, m33, m34, m35, m36, m37, m38, m39, m40, m41, m42, m43, -, m45, m46, -⟩ := hm
  have m24 : γ 1 92 0 0 = ρ 28 := m24
  have m25 : γ 1 92 0 1 = ρ 29 := m25
  have m26 : γ 1 92 0 2 = ρ 30 := m26
  have m27 : γ 1 92 0 3 = ρ 31 := m27
  have m28 : γ 1 92 0 4 = ρ 32 := m28
  have m29 : γ 1 92 0 5 = ρ 33 := m29
  have m30 : γ 1 92 0 6 = ρ 34 := m30
  have m31 : γ 1 92 0 7 = ρ 35 := m31
  have m32 : γ 1 92 0 8 = ρ 36 := m32
  have m33 : γ 1 92 0 9 = ρ 37 := m33
  have m34 : γ 1 92 0 10 = ρ 38 := m34
  have m35 : γ 1 92 0 11 = ρ 39 := m35
  have m36 : γ 1 92 0 12 = ρ 40 := m36
  have m37 : γ 1 92 0 13 = ρ 41 := m37
  have m38 : γ 1 92 0 14 = ρ 42 := m38
  have m39 : γ 1 92 0 15 = ρ 43 := m39
  have m40 : γ 1 92 0 16 = ρ 44 := m40
  have m41 : γ 1 92 0 17 = ρ 45 := m41
  have m42 : γ 1 92 0 18 = ρ 46 := m42
  have m43 : γ 1 92 0 19 = ρ 47 := m43
  have m45 : γ 0 73 0 (ρ 26) = ρ 49 := m45
  have m46 : γ 0 69 0 (ρ 26) = ρ 50 := m46
  show jn77 [ρ 0, ρ 1, ρ 2, ρ 3, ρ 4, ρ 5, ρ 6, ρ 7, ρ 8, ρ 9, ρ 10, ρ 11, ρ 12, ρ 13, ρ 14, ρ 15, ρ 16, ρ 17, ρ 18, ρ 19, ρ 20, ρ 21, ρ 22, ρ 23] (γ 0) 2 [ρ 0, ρ 1, ρ 2, ρ 3, ρ 4, ρ 5, ρ 6, ρ 7, ρ 8, ρ 9, ρ 10, ρ 11, ρ 12, ρ 13, ρ 14, ρ 15, ρ 16, ρ 17, ρ 18, ρ 19, ρ 20, ρ 21, ρ 22, ρ 23, ρ 26 + 1, ρ 27, ρ 28, ρ 29, ρ 30, ρ 31, ρ 32, ρ 33, ρ 34, ρ 35, ρ 36, ρ 37, ρ 38, ρ 39, ρ 40, ρ 41, ρ 42, ρ 43, ρ 44, ρ 45, ρ 46, ρ 47, ρ 48] (γ 1)
  have hD : en77 (γ 0) (3, [ρ 24, ρ 25, ρ 26, ρ 27], γ 1) = .inl (2, [ρ 26 + 1, ρ 27], γ 1) := by
    unfold en77
    refine (if_neg (show ¬ (3 : Nat) = 0 by decide)).trans ?_
    refine (if_neg (show ¬ (3 : Nat) = 1 by decide)).trans ?_
    refine (if_neg (show ¬ (3 : Nat) = 2 by decide)).trans ?_
    refine (if_pos (show (3 : Nat) = 3 by decide)).trans ?_
    refine (zLet_eq (show _ = γ 1 from rfl)).trans ?_
    refine (zLet_eq (show _ = ρ 24 from rfl)).trans ?_
    refine (zLet_eq (show _ = ρ 25 from rfl)).trans ?_
    refine (zLet_eq (show _ = ρ 26 from rfl)).trans ?_
    refine (zLet_eq (show _ = ρ 27 from rfl)).trans ?_
    refine (zLet_eq m24).trans ?_
    refine (zLet_eq m25).trans ?_
    refine (zLet_eq m26).trans ?_
    refine (zLet_eq m27).trans ?_
    refine (zLet_eq m28).trans ?_
    refine (zLet_eq m29).trans ?_
    refine (zLet_eq m30).trans ?_
    refine (zLet_eq m31).trans ?_
    refine (zLet_eq m32).trans ?_
    refine (zLet_eq m33).trans ?_
    refine (zLet_eq m34).trans ?_
    refine (zLet_eq m35).trans ?_
    refine (zLet_eq m36).trans ?_
    refine (zLet_eq m37).trans ?_
    refine (zLet_eq m38).trans ?_
    refine (zLet_eq m39).trans ?_
    refine (zLet_eq m40).trans ?_
    refine (zLet_eq m41).trans ?_
    refine (zLet_eq m42).trans ?_
    refine (zLet_eq m43).trans ?_
    refine (zLet_eq m45).trans ?_
    refine (if_pos w_0).trans ?_
    refine (if_pos w_1).trans ?_
    refine (zLet_eq m46).trans ?_
    refine (if_neg w_2).trans ?_
    refine (if_neg w_3).trans ?_
    refine (if_neg w_4).trans ?_
    refine (if_neg w_5).trans ?_
    refine (if_neg w_6).trans ?_
    refine (if_neg w_7).trans ?_
    refine (if_neg w_8).trans ?_
    refine (if_neg w_9).trans ?_
    refine (if_neg w_10).trans ?_
    refine (if_neg w_11).trans ?_
    refine (if_neg w_12).trans ?_
    refine (if_neg w_13).trans ?_
    refine (if_neg w_14).trans ?_
    refine (if_neg w_15).trans ?_
    refine (if_neg w_16).trans ?_
    refine (if_pos w_17).trans ?_
    refine (if_pos w_18).trans ?_
    rfl
  exact zGoo_ato hJ hD
theorem vn77a3_31 {S : Nat → zSpc}  {a : List Int} {g : rHp} : ∀ (ρ : Nat → Int) (γ : Nat → rHp), jn77 a g 3 (zAg (zNA a77_ 3) ρ) (γ 1) → zO 24 S a g q77a3_31 ρ γ → zGl (fun i vs g1 => jn77 a g i vs g1) (sn77 a g) q77a3_31 ρ γ := by
  intro ρ γ hJ h
  obtain ⟨ha, hg, hr, hf, hm, hc, hl⟩ := h
  have ha : a = [ρ 0, ρ 1, ρ 2, ρ 3, ρ 4, ρ 5, ρ 6, ρ 7, ρ 8, ρ 9, ρ 10, ρ 11, ρ 12, ρ 13, ρ 14, ρ 15, ρ 16, ρ 17, ρ 18, ρ 19, ρ 20, ρ 21, ρ 22, ρ 23] := ha
  subst ha
  subst hg
  have hJ : jn77 [ρ 0, ρ 1, ρ 2, ρ 3, ρ 4, ρ 5, ρ 6, ρ 7, ρ 8, ρ 9, ρ 10, ρ 11, ρ 12, ρ 13, ρ 14, ρ 15, ρ 16, ρ 17, ρ 18, ρ 19, ρ 20, ρ 21, ρ 22, ρ 23] (γ 0) 3 [ρ 0, ρ 1, ρ 2, ρ 3, ρ 4, ρ 5, ρ 6, ρ 7, ρ 8, ρ 9, ρ 10, ρ 11, ρ 12, ρ 13, ρ 14, ρ 15, ρ 16, ρ 17, ρ 18, ρ 19, ρ 20, ρ 21, ρ 22, ρ 23, ρ 24, ρ 25, ρ 26, ρ 27, ρ 28, ρ 29, ρ 30, ρ 31, ρ 32, ρ 33, ρ 34, ρ 35, ρ 36, ρ 37, ρ 38, ρ 39, ρ 40, ρ 41, ρ 42, ρ 43, ρ 44, ρ 45, ρ 46, ρ 47, ρ 48] (γ 1) := hJ
  obtain ⟨-, -, -, -, -, -, -, -, -, -, -, -, -, -, -, -, -, -, -, -, -, -, -, -, -, r25, -, -, -, -, -, -, -, -, -, -, -, -, -, -, -, -, -, -, -, -, -, -, -, -, r50, -⟩ := hr
  have r25 : (0 : Int) ≤ ρ 25 ∧ ρ 25 ≤ 20 := r25
  have r50 : (15 : Int) ≤ ρ 50 ∧ ρ 50 ≤ 15 := r50
  obtain ⟨f0, f1, -⟩ := hf
  have f0 : (0 : Int) ≤ -ρ 43 + ρ 25 + (-1) := f0
  have f1 : (0 : Int) ≤ -ρ 49 + ((-8) * ρ 26 + ρ 24) := f1
  obtain ⟨w_0, w_1, w_2, w_3, w_4, w_5, w_6, w_7, w_8, w_9, w_10, w_11, w_12, w_13, w_14, w_15, w_16, w_17, w_18⟩ : (ρ 24 ≥ ρ 49 + 8 * ρ 26) ∧ (ρ 25 ≤ 20) ∧ (¬ (0 ≤ -ρ 50)) ∧ (¬ (0 ≤ -ρ 50 + 1)) ∧ (¬ (0 ≤ -ρ 50 + 2)) ∧ (¬ (0 ≤ -ρ 50 + 3)) ∧ (¬ (0 ≤ -ρ 50 + 4)) ∧ (¬ (0 ≤ -ρ 50 + 5)) ∧ (¬ (0 ≤ -ρ 50 + 6)) ∧ (¬ (0 ≤ -ρ 50 + 7)) ∧ (¬ (0 ≤ -ρ 50 + 8)) ∧ (¬ (0 ≤ -ρ 50 + 9)) ∧ (¬ (0 ≤ -ρ 50 + 10)) ∧ (¬ (0 ≤ -ρ 50 + 11)) ∧ (¬ (0 ≤ -ρ 50 + 12)) ∧ (¬ (0 ≤ -ρ 50 + 13)) ∧ (¬ (0 ≤ -ρ 50 + 14)) ∧ (0 ≤ -ρ 50 + 15) ∧ (¬ (ρ 25 ≤ ρ 43)) := ⟨by omega, by omega, by omega, by omega, by omega, by omega, by omega, by omega, by omega, by omega, by omega, by omega, by omega, by omega, by omega, by omega, by omega, by omega, by omega⟩
  obtain ⟨-, -, -, -, -, -, -, -, -, -, -, -, -, -, -, -, -, -, -, -, -, -, -, -, m24, m25, m26, m27, m28, m29, m30, m31, m32, m33, m34, m35, m36, m37, m38, m39, m40, m41, m42, m43, -, m45, m46, -⟩ := hm
  have m24 : γ 1 92 0 0 = ρ 28 := m24
  have m25 : γ 1 92 0 1 = ρ 29 := m25
  have m26 : γ 1 92 0 2 = ρ 30 := m26
  have m27 : γ 1 92 0 3 = ρ 31 := m27
  have m28 : γ 1 92 0 4 = ρ 32 := m28
  have m29 : γ 1 92 0 5 = ρ 33 := m29
  have m30 : γ 1 92 0 6 = ρ 34 := m30
  have m31 : γ 1 92 0 7 = ρ 35 := m31
  have m32 : γ 1 92 0 8 = ρ 36 := m32
  have m33 : γ 1 92 0 9 = ρ 37 := m33
  have m34 : γ 1 92 0 10 = ρ 38 := m34
  have m35 : γ 1 92 0 11 = ρ 39 := m35
  have m36 : γ 1 92 0 12 = ρ 40 := m36
  have m37 : γ 1 92 0 13 = ρ 41 := m37
  have m38 : γ 1 92 0 14 = ρ 42 := m38
  have m39 : γ 1 92 0 15 = ρ 43 := m39
  have m40 : γ 1 92 0 16 = ρ 44 := m40
  have m41 : γ 1 92 0 17 = ρ 45 := m41
  have m42 : γ 1 92 0 18 = ρ 46 := m42
  have m43 : γ 1 92 0 19 = ρ 47 := m43
  have m45 : γ 0 73 0 (ρ 26) = ρ 49 := m45
  have m46 : γ 0 69 0 (ρ 26) = ρ 50 := m46
  obtain ⟨-, c2⟩ := hc
  have c2 : γ 2 = rUp (γ 1) 92 0 (ρ 50) (ρ 25) := c2
  show jn77 [ρ 0, ρ 1, ρ 2, ρ 3, ρ 4, ρ 5, ρ 6, ρ 7, ρ 8, ρ 9, ρ 10, ρ 11, ρ 12, ρ 13, ρ 14, ρ 15, ρ 16, ρ 17, ρ 18, ρ 19, ρ 20, ρ 21, ρ 22, ρ 23] (γ 0) 2 [ρ 0, ρ 1, ρ 2, ρ 3, ρ 4, ρ 5, ρ 6, ρ 7, ρ 8, ρ 9, ρ 10, ρ 11, ρ 12, ρ 13, ρ 14, ρ 15, ρ 16, ρ 17, ρ 18, ρ 19, ρ 20, ρ 21, ρ 22, ρ 23, ρ 26 + 1, 1, ρ 28, ρ 29, ρ 30, ρ 31, ρ 32, ρ 33, ρ 34, ρ 35, ρ 36, ρ 37, ρ 38, ρ 39, ρ 40, ρ 41, ρ 42, ρ 25, ρ 44, ρ 45, ρ 46, ρ 47, ρ 48] (γ 2)
  have hD : en77 (γ 0) (3, [ρ 24, ρ 25, ρ 26, ρ 27], γ 1) = .inl (2, [ρ 26 + 1, 1], γ 2) := by
    unfold en77
    refine (if_neg (show ¬ (3 : Nat) = 0 by decide)).trans ?_
    refine (if_neg (show ¬ (3 : Nat) = 1 by decide)).trans ?_
    refine (if_neg (show ¬ (3 : Nat) = 2 by decide)).trans ?_
    refine (if_pos (show (3 : Nat) = 3 by decide)).trans ?_
    refine (zLet_eq (show _ = γ 1 from rfl)).trans ?_
    refine (zLet_eq (show _ = ρ 24 from rfl)).trans ?_
    refine (zLet_eq (show _ = ρ 25 from rfl)).trans ?_
    refine (zLet_eq (show _ = ρ 26 from rfl)).trans ?_
    refine (zLet_eq (show _ = ρ 27 from rfl)).trans ?_
    refine (zLet_eq m24).trans ?_
    refine (zLet_eq m25).trans ?_
    refine (zLet_eq m26).trans ?_
    refine (zLet_eq m27).trans ?_
    refine (zLet_eq m28).trans ?_
    refine (zLet_eq m29).trans ?_
    refine (zLet_eq m30).trans ?_
    refine (zLet_eq m31).trans ?_
    refine (zLet_eq m32).trans ?_
    refine (zLet_eq m33).trans ?_
    refine (zLet_eq m34).trans ?_
    refine (zLet_eq m35).trans ?_
    refine (zLet_eq m36).trans ?_
    refine (zLet_eq m37).trans ?_
    refine (zLet_eq m38).trans ?_
    refine (zLet_eq m39).trans ?_
    refine (zLet_eq m40).trans ?_
    refine (zLet_eq m41).trans ?_
    refine (zLet_eq m42).trans ?_
    refine (zLet_eq m43).trans ?_
    refine (zLet_eq m45).trans ?_
    refine (if_pos w_0).trans ?_
    refine (if_pos w_1).trans ?_
    refine (zLet_eq m46).trans ?_
    refine (if_neg w_2).trans ?_
    refine (if_neg w_3).trans ?_
    refine (if_neg w_4).trans ?_
    refine (if_neg w_5).trans ?_
    refine (if_neg w_6).trans ?_
    refine (if_neg w_7).trans ?_
    refine (if_neg w_8).trans ?_
    refine (if_neg w_9).trans ?_
    refine (if_neg w_10).trans ?_
    refine (if_neg w_11).trans ?_
    refine (if_neg w_12).trans ?_
    refine (if_neg w_13).trans ?_
    refine (if_neg w_14).trans ?_
    refine (if_neg w_15).trans ?_
    refine (if_neg w_16).trans ?_
    refine (if_pos w_17).trans ?_
    refine (if_neg w_18).trans ?_
    refine (zLet_eq c2.symm).trans ?_
    rfl
  exact zGoo_ato hJ hD
theorem vn77a3_32 {S : Nat → zSpc}  {a : List Int} {g : rHp} : ∀ (ρ : Nat → Int) (γ : Nat → rHp), jn77 a g 3 (zAg (zNA a77_ 3) ρ) (γ 1) → zO 24 S a g q77a3_32 ρ γ → zGl (fun i vs g1 => jn77 a g i vs g1) (sn77 a g) q77a3_32 ρ γ := by
  intro ρ γ hJ h
  obtain ⟨ha, hg, hr, hf, hm, hc, hl⟩ := h
  have ha : a = [ρ 0, ρ 1, ρ 2, ρ 3, ρ 4, ρ 5, ρ 6, ρ 7, ρ 8, ρ 9, ρ 10, ρ 11, ρ 12, ρ 13, ρ 14, ρ 15, ρ 16, ρ 17, ρ 18, ρ 19, ρ 20, ρ 21, ρ 22, ρ 23] := ha
  subst ha
  subst hg
  have hJ : jn77 [ρ 0, ρ 1, ρ 2, ρ 3, ρ 4, ρ 5, ρ 6, ρ 7, ρ 8, ρ 9, ρ 10, ρ 11, ρ 12, ρ 13, ρ 14, ρ 15, ρ 16, ρ 17, ρ 18, ρ 19, ρ 20, ρ 21, ρ 22, ρ 23] (γ 0) 3 [ρ 0, ρ 1, ρ 2, ρ 3, ρ 4, ρ 5, ρ 6, ρ 7, ρ 8, ρ 9, ρ 10, ρ 11, ρ 12, ρ 13, ρ 14, ρ 15, ρ 16, ρ 17, ρ 18, ρ 19, ρ 20, ρ 21, ρ 22, ρ 23, ρ 24, ρ 25, ρ 26, ρ 27, ρ 28, ρ 29, ρ 30, ρ 31, ρ 32, ρ 33, ρ 34, ρ 35, ρ 36, ρ 37, ρ 38, ρ 39, ρ 40, ρ 41, ρ 42, ρ 43, ρ 44, ρ 45, ρ 46, ρ 47, ρ 48] (γ 1) := hJ
  obtain ⟨-, -, -, -, -, -, -, -, -, -, -, -, -, -, -, -, -, -, -, -, -, -, -, -, -, r25, -, -, -, -, -, -, -, -, -, -, -, -, -, -, -, -, -, -, -, -, -, -, -, -, r50, -⟩ := hr
  have r25 : (0 : Int) ≤ ρ 25 ∧ ρ 25 ≤ 20 := r25
  have r50 : (16 : Int) ≤ ρ 50 ∧ ρ 50 ≤ 16 := r50
  obtain ⟨f0, f1, -⟩ := hf
  have f0 : (0 : Int) ≤ ρ 44 + -ρ 25 := f0
  have f1 : (0 : Int) ≤ -ρ 49 + ((-8) * ρ 26 + ρ 24) := f1
  obtain ⟨w_0, w_1, w_2, w_3, w_4, w_5, w_6, w_7, w_8, w_9, w_10, w_11, w_12, w_13, w_14, w_15, w_16, w_17, w_18, w_19⟩ : (ρ 24 ≥ ρ 49 + 8 * ρ 26) ∧ (ρ 25 ≤ 20) ∧ (¬ (0 ≤ -ρ 50)) ∧ (¬ (0 ≤ -ρ 50 + 1)) ∧ (¬ (0 ≤ -ρ 50 + 2)) ∧ (¬ (0 ≤ -ρ 50 + 3)) ∧ (¬ (0 ≤ -ρ 50 + 4)) ∧ (¬ (0 ≤ -ρ 50 + 5)) ∧ (¬ (0 ≤ -ρ 50 + 6)) ∧ (¬ (0 ≤ -ρ 50 + 7)) ∧ (¬ (0 ≤ -ρ 50 + 8)) ∧ (¬ (0 ≤ -ρ 50 + 9)) ∧ (¬ (0 ≤ -ρ 50 + 10)) ∧ (¬ (0 ≤ -ρ 50 + 11)) ∧ (¬ (0 ≤ -ρ 50 + 12)) ∧ (¬ (0 ≤ -ρ 50 + 13)) ∧ (¬ (0 ≤ -ρ 50 + 14)) ∧ (¬ (0 ≤ -ρ 50 + 15)) ∧ (0 ≤ -ρ 50 + 16) ∧ (ρ 25 ≤ ρ 44) := ⟨by omega, by omega, by omega, by omega, by omega, by omega, by omega, by omega, by omega, by omega, by omega, by omega, by omega, by omega, by omega, by omega, by omega, by omega, by omega, by omega⟩
  obtain ⟨-, -, -, -, -, -, -, -, -, -, -, -, -, -, -, -, -, -, -, -, -, -, -, -, m24, m25, m26, m27, m28, m29, m30, m31, m32, m33, m34, m35, m36, m37, m38, m39, m40, m41, m42, m43, -, m45, m46, -⟩ := hm
  have m24 : γ 1 92 0 0 = ρ 28 := m24
  have m25 : γ 1 92 0 1 = ρ 29 := m25
  have m26 : γ 1 92 0 2 = ρ 30 := m26
  have m27 : γ 1 92 0 3 = ρ 31 := m27
  have m28 : γ 1 92 0 4 = ρ 32 := m28
  have m29 : γ 1 92 0 5 = ρ 33 := m29
  have m30 : γ 1 92 0 6 = ρ 34 := m30
  have m31 : γ 1 92 0 7 = ρ 35 := m31
  have m32 : γ 1 92 0 8 = ρ 36 := m32
  have m33 : γ 1 92 0 9 = ρ 37 := m33
  have m34 : γ 1 92 0 10 = ρ 38 := m34
  have m35 : γ 1 92 0 11 = ρ 39 := m35
  have m36 : γ 1 92 0 12 = ρ 40 := m36
  have m37 : γ 1 92 0 13 = ρ 41 := m37
  have m38 : γ 1 92 0 14 = ρ 42 := m38
  have m39 : γ 1 92 0 15 = ρ 43 := m39
  have m40 : γ 1 92 0 16 = ρ 44 := m40
  have m41 : γ 1 92 0 17 = ρ 45 := m41
  have m42 : γ 1 92 0 18 = ρ 46 := m42
  have m43 : γ 1 92 0 19 = ρ 47 := m43
  have m45 : γ 0 73 0 (ρ 26) = ρ 49 := m45
  have m46 : γ 0 69 0 (ρ 26) = ρ 50 := m46
  show jn77 [ρ 0, ρ 1, ρ 2, ρ 3, ρ 4, ρ 5, ρ 6, ρ 7, ρ 8, ρ 9, ρ 10, ρ 11, ρ 12, ρ 13, ρ 14, ρ 15, ρ 16, ρ 17, ρ 18, ρ 19, ρ 20, ρ 21, ρ 22, ρ 23] (γ 0) 2 [ρ 0, ρ 1, ρ 2, ρ 3, ρ 4, ρ 5, ρ 6, ρ 7, ρ 8, ρ 9, ρ 10, ρ 11, ρ 12, ρ 13, ρ 14, ρ 15, ρ 16, ρ 17, ρ 18, ρ 19, ρ 20, ρ 21, ρ 22, ρ 23, ρ 26 + 1, ρ 27, ρ 28, ρ 29, ρ 30, ρ 31, ρ 32, ρ 33, ρ 34, ρ 35, ρ 36, ρ 37, ρ 38, ρ 39, ρ 40, ρ 41, ρ 42, ρ 43, ρ 44, ρ 45, ρ 46, ρ 47, ρ 48] (γ 1)
  have hD : en77 (γ 0) (3, [ρ 24, ρ 25, ρ 26, ρ 27], γ 1) = .inl (2, [ρ 26 + 1, ρ 27], γ 1) := by
    unfold en77
    refine (if_neg (show ¬ (3 : Nat) = 0 by decide)).trans ?_
    refine (if_neg (show ¬ (3 : Nat) = 1 by decide)).trans ?_
    refine (if_neg (show ¬ (3 : Nat) = 2 by decide)).trans ?_
    refine (if_pos (show (3 : Nat) = 3 by decide)).trans ?_
    refine (zLet_eq (show _ = γ 1 from rfl)).trans ?_
    refine (zLet_eq (show _ = ρ 24 from rfl)).trans ?_
    refine (zLet_eq (show _ = ρ 25 from rfl)).trans ?_
    refine (zLet_eq (show _ = ρ 26 from rfl)).trans ?_
    refine (zLet_eq (show _ = ρ 27 from rfl)).trans ?_
    refine (zLet_eq m24).trans ?_
    refine (zLet_eq m25).trans ?_
    refine (zLet_eq m26).trans ?_
    refine (zLet_eq m27).trans ?_
    refine (zLet_eq m28).trans ?_
    refine (zLet_eq m29).trans ?_
    refine (zLet_eq m30).trans ?_
    refine (zLet_eq m31).trans ?_
    refine (zLet_eq m32).trans ?_
    refine (zLet_eq m33).trans ?_
    refine (zLet_eq m34).trans ?_
    refine (zLet_eq m35).trans ?_
    refine (zLet_eq m36).trans ?_
    refine (zLet_eq m37).trans ?_
    refine (zLet_eq m38).trans ?_
    refine (zLet_eq m39).trans ?_
    refine (zLet_eq m40).trans ?_
    refine (zLet_eq m41).trans ?_
    refine (zLet_eq m42).trans ?_
    refine (zLet_eq m43).trans ?_
    refine (zLet_eq m45).trans ?_
    refine (if_pos w_0).trans ?_
    refine (if_pos w_1).trans ?_
    refine (zLet_eq m46).trans ?_
    refine (if_neg w_2).trans ?_
    refine (if_neg w_3).trans ?_
    refine (if_neg w_4).trans ?_
    refine (if_neg w_5).trans ?_
    refine (if_neg w_6).trans ?_
    refine (if_neg w_7).trans ?_
    refine (if_neg w_8).trans ?_
    refine (if_neg w_9).trans ?_
    refine (if_neg w_10).trans ?_
    refine (if_neg w_11).trans ?_
    refine (if_neg w_12).trans ?_
    refine (if_neg w_13).trans ?_
    refine (if_neg w_14).trans ?_
    refine (if_neg w_15).trans ?_
    refine (if_neg w_16).trans ?_
    refine (if_neg w_17).trans ?_
    refine (if_pos w_18).trans ?_
    refine (if_pos w_19).trans ?_
    rfl
  exact zGoo_ato hJ hD
theorem vn77a3_33 {S : Nat → zSpc}  {a : List Int} {g : rHp} : ∀ (ρ : Nat → Int) (γ : Nat → rHp), jn77 a g 3 (zAg (zNA a77_ 3) ρ) (γ 1) → zO 24 S a g q77a3_33 ρ γ → zGl (fun i vs g1 => jn77 a g i vs g1) (sn77 a g) q77a3_33 ρ γ := by
  intro ρ γ hJ h
  obtain ⟨ha, hg, hr, hf, hm, hc, hl⟩ := h
  have ha : a = [ρ 0, ρ 1, ρ 2, ρ 3, ρ 4, ρ 5, ρ 6, ρ 7, ρ 8, ρ 9, ρ 10, ρ 11, ρ 12, ρ 13, ρ 14, ρ 15, ρ 16, ρ 17, ρ 18, ρ 19, ρ 20, ρ 21, ρ 22, ρ 23] := ha
  subst ha
  subst hg
  have hJ : jn77 [ρ 0, ρ 1, ρ 2, ρ 3, ρ 4, ρ 5, ρ 6, ρ 7, ρ 8, ρ 9, ρ 10, ρ 11, ρ 12, ρ 13, ρ 14, ρ 15, ρ 16, ρ 17, ρ 18, ρ 19, ρ 20, ρ 21, ρ 22, ρ 23] (γ 0) 3 [ρ 0, ρ 1, ρ 2, ρ 3, ρ 4, ρ 5, ρ 6, ρ 7, ρ 8, ρ 9, ρ 10, ρ 11, ρ 12, ρ 13, ρ 14, ρ 15, ρ 16, ρ 17, ρ 18, ρ 19, ρ 20, ρ 21, ρ 22, ρ 23, ρ 24, ρ 25, ρ 26, ρ 27, ρ 28, ρ 29, ρ 30, ρ 31, ρ 32, ρ 33, ρ 34, ρ 35, ρ 36, ρ 37, ρ 38, ρ 39, ρ 40, ρ 41, ρ 42, ρ 43, ρ 44, ρ 45, ρ 46, ρ 47, ρ 48] (γ 1) := hJ
  obtain ⟨-, -, -, -, -, -, -, -, -, -, -, -, -, -, -, -, -, -, -, -, -, -, -, -, -, r25, -, -, -, -, -, -, -, -, -, -, -, -, -, -, -, -, -, -, -, -, -, -, -, -, r50, -⟩ := hr
  have r25 : (0 : Int) ≤ ρ 25 ∧ ρ 25 ≤ 20 := r25
  have r50 : (16 : Int) ≤ ρ 50 ∧ ρ 50 ≤ 16 := r50
  obtain ⟨f0, f1, -⟩ := hf
  have f0 : (0 : Int) ≤ -ρ 44 + ρ 25 + (-1) := f0
  have f1 : (0 : Int) ≤ -ρ 49 + ((-8) * ρ 26 + ρ 24) := f1
  obtain ⟨w_0, w_1, w_2, w_3, w_4, w_5, w_6, w_7, w_8, w_9, w_10, w_11, w_12, w_13, w_14, w_15, w_16, w_17, w_18, w_19⟩ : (ρ 24 ≥ ρ 49 + 8 * ρ 26) ∧ (ρ 25 ≤ 20) ∧ (¬ (0 ≤ -ρ 50)) ∧ (¬ (0 ≤ -ρ 50 + 1)) ∧ (¬ (0 ≤ -ρ 50 + 2)) ∧ (¬ (0 ≤ -ρ 50 + 3)) ∧ (¬ (0 ≤ -ρ 50 + 4)) ∧ (¬ (0 ≤ -ρ 50 + 5)) ∧ (¬ (0 ≤ -ρ 50 + 6)) ∧ (¬ (0 ≤ -ρ 50 + 7)) ∧ (¬ (0 ≤ -ρ 50 + 8)) ∧ (¬ (0 ≤ -ρ 50 + 9)) ∧ (¬ (0 ≤ -ρ 50 + 10)) ∧ (¬ (0 ≤ -ρ 50 + 11)) ∧ (¬ (0 ≤ -ρ 50 + 12)) ∧ (¬ (0 ≤ -ρ 50 + 13)) ∧ (¬ (0 ≤ -ρ 50 + 14)) ∧ (¬ (0 ≤ -ρ 50 + 15)) ∧ (0 ≤ -ρ 50 + 16) ∧ (¬ (ρ 25 ≤ ρ 44)) := ⟨by omega, by omega, by omega, by omega, by omega, by omega, by omega, by omega, by omega, by omega, by omega, by omega, by omega, by omega, by omega, by omega, by omega, by omega, by omega, by omega⟩
  obtain ⟨-, -, -, -, -, -, -, -, -, -, -, -, -, -, -, -, -, -, -, -, -, -, -, -, m24, m25, m26, m27, m28, m29, m30, m31, m32, m33, m34, m35, m36, m37, m38, m39, m40, m41, m42, m43, -, m45, m46, -⟩ := hm
  have m24 : γ 1 92 0 0 = ρ 28 := m24
  have m25 : γ 1 92 0 1 = ρ 29 := m25
  have m26 : γ 1 92 0 2 = ρ 30 := m26
  have m27 : γ 1 92 0 3 = ρ 31 := m27
  have m28 : γ 1 92 0 4 = ρ 32 := m28
  have m29 : γ 1 92 0 5 = ρ 33 := m29
  have m30 : γ 1 92 0 6 = ρ 34 := m30
  have m31 : γ 1 92 0 7 = ρ 35 := m31
  have m32 : γ 1 92 0 8 = ρ 36 := m32
  have m33 : γ 1 92 0 9 = ρ 37 := m33
  have m34 : γ 1 92 0 10 = ρ 38 := m34
  have m35 : γ 1 92 0 11 = ρ 39 := m35
  have m36 : γ 1 92 0 12 = ρ 40 := m36
  have m37 : γ 1 92 0 13 = ρ 41 := m37
  have m38 : γ 1 92 0 14 = ρ 42 := m38
  have m39 : γ 1 92 0 15 = ρ 43 := m39
  have m40 : γ 1 92 0 16 = ρ 44 := m40
  have m41 : γ 1 92 0 17 = ρ 45 := m41
  have m42 : γ 1 92 0 18 = ρ 46 := m42
  have m43 : γ 1 92 0 19 = ρ 47 := m43
  have m45 : γ 0 73 0 (ρ 26) = ρ 49 := m45
  have m46 : γ 0 69 0 (ρ 26) = ρ 50 := m46
  obtain ⟨-, c2⟩ := hc
  have c2 : γ 2 = rUp (γ 1) 92 0 (ρ 50) (ρ 25) := c2
  show jn77 [ρ 0, ρ 1, ρ 2, ρ 3, ρ 4, ρ 5, ρ 6, ρ 7, ρ 8, ρ 9, ρ 10, ρ 11, ρ 12, ρ 13, ρ 14, ρ 15, ρ 16, ρ 17, ρ 18, ρ 19, ρ 20, ρ 21, ρ 22, ρ 23] (γ 0) 2 [ρ 0, ρ 1, ρ 2, ρ 3, ρ 4, ρ 5, ρ 6, ρ 7, ρ 8, ρ 9, ρ 10, ρ 11, ρ 12, ρ 13, ρ 14, ρ 15, ρ 16, ρ 17, ρ 18, ρ 19, ρ 20, ρ 21, ρ 22, ρ 23, ρ 26 + 1, 1, ρ 28, ρ 29, ρ 30, ρ 31, ρ 32, ρ 33, ρ 34, ρ 35, ρ 36, ρ 37, ρ 38, ρ 39, ρ 40, ρ 41, ρ 42, ρ 43, ρ 25, ρ 45, ρ 46, ρ 47, ρ 48] (γ 2)
  have hD : en77 (γ 0) (3, [ρ 24, ρ 25, ρ 26, ρ 27], γ 1) = .inl (2, [ρ 26 + 1, 1], γ 2) := by
    unfold en77
    refine (if_neg (show ¬ (3 : Nat) = 0 by decide)).trans ?_
    refine (if_neg (show ¬ (3 : Nat) = 1 by decide)).trans ?_
    refine (if_neg (show ¬ (3 : Nat) = 2 by decide)).trans ?_
    refine (if_pos (show (3 : Nat) = 3 by decide)).trans ?_
    refine (zLet_eq (show _ = γ 1 from rfl)).trans ?_
    refine (zLet_eq (show _ = ρ 24 from rfl)).trans ?_
    refine (zLet_eq (show _ = ρ 25 from rfl)).trans ?_
    refine (zLet_eq (show _ = ρ 26 from rfl)).trans ?_
    refine (zLet_eq (show _ = ρ 27 from rfl)).trans ?_
    refine (zLet_eq m24).trans ?_
    refine (zLet_eq m25).trans ?_
    refine (zLet_eq m26).trans ?_
    refine (zLet_eq m27).trans ?_
    refine (zLet_eq m28).trans ?_
    refine (zLet_eq m29).trans ?_
    refine (zLet_eq m30).trans ?_
    refine (zLet_eq m31).trans ?_
    refine (zLet_eq m32).trans ?_
    refine (zLet_eq m33).trans ?_
    refine (zLet_eq m34).trans ?_
    refine (zLet_eq m35).trans ?_
    refine (zLet_eq m36).trans ?_
    refine (zLet_eq m37).trans ?_
    refine (zLet_eq m38).trans ?_
    refine (zLet_eq m39).trans ?_
    refine (zLet_eq m40).trans ?_
    refine (zLet_eq m41).trans ?_
    refine (zLet_eq m42).trans ?_
    refine (zLet_eq m43).trans ?_
    refine (zLet_eq m45).trans ?_
    refine (if_pos w_0).trans ?_
    refine (if_pos w_1).trans ?_
    refine (zLet_eq m46).trans ?_
    refine (if_neg w_2).trans ?_
    refine (if_neg w_3).trans ?_
    refine (if_neg w_4).trans ?_
    refine (if_neg w_5).trans ?_
    refine (if_neg w_6).trans ?_
    refine (if_neg w_7).trans ?_
    refine (if_neg w_8).trans ?_
    refine (if_neg w_9).trans ?_
    refine (if_neg w_10).trans ?_
    refine (if_neg w_11).trans ?_
    refine (if_neg w_12).trans ?_
    refine (if_neg w_13).trans ?_
    refine (if_neg w_14).trans ?_
    refine (if_neg w_15).trans ?_
    refine (if_neg w_16).trans ?_
    refine (if_neg w_17).trans ?_
    refine (if_pos w_18).trans ?_
    refine (if_neg w_19).trans ?_
    refine (zLet_eq c2.symm).trans ?_
    rfl
  exact zGoo_ato hJ hD
theorem vn77a3_34 {S : Nat → zSpc}  {a : List Int} {g : rHp} : ∀ (ρ : Nat → Int) (γ : Nat → rHp), jn77 a g 3 (zAg (zNA a77_ 3) ρ) (γ 1) → zO 24 S a g q77a3_34 ρ γ → zGl (fun i vs g1 => jn77 a g i vs g1) (sn77 a g) q77a3_34 ρ γ := by
  intro ρ γ hJ h
  obtain ⟨ha, hg, hr, hf, hm, hc, hl⟩ := h
  have ha : a = [ρ 0, ρ 1, ρ 2, ρ 3, ρ 4, ρ 5, ρ 6, ρ 7, ρ 8, ρ 9, ρ 10, ρ 11, ρ 12, ρ 13, ρ 14, ρ 15, ρ 16, ρ 17, ρ 18, ρ 19, ρ 20, ρ 21, ρ 22, ρ 23] := ha
  subst ha
  subst hg
  have hJ : jn77 [ρ 0, ρ 1, ρ 2, ρ 3, ρ 4, ρ 5, ρ 6, ρ 7, ρ 8, ρ 9, ρ 10, ρ 11, ρ 12, ρ 13, ρ 14, ρ 15, ρ 16, ρ 17, ρ 18, ρ 19, ρ 20, ρ 21, ρ 22, ρ 23] (γ 0) 3 [ρ 0, ρ 1, ρ 2, ρ 3, ρ 4, ρ 5, ρ 6, ρ 7, ρ 8, ρ 9, ρ 10, ρ 11, ρ 12, ρ 13, ρ 14, ρ 15, ρ 16, ρ 17, ρ 18, ρ 19, ρ 20, ρ 21, ρ 22, ρ 23, ρ 24, ρ 25, ρ 26, ρ 27, ρ 28, ρ 29, ρ 30, ρ 31, ρ 32, ρ 33, ρ 34, ρ 35, ρ 36, ρ 37, ρ 38, ρ 39, ρ 40, ρ 41, ρ 42, ρ 43, ρ 44, ρ 45, ρ 46, ρ 47, ρ 48] (γ 1) := hJ
  obtain ⟨-, -, -, -, -, -, -, -, -, -, -, -, -, -, -, -, -, -, -, -, -, -, -, -, -, r25, -, -, -, -, -, -, -, -, -, -, -, -, -, -, -, -, -, -, -, -, -, -, -, -, r50, -⟩ := hr
  have r25 : (0 : Int) ≤ ρ 25 ∧ ρ 25 ≤ 20 := r25
  have r50 : (17 : Int) ≤ ρ 50 ∧ ρ 50 ≤ 17 := r50
  obtain ⟨f0, f1, -⟩ := hf
  have f0 : (0 : Int) ≤ ρ 45 + -ρ 25 := f0
  have f1 : (0 : Int) ≤ -ρ 49 + ((-8) * ρ 26 + ρ 24) := f1
  obtain ⟨w_0, w_1, w_2, w_3, w_4, w_5, w_6, w_7, w_8, w_9, w_10, w_11, w_12, w_13, w_14, w_15, w_16, w_17, w_18, w_19, w_20⟩ : (ρ 24 ≥ ρ 49 + 8 * ρ 26) ∧ (ρ 25 ≤ 20) ∧ (¬ (0 ≤ -ρ 50)) ∧ (¬ (0 ≤ -ρ 50 + 1)) ∧ (¬ (0 ≤ -ρ 50 + 2)) ∧ (¬ (0 ≤ -ρ 50 + 3)) ∧ (¬ (0 ≤ -ρ 50 + 4)) ∧ (¬ (0 ≤ -ρ 50 + 5)) ∧ (¬ (0 ≤ -ρ 50 + 6)) ∧ (¬ (0 ≤ -ρ 50 + 7)) ∧ (¬ (0 ≤ -ρ 50 + 8)) ∧ (¬ (0 ≤ -ρ 50 + 9)) ∧ (¬ (0 ≤ -ρ 50 + 10)) ∧ (¬ (0 ≤ -ρ 50 + 11)) ∧ (¬ (0 ≤ -ρ 50 + 12)) ∧ (¬ (0 ≤ -ρ 50 + 13)) ∧ (¬ (0 ≤ -ρ 50 + 14)) ∧ (¬ (0 ≤ -ρ 50 + 15)) ∧ (¬ (0 ≤ -ρ 50 + 16)) ∧ (0 ≤ -ρ 50 + 17) ∧ (ρ 25 ≤ ρ 45) := ⟨by omega, by omega, by omega, by omega, by omega, by omega, by omega, by omega, by omega, by omega, by omega, by omega, by omega, by omega, by omega, by omega, by omega, by omega, by omega, by omega, by omega⟩
  obtain ⟨-, -, -, -, -, -, -, -, -, -, -, -, -, -, -, -, -, -, -, -, -, -, -, -, m24, m25, m26, m27, m28, m29, m30, m31, m32, m33, m34, m35, m36, m37, m38, m39, m40, m41, m42, m43, -, m45, m46, -⟩ := hm
  have m24 : γ 1 92 0 0 = ρ 28 := m24
  have m25 : γ 1 92 0 1 = ρ 29 := m25
  have m26 : γ 1 92 0 2 = ρ 30 := m26
  have m27 : γ 1 92 0 3 = ρ 31 := m27
  have m28 : γ 1 92 0 4 = ρ 32 := m28
  have m29 : γ 1 92 0 5 = ρ 33 := m29
  have m30 : γ 1 92 0 6 = ρ 34 := m30
  have m31 : γ 1 92 0 7 = ρ 35 := m31
  have m32 : γ 1 92 0 8 = ρ 36 := m32
  have m33 : γ 1 92 0 9 = ρ 37 := m33
  have m34 : γ 1 92 0 10 = ρ 38 := m34
  have m35 : γ 1 92 0 11 = ρ 39 := m35
  have m36 : γ 1 92 0 12 = ρ 40 := m36
  have m37 : γ 1 92 0 13 = ρ 41 := m37
  have m38 : γ 1 92 0 14 = ρ 42 := m38
  have m39 : γ 1 92 0 15 = ρ 43 := m39
  have m40 : γ 1 92 0 16 = ρ 44 := m40
  have m41 : γ 1 92 0 17 = ρ 45 := m41
  have m42 : γ 1 92 0 18 = ρ 46 := m42
  have m43 : γ 1 92 0 19 = ρ 47 := m43
  have m45 : γ 0 73 0 (ρ 26) = ρ 49 := m45
  have m46 : γ 0 69 0 (ρ 26) = ρ 50 := m46
  show jn77 [ρ 0, ρ 1, ρ 2, ρ 3, ρ 4, ρ 5, ρ 6, ρ 7, ρ 8, ρ 9, ρ 10, ρ 11, ρ 12, ρ 13, ρ 14, ρ 15, ρ 16, ρ 17, ρ 18, ρ 19, ρ 20, ρ 21, ρ 22, ρ 23] (γ 0) 2 [ρ 0, ρ 1, ρ 2, ρ 3, ρ 4, ρ 5, ρ 6, ρ 7, ρ 8, ρ 9, ρ 10, ρ 11, ρ 12, ρ 13, ρ 14, ρ 15, ρ 16, ρ 17, ρ 18, ρ 19, ρ 20, ρ 21, ρ 22, ρ 23, ρ 26 + 1, ρ 27, ρ 28, ρ 29, ρ 30, ρ 31, ρ 32, ρ 33, ρ 34, ρ 35, ρ 36, ρ 37, ρ 38, ρ 39, ρ 40, ρ 41, ρ 42, ρ 43, ρ 44, ρ 45, ρ 46, ρ 47, ρ 48] (γ 1)
  have hD : en77 (γ 0) (3, [ρ 24, ρ 25, ρ 26, ρ 27], γ 1) = .inl (2, [ρ 26 + 1, ρ 27], γ 1) := by
    unfold en77
    refine (if_neg (show ¬ (3 : Nat) = 0 by decide)).trans ?_
    refine (if_neg (show ¬ (3 : Nat) = 1 by decide)).trans ?_
    refine (if_neg (show ¬ (3 : Nat) = 2 by decide)).trans ?_
    refine (if_pos (show (3 : Nat) = 3 by decide)).trans ?_
    refine (zLet_eq (show _ = γ 1 from rfl)).trans ?_
    refine (zLet_eq (show _ = ρ 24 from rfl)).trans ?_
    refine (zLet_eq (show _ = ρ 25 from rfl)).trans ?_
    refine (zLet_eq (show _ = ρ 26 from rfl)).trans ?_
    refine (zLet_eq (show _ = ρ 27 from rfl)).trans ?_
    refine (zLet_eq m24).trans ?_
    refine (zLet_eq m25).trans ?_
    refine (zLet_eq m26).trans ?_
    refine (zLet_eq m27).trans ?_
    refine (zLet_eq m28).trans ?_
    refine (zLet_eq m29).trans ?_
    refine (zLet_eq m30).trans ?_
    refine (zLet_eq m31).trans ?_
    refine (zLet_eq m32).trans ?_
    refine (zLet_eq m33).trans ?_
    refine (zLet_eq m34).trans ?_
    refine (zLet_eq m35).trans ?_
    refine (zLet_eq m36).trans ?_
    refine (zLet_eq m37).trans ?_
    refine (zLet_eq m38).trans ?_
    refine (zLet_eq m39).trans ?_
    refine (zLet_eq m40).trans ?_
    refine (zLet_eq m41).trans ?_
    refine (zLet_eq m42).trans ?_
    refine (zLet_eq m43).trans ?_
    refine (zLet_eq m45).trans ?_
    refine (if_pos w_0).trans ?_
    refine (if_pos w_1).trans ?_
    refine (zLet_eq m46).trans ?_
    refine (if_neg w_2).trans ?_
    refine (if_neg w_3).trans ?_
    refine (if_neg w_4).trans ?_
    refine (if_neg w_5).trans ?_
    refine (if_neg w_6).trans ?_
    refine (if_neg w_7).trans ?_
    refine (if_neg w_8).trans ?_
    refine (if_neg w_9).trans ?_
    refine (if_neg w_10).trans ?_
    refine (if_neg w_11).trans ?_
    refine (if_neg w_12).trans ?_
    refine (if_neg w_13).trans ?_
    refine (if_neg w_14).trans ?_
    refine (if_neg w_15).trans ?_
    refine (if_neg w_16).trans ?_
    refine (if_neg w_17).trans ?_
    refine (if_neg w_18).trans ?_
    refine (if_pos w_19).trans ?_
    refine (if_pos w_20).trans ?_
    rfl
  exact zGoo_ato hJ hD
theorem vn77a3_35 {S : Nat → zSpc}  {a : List Int} {g : rHp} : ∀ (ρ : Nat → Int) (γ : Nat → rHp), jn77 a g 3 (zAg (zNA a77_ 3) ρ) (γ 1) → zO 24 S a g q77a3_35 ρ γ → zGl (fun i vs g1 => jn77 a g i vs g1) (sn77 a g) q77a3_35 ρ γ := by
  intro ρ γ hJ h
  obtain ⟨ha, hg, hr, hf, hm, hc, hl⟩ := h
  have ha : a = [ρ 0, ρ 1, ρ 2, ρ 3, ρ 4, ρ 5, ρ 6, ρ 7, ρ 8, ρ 9, ρ 10, ρ 11, ρ 12, ρ 13, ρ 14, ρ 15, ρ 16, ρ 17, ρ 18, ρ 19, ρ 20, ρ 21, ρ 22, ρ 23] := ha
  subst ha
  subst hg
  have hJ : jn77 [ρ 0, ρ 1, ρ 2, ρ 3, ρ 4, ρ 5, ρ 6, ρ 7, ρ 8, ρ 9, ρ 10, ρ 11, ρ 12, ρ 13, ρ 14, ρ 15, ρ 16, ρ 17, ρ 18, ρ 19, ρ 20, ρ 21, ρ 22, ρ 23] (γ 0) 3 [ρ 0, ρ 1, ρ 2, ρ 3, ρ 4, ρ 5, ρ 6, ρ 7, ρ 8, ρ 9, ρ 10, ρ 11, ρ 12, ρ 13, ρ 14, ρ 15, ρ 16, ρ 17, ρ 18, ρ 19, ρ 20, ρ 21, ρ 22, ρ 23, ρ 24, ρ 25, ρ 26, ρ 27, ρ 28, ρ 29, ρ 30, ρ 31, ρ 32, ρ 33, ρ 34, ρ 35, ρ 36, ρ 37, ρ 38, ρ 39, ρ 40, ρ 41, ρ 42, ρ 43, ρ 44, ρ 45, ρ 46, ρ 47, ρ 48] (γ 1) := hJ
  obtain ⟨-, -, -, -, -, -, -, -, -, -, -, -, -, -, -, -, -, -, -, -, -, -, -, -, -, r25, -, -, -, -, -, -, -, -, -, -, -, -, -, -, -, -, -, -, -, -, -, -, -, -, r50, -⟩ := hr
  have r25 : (0 : Int) ≤ ρ 25 ∧ ρ 25 ≤ 20 := r25
  have r50 : (17 : Int) ≤ ρ 50 ∧ ρ 50 ≤ 17 := r50
  obtain ⟨f0, f1, -⟩ := hf
  have f0 : (0 : Int) ≤ -ρ 45 + ρ 25 + (-1) := f0
  have f1 : (0 : Int) ≤ -ρ 49 + ((-8) * ρ 26 + ρ 24) := f1
  obtain ⟨w_0, w_1, w_2, w_3, w_4, w_5, w_6, w_7, w_8, w_9, w_10, w_11, w_12, w_13, w_14, w_15, w_16, w_17, w_18, w_19, w_20⟩ : (ρ 24 ≥ ρ 49 + 8 * ρ 26) ∧ (ρ 25 ≤ 20) ∧ (¬ (0 ≤ -ρ 50)) ∧ (¬ (0 ≤ -ρ 50 + 1)) ∧ (¬ (0 ≤ -ρ 50 + 2)) ∧ (¬ (0 ≤ -ρ 50 + 3)) ∧ (¬ (0 ≤ -ρ 50 + 4)) ∧ (¬ (0 ≤ -ρ 50 + 5)) ∧ (¬ (0 ≤ -ρ 50 + 6)) ∧ (¬ (0 ≤ -ρ 50 + 7)) ∧ (¬ (0 ≤ -ρ 50 + 8)) ∧ (¬ (0 ≤ -ρ 50 + 9)) ∧ (¬ (0 ≤ -ρ 50 + 10)) ∧ (¬ (0 ≤ -ρ 50 + 11)) ∧ (¬ (0 ≤ -ρ 50 + 12)) ∧ (¬ (0 ≤ -ρ 50 + 13)) ∧ (¬ (0 ≤ -ρ 50 + 14)) ∧ (¬ (0 ≤ -ρ 50 + 15)) ∧ (¬ (0 ≤ -ρ 50 + 16)) ∧ (0 ≤ -ρ 50 + 17) ∧ (¬ (ρ 25 ≤ ρ 45)) := ⟨by omega, by omega, by omega, by omega, by omega, by omega, by omega, by omega, by omega, by omega, by omega, by omega, by omega, by omega, by omega, by omega, by omega, by omega, by omega, by omega, by omega⟩
  obtain ⟨-, -, -, -, -, -, -, -, -, -, -, -, -, -, -, -, -, -, -, -, -, -, -, -, m24, m25, m26, m27, m28, m29, m30, m31, m32, m33, m34, m35, m36, m37, m38, m39, m40, m41, m42, m43, -, m45, m46, -⟩ := hm
  have m24 : γ 1 92 0 0 = ρ 28 := m24
  have m25 : γ 1 92 0 1 = ρ 29 := m25
  have m26 : γ 1 92 0 2 = ρ 30 := m26
  have m27 : γ 1 92 0 3 = ρ 31 := m27
  have m28 : γ 1 92 0 4 = ρ 32 := m28
  have m29 : γ 1 92 0 5 = ρ 33 := m29
  have m30 : γ 1 92 0 6 = ρ 34 := m30
  have m31 : γ 1 92 0 7 = ρ 35 := m31
  have m32 : γ 1 92 0 8 = ρ 36 := m32
  have m33 : γ 1 92 0 9 = ρ 37 := m33
  have m34 : γ 1 92 0 10 = ρ 38 := m34
  have m35 : γ 1 92 0 11 = ρ 39 := m35
  have m36 : γ 1 92 0 12 = ρ 40 := m36
  have m37 : γ 1 92 0 13 = ρ 41 := m37
  have m38 : γ 1 92 0 14 = ρ 42 := m38
  have m39 : γ 1 92 0 15 = ρ 43 := m39
  have m40 : γ 1 92 0 16 = ρ 44 := m40
  have m41 : γ 1 92 0 17 = ρ 45 := m41
  have m42 : γ 1 92 0 18 = ρ 46 := m42
  have m43 : γ 1 92 0 19 = ρ 47 := m43
  have m45 : γ 0 73 0 (ρ 26) = ρ 49 := m45
  have m46 : γ 0 69 0 (ρ 26) = ρ 50 := m46
  obtain ⟨-, c2⟩ := hc
  have c2 : γ 2 = rUp (γ 1) 92 0 (ρ 50) (ρ 25) := c2
  show jn77 [ρ 0, ρ 1, ρ 2, ρ 3, ρ 4, ρ 5, ρ 6, ρ 7, ρ 8, ρ 9, ρ 10, ρ 11, ρ 12, ρ 13, ρ 14, ρ 15, ρ 16, ρ 17, ρ 18, ρ 19, ρ 20, ρ 21, ρ 22, ρ 23] (γ 0) 2 [ρ 0, ρ 1, ρ 2, ρ 3, ρ 4, ρ 5, ρ 6, ρ 7, ρ 8, ρ 9, ρ 10, ρ 11, ρ 12, ρ 13, ρ 14, ρ 15, ρ 16, ρ 17, ρ 18, ρ 19, ρ 20, ρ 21, ρ 22, ρ 23, ρ 26 + 1, 1, ρ 28, ρ 29, ρ 30, ρ 31, ρ 32, ρ 33, ρ 34, ρ 35, ρ 36, ρ 37, ρ 38, ρ 39, ρ 40, ρ 41, ρ 42, ρ 43, ρ 44, ρ 25, ρ 46, ρ 47, ρ 48] (γ 2)
  have hD : en77 (γ 0) (3, [ρ 24, ρ 25, ρ 26, ρ 27], γ 1) = .inl (2, [ρ 26 + 1, 1], γ 2) := by
    unfold en77
    refine (if_neg (show ¬ (3 : Nat) = 0 by decide)).trans ?_
    refine (if_neg (show ¬ (3 : Nat) = 1 by decide)).trans ?_
    refine (if_neg (show ¬ (3 : Nat) = 2 by decide)).trans ?_
    refine (if_pos (show (3 : Nat) = 3 by decide)).trans ?_
    refine (zLet_eq (show _ = γ 1 from rfl)).trans ?_
    refine (zLet_eq (show _ = ρ 24 from rfl)).trans ?_
    refine (zLet_eq (show _ = ρ 25 from rfl)).trans ?_
    refine (zLet_eq (show _ = ρ 26 from rfl)).trans ?_
    refine (zLet_eq (show _ = ρ 27 from rfl)).trans ?_
    refine (zLet_eq m24).trans ?_
    refine (zLet_eq m25).trans ?_
    refine (zLet_eq m26).trans ?_
    refine (zLet_eq m27).trans ?_
    refine (zLet_eq m28).trans ?_
    refine (zLet_eq m29).trans ?_
    refine (zLet_eq m30).trans ?_
    refine (zLet_eq m31).trans ?_
    refine (zLet_eq m32).trans ?_
    refine (zLet_eq m33).trans ?_
    refine (zLet_eq m34).trans ?_
    refine (zLet_eq m35).trans ?_
    refine (zLet_eq m36).trans ?_
    refine (zLet_eq m37).trans ?_
    refine (zLet_eq m38).trans ?_
    refine (zLet_eq m39).trans ?_
    refine (zLet_eq m40).trans ?_
    refine (zLet_eq m41).trans ?_
    refine (zLet_eq m42).trans ?_
    refine (zLet_eq m43).trans ?_
    refine (zLet_eq m45).trans ?_
    refine (if_pos w_0).trans ?_
    refine (if_pos w_1).trans ?_
    refine (zLet_eq m46).trans ?_
    refine (if_neg w_2).trans ?_
    refine (if_neg w_3).trans ?_
    refine (if_neg w_4).trans ?_
    refine (if_neg w_5).trans ?_
    refine (if_neg w_6).trans ?_
    refine (if_neg w_7).trans ?_
    refine (if_neg w_8).trans ?_
    refine (if_neg w_9).trans ?_
    refine (if_neg w_10).trans ?_
    refine (if_neg w_11).trans ?_
    refine (if_neg w_12).trans ?_
    refine (if_neg w_13).trans ?_
    refine (if_neg w_14).trans ?_
    refine (if_neg w_15).trans ?_
    refine (if_neg w_16).trans ?_
    refine (if_neg w_17).trans ?_
    refine (if_neg w_18).trans ?_
    refine (if_pos w_19).trans ?_
    refine (if_neg w_20).trans ?_
    refine (zLet_eq c2.symm).trans ?_
    rfl
  exact zGoo_ato hJ hD
theorem vn77a3_36 {S : Nat → zSpc}  {a : List Int} {g : rHp} : ∀ (ρ : Nat → Int) (γ : Nat → rHp), jn77 a g 3 (zAg (zNA a77_ 3) ρ) (γ 1) → zO 24 S a g q77a3_36 ρ γ → zGl (fun i vs g1 => jn77 a g i vs g1) (sn77 a g) q77a3_36 ρ γ := by
  intro ρ γ hJ h
  obtain ⟨ha, hg, hr, hf, hm, hc, hl⟩ := h
  have ha : a = [ρ 0, ρ 1, ρ 2, ρ 3, ρ 4, ρ 5, ρ 6, ρ 7, ρ 8, ρ 9, ρ 10, ρ 11, ρ 12, ρ 13, ρ 14, ρ 15, ρ 16, ρ 17, ρ 18, ρ 19, ρ 20, ρ 21, ρ 22, ρ 23] := ha
  subst ha
  subst hg
  have hJ : jn77 [ρ 0, ρ 1, ρ 2, ρ 3, ρ 4, ρ 5, ρ 6, ρ 7, ρ 8, ρ 9, ρ 10, ρ 11, ρ 12, ρ 13, ρ 14, ρ 15, ρ 16, ρ 17, ρ 18, ρ 19, ρ 20, ρ 21, ρ 22, ρ 23] (γ 0) 3 [ρ 0, ρ 1, ρ 2, ρ 3, ρ 4, ρ 5, ρ 6, ρ 7, ρ 8, ρ 9, ρ 10, ρ 11, ρ 12, ρ 13, ρ 14, ρ 15, ρ 16, ρ 17, ρ 18, ρ 19, ρ 20, ρ 21, ρ 22, ρ 23, ρ 24, ρ 25, ρ 26, ρ 27, ρ 28, ρ 29, ρ 30, ρ 31, ρ 32, ρ 33, ρ 34, ρ 35, ρ 36, ρ 37, ρ 38, ρ 39, ρ 40, ρ 41, ρ 42, ρ 43, ρ 44, ρ 45, ρ 46, ρ 47, ρ 48] (γ 1) := hJ
  obtain ⟨-, -, -, -, -, -, -, -, -, -, -, -, -, -, -, -, -, -, -, -, -, -, -, -, -, r25, -, -, -, -, -, -, -, -, -, -, -, -, -, -, -, -, -, -, -, -, -, -, -, -, r50, -⟩ := hr
  have r25 : (0 : Int) ≤ ρ 25 ∧ ρ 25 ≤ 20 := r25
  have r50 : (18 : Int) ≤ ρ 50 ∧ ρ 50 ≤ 18 := r50
  obtain ⟨f0, f1, -⟩ := hf
  have f0 : (0 : Int) ≤ ρ 46 + -ρ 25 := f0
  have f1 : (0 : Int) ≤ -ρ 49 + ((-8) * ρ 26 + ρ 24) := f1
  obtain ⟨w_0, w_1, w_2, w_3, w_4, w_5, w_6, w_7, w_8, w_9, w_10, w_11, w_12, w_13, w_14, w_15, w_16, w_17, w_18, w_19, w_20, w_21⟩ : (ρ 24 ≥ ρ 49 + 8 * ρ 26) ∧ (ρ 25 ≤ 20) ∧ (¬ (0 ≤ -ρ 50)) ∧ (¬ (0 ≤ -ρ 50 + 1)) ∧ (¬ (0 ≤ -ρ 50 + 2)) ∧ (¬ (0 ≤ -ρ 50 + 3)) ∧ (¬ (0 ≤ -ρ 50 + 4)) ∧ (¬ (0 ≤ -ρ 50 + 5)) ∧ (¬ (0 ≤ -ρ 50 + 6)) ∧ (¬ (0 ≤ -ρ 50 + 7)) ∧ (¬ (0 ≤ -ρ 50 + 8)) ∧ (¬ (0 ≤ -ρ 50 + 9)) ∧ (¬ (0 ≤ -ρ 50 + 10)) ∧ (¬ (0 ≤ -ρ 50 + 11)) ∧ (¬ (0 ≤ -ρ 50 + 12)) ∧ (¬ (0 ≤ -ρ 50 + 13)) ∧ (¬ (0 ≤ -ρ 50 + 14)) ∧ (¬ (0 ≤ -ρ 50 + 15)) ∧ (¬ (0 ≤ -ρ 50 + 16)) ∧ (¬ (0 ≤ -ρ 50 + 17)) ∧ (0 ≤ -ρ 50 + 18) ∧ (ρ 25 ≤ ρ 46) := ⟨by omega, by omega, by omega, by omega, by omega, by omega, by omega, by omega, by omega, by omega, by omega, by omega, by omega, by omega, by omega, by omega, by omega, by omega, by omega, by omega, by omega, by omega⟩
  obtain ⟨-, -, -, -, -, -, -, -, -, -, -, -, -, -, -, -, -, -, -, -, -, -, -, -, m24, m25, m26, m27, m28, m29, m30, m31, m32, m33, m34, m35, m36, m37, m38, m39, m40, m41, m42, m43, -, m45, m46, -⟩ := hm
  have m24 : γ 1 92 0 0 = ρ 28 := m24
  have m25 : γ 1 92 0 1 = ρ 29 := m25
  have m26 : γ 1 92 0 2 = ρ 30 := m26
  have m27 : γ 1 92 0 3 = ρ 31 := m27
  have m28 : γ 1 92 0 4 = ρ 32 := m28
  have m29 : γ 1 92 0 5 = ρ 33 := m29
  have m30 : γ 1 92 0 6 = ρ 34 := m30
  have m31 : γ 1 92 0 7 = ρ 35 := m31
  have m32 : γ 1 92 0 8 = ρ 36 := m32
  have m33 : γ 1 92 0 9 = ρ 37 := m33
  have m34 : γ 1 92 0 10 = ρ 38 := m34
  have m35 : γ 1 92 0 11 = ρ 39 := m35
  have m36 : γ 1 92 0 12 = ρ 40 := m36
  have m37 : γ 1 92 0 13 = ρ 41 := m37
  have m38 : γ 1 92 0 14 = ρ 42 := m38
  have m39 : γ 1 92 0 15 = ρ 43 := m39
  have m40 : γ 1 92 0 16 = ρ 44 := m40
  have m41 : γ 1 92 0 17 = ρ 45 := m41
  have m42 : γ 1 92 0 18 = ρ 46 := m42
  have m43 : γ 1 92 0 19 = ρ 47 := m43
  have m45 : γ 0 73 0 (ρ 26) = ρ 49 := m45
  have m46 : γ 0 69 0 (ρ 26) = ρ 50 := m46
  show jn77 [ρ 0, ρ 1, ρ 2, ρ 3, ρ 4, ρ 5, ρ 6, ρ 7, ρ 8, ρ 9, ρ 10, ρ 11, ρ 12, ρ 13, ρ 14, ρ 15, ρ 16, ρ 17, ρ 18, ρ 19, ρ 20, ρ 21, ρ 22, ρ 23] (γ 0) 2 [ρ 0, ρ 1, ρ 2, ρ 3, ρ 4, ρ 5, ρ 6, ρ 7, ρ 8, ρ 9, ρ 10, ρ 11, ρ 12, ρ 13, ρ 14, ρ 15, ρ 16, ρ 17, ρ 18, ρ 19, ρ 20, ρ 21, ρ 22, ρ 23, ρ 26 + 1, ρ 27, ρ 28, ρ 29, ρ 30, ρ 31, ρ 32, ρ 33, ρ 34, ρ 35, ρ 36, ρ 37, ρ 38, ρ 39, ρ 40, ρ 41, ρ 42, ρ 43, ρ 44, ρ 45, ρ 46, ρ 47, ρ 48] (γ 1)
  have hD : en77 (γ 0) (3, [ρ 24, ρ 25, ρ 26, ρ 27], γ 1) = .inl (2, [ρ 26 + 1, ρ 27], γ 1) := by
    unfold en77
    refine (if_neg (show ¬ (3 : Nat) = 0 by decide)).trans ?_
    refine (if_neg (show ¬ (3 : Nat) = 1 by decide)).trans ?_
    refine (if_neg (show ¬ (3 : Nat) = 2 by decide)).trans ?_
    refine (if_pos (show (3 : Nat) = 3 by decide)).trans ?_
    refine (zLet_eq (show _ = γ 1 from rfl)).trans ?_
    refine (zLet_eq (show _ = ρ 24 from rfl)).trans ?_
    refine (zLet_eq (show _ = ρ 25 from rfl)).trans ?_
    refine (zLet_eq (show _ = ρ 26 from rfl)).trans ?_
    refine (zLet_eq (show _ = ρ 27 from rfl)).trans ?_
    refine (zLet_eq m24).trans ?_
    refine (zLet_eq m25).trans ?_
    refine (zLet_eq m26).trans ?_
    refine (zLet_eq m27).trans ?_
    refine (zLet_eq m28).trans ?_
    refine (zLet_eq m29).trans ?_
    refine (zLet_eq m30).trans ?_
    refine (zLet_eq m31).trans ?_
    refine (zLet_eq m32).trans ?_
    refine (zLet_eq m33).trans ?_
    refine (zLet_eq m34).trans ?_
    refine (zLet_eq m35).trans ?_
    refine (zLet_eq m36).trans ?_
    refine (zLet_eq m37).trans ?_
    refine (zLet_eq m38).trans ?_
    refine (zLet_eq m39).trans ?_
    refine (zLet_eq m40).trans ?_
    refine (zLet_eq m41).trans ?_
    refine (zLet_eq m42).trans ?_
    refine (zLet_eq m43).trans ?_
    refine (zLet_eq m45).trans ?_
    refine (if_pos w_0).trans ?_
    refine (if_pos w_1).trans ?_
    refine (zLet_eq m46).trans ?_
    refine (if_neg w_2).trans ?_
    refine (if_neg w_3).trans ?_
    refine (if_neg w_4).trans ?_
    refine (if_neg w_5).trans ?_
    refine (if_neg w_6).trans ?_
    refine (if_neg w_7).trans ?_
    refine (if_neg w_8).trans ?_
    refine (if_neg w_9).trans ?_
    refine (if_neg w_10).trans ?_
    refine (if_neg w_11).trans ?_
    refine (if_neg w_12).trans ?_
    refine (if_neg w_13).trans ?_
    refine (if_neg w_14).trans ?_
    refine (if_neg w_15).trans ?_
    refine (if_neg w_16).trans ?_
    refine (if_neg w_17).trans ?_
    refine (if_neg w_18).trans ?_
    refine (if_neg w_19).trans ?_
    refine (if_pos w_20).trans ?_
    refine (if_pos w_21).trans ?_
    rfl
  exact zGoo_ato hJ hD
theorem vn77a3_37 {S : Nat → zSpc}  {a : List Int} {g : rHp} : ∀ (ρ : Nat → Int) (γ : Nat → rHp), jn77 a g 3 (zAg (zNA a77_ 3) ρ) (γ 1) → zO 24 S a g q77a3_37 ρ γ → zGl (fun i vs g1 => jn77 a g i vs g1) (sn77 a g) q77a3_37 ρ γ := by
  intro ρ γ hJ h
  obtain ⟨ha, hg, hr, hf, hm, hc, hl⟩ := h
  have ha : a = [ρ 0, ρ 1, ρ 2, ρ 3, ρ 4, ρ 5, ρ 6, ρ 7, ρ 8, ρ 9, ρ 10, ρ 11, ρ 12, ρ 13, ρ 14, ρ 15, ρ 16, ρ 17, ρ 18, ρ 19, ρ 20, ρ 21, ρ 22, ρ 23] := ha
  subst ha
  subst hg
  have hJ : jn77 [ρ 0, ρ 1, ρ 2, ρ 3, ρ 4, ρ 5, ρ 6, ρ 7, ρ 8, ρ 9, ρ 10, ρ 11, ρ 12, ρ 13, ρ 14, ρ 15, ρ 16, ρ 17, ρ 18, ρ 19, ρ 20, ρ 21, ρ 22, ρ 23] (γ 0) 3 [ρ 0, ρ 1, ρ 2, ρ 3, ρ 4, ρ 5, ρ 6, ρ 7, ρ 8, ρ 9, ρ 10, ρ 11, ρ 12, ρ 13, ρ 14, ρ 15, ρ 16, ρ 17, ρ 18, ρ 19, ρ 20, ρ 21, ρ 22, ρ 23, ρ 24, ρ 25, ρ 26, ρ 27, ρ 28, ρ 29, ρ 30, ρ 31, ρ 32, ρ 33, ρ 34, ρ 35, ρ 36, ρ 37, ρ 38, ρ 39, ρ 40, ρ 41, ρ 42, ρ 43, ρ 44, ρ 45, ρ 46, ρ 47, ρ 48] (γ 1) := hJ
  obtain ⟨-, -, -, -, -, -, -, -, -, -, -, -, -, -, -, -, -, -, -, -, -, -, -, -, -, r25, -, -, -, -, -, -, -, -, -, -, -, -, -, -, -, -, -, -, -, -, -, -, -, -, r50, -⟩ := hr
  have r25 : (0 : Int) ≤ ρ 25 ∧ ρ 25 ≤ 20 := r25
  have r50 : (18 : Int) ≤ ρ 50 ∧ ρ 50 ≤ 18 := r50
  obtain ⟨f0, f1, -⟩ := hf
  have f0 : (0 : Int) ≤ -ρ 46 + ρ 25 + (-1) := f0
  have f1 : (0 : Int) ≤ -ρ 49 + ((-8) * ρ 26 + ρ 24) := f1
  obtain ⟨w_0, w_1, w_2, w_3, w_4, w_5, w_6, w_7, w_8, w_9, w_10, w_11, w_12, w_13, w_14, w_15, w_16, w_17, w_18, w_19, w_20, w_21⟩ : (ρ 24 ≥ ρ 49 + 8 * ρ 26) ∧ (ρ 25 ≤ 20) ∧ (¬ (0 ≤ -ρ 50)) ∧ (¬ (0 ≤ -ρ 50 + 1)) ∧ (¬ (0 ≤ -ρ 50 + 2)) ∧ (¬ (0 ≤ -ρ 50 + 3)) ∧ (¬ (0 ≤ -ρ 50 + 4)) ∧ (¬ (0 ≤ -ρ 50 + 5)) ∧ (¬ (0 ≤ -ρ 50 + 6)) ∧ (¬ (0 ≤ -ρ 50 + 7)) ∧ (¬ (0 ≤ -ρ 50 + 8)) ∧ (¬ (0 ≤ -ρ 50 + 9)) ∧ (¬ (0 ≤ -ρ 50 + 10)) ∧ (¬ (0 ≤ -ρ 50 + 11)) ∧ (¬ (0 ≤ -ρ 50 + 12)) ∧ (¬ (0 ≤ -ρ 50 + 13)) ∧ (¬ (0 ≤ -ρ 50 + 14)) ∧ (¬ (0 ≤ -ρ 50 + 15)) ∧ (¬ (0 ≤ -ρ 50 + 16)) ∧ (¬ (0 ≤ -ρ 50 + 17)) ∧ (0 ≤ -ρ 50 + 18) ∧ (¬ (ρ 25 ≤ ρ 46)) := ⟨by omega, by omega, by omega, by omega, by omega, by omega, by omega, by omega, by omega, by omega, by omega, by omega, by omega, by omega, by omega, by omega, by omega, by omega, by omega, by omega, by omega, by omega⟩
  obtain ⟨-, -, -, -, -, -, -, -, -, -, -, -, -, -, -, -, -, -, -, -, -, -, -, -, m24, m25, m26, m27, m28, m29, m30, m31, m32, m33, m34, m35, m36, m37, m38, m39, m40, m41, m42, m43, -, m45, m46, -⟩ := hm
  have m24 : γ 1 92 0 0 = ρ 28 := m24
  have m25 : γ 1 92 0 1 = ρ 29 := m25
  have m26 : γ 1 92 0 2 = ρ 30 := m26
  have m27 : γ 1 92 0 3 = ρ 31 := m27
  have m28 : γ 1 92 0 4 = ρ 32 := m28
  have m29 : γ 1 92 0 5 = ρ 33 := m29
  have m30 : γ 1 92 0 6 = ρ 34 := m30
  have m31 : γ 1 92 0 7 = ρ 35 := m31
  have m32 : γ 1 92 0 8 = ρ 36 := m32
  have m33 : γ 1 92 0 9 = ρ 37 := m33
  have m34 : γ 1 92 0 10 = ρ 38 := m34
  have m35 : γ 1 92 0 11 = ρ 39 := m35
  have m36 : γ 1 92 0 12 = ρ 40 := m36
  have m37 : γ 1 92 0 13 = ρ 41 := m37
  have m38 : γ 1 92 0 14 = ρ 42 := m38
  have m39 : γ 1 92 0 15 = ρ 43 := m39
  have m40 : γ 1 92 0 16 = ρ 44 := m40
  have m41 : γ 1 92 0 17 = ρ 45 := m41
  have m42 : γ 1 92 0 18 = ρ 46 := m42
  have m43 : γ 1 92 0 19 = ρ 47 := m43
  have m45 : γ 0 73 0 (ρ 26) = ρ 49 := m45
  have m46 : γ 0 69 0 (ρ 26) = ρ 50 := m46
  obtain ⟨-, c2⟩ := hc
  have c2 : γ 2 = rUp (γ 1) 92 0 (ρ 50) (ρ 25) := c2
  show jn77 [ρ 0, ρ 1, ρ 2, ρ 3, ρ 4, ρ 5, ρ 6, ρ 7, ρ 8, ρ 9, ρ 10, ρ 11, ρ 12, ρ 13, ρ 14, ρ 15, ρ 16, ρ 17, ρ 18, ρ 19, ρ 20, ρ 21, ρ 22, ρ 23] (γ 0) 2 [ρ 0, ρ 1, ρ 2, ρ 3, ρ 4, ρ 5, ρ 6, ρ 7, ρ 8, ρ 9, ρ 10, ρ 11, ρ 12, ρ 13, ρ 14, ρ 15, ρ 16, ρ 17, ρ 18, ρ 19, ρ 20, ρ 21, ρ 22, ρ 23, ρ 26 + 1, 1, ρ 28, ρ 29, ρ 30, ρ 31, ρ 32, ρ 33, ρ 34, ρ 35, ρ 36, ρ 37, ρ 38, ρ 39, ρ 40, ρ 41, ρ 42, ρ 43, ρ 44, ρ 45, ρ 25, ρ 47, ρ 48] (γ 2)
  have hD : en77 (γ 0) (3, [ρ 24, ρ 25, ρ 26, ρ 27], γ 1) = .inl (2, [ρ 26 + 1, 1], γ 2) := by
    unfold en77
    refine (if_neg (show ¬ (3 : Nat) = 0 by decide)).trans ?_
    refine (if_neg (show ¬ (3 : Nat) = 1 by decide)).trans ?_
    refine (if_neg (show ¬ (3 : Nat) = 2 by decide)).trans ?_
    refine (if_pos (show (3 : Nat) = 3 by decide)).trans ?_
    refine (zLet_eq (show _ = γ 1 from rfl)).trans ?_
    refine (zLet_eq (show _ = ρ 24 from rfl)).trans ?_
    refine (zLet_eq (show _ = ρ 25 from rfl)).trans ?_
    refine (zLet_eq (show _ = ρ 26 from rfl)).trans ?_
    refine (zLet_eq (show _ = ρ 27 from rfl)).trans ?_
    refine (zLet_eq m24).trans ?_
    refine (zLet_eq m25).trans ?_
    refine (zLet_eq m26).trans ?_
    refine (zLet_eq m27).trans ?_
    refine (zLet_eq m28).trans ?_
    refine (zLet_eq m29).trans ?_
    refine (zLet_eq m30).trans ?_
    refine (zLet_eq m31).trans ?_
    refine (zLet_eq m32).trans ?_
    refine (zLet_eq m33).trans ?_
    refine (zLet_eq m34).trans ?_
    refine (zLet_eq m35).trans ?_
    refine (zLet_eq m36).trans ?_
    refine (zLet_eq m37).trans ?_
    refine (zLet_eq m38).trans ?_
    refine (zLet_eq m39).trans ?_
    refine (zLet_eq m40).trans ?_
    refine (zLet_eq m41).trans ?_
    refine (zLet_eq m42).trans ?_
    refine (zLet_eq m43).trans ?_
    refine (zLet_eq m45).trans ?_
    refine (if_pos w_0).trans ?_
    refine (if_pos w_1).trans ?_
    refine (zLet_eq m46).trans ?_
    refine (if_neg w_2).trans ?_
    refine (if_neg w_3).trans ?_
    refine (if_neg w_4).trans ?_
    refine (if_neg w_5).trans ?_
    refine (if_neg w_6).trans ?_
    refine (if_neg w_7).trans ?_
    refine (if_neg w_8).trans ?_
    refine (if_neg w_9).trans ?_
    refine (if_neg w_10).trans ?_
    refine (if_neg w_11).trans ?_
    refine (if_neg w_12).trans ?_
    refine (if_neg w_13).trans ?_
    refine (if_neg w_14).trans ?_
    refine (if_neg w_15).trans ?_
    refine (if_neg w_16).trans ?_
    refine (if_neg w_17).trans ?_
    refine (if_neg w_18).trans ?_
    refine (if_neg w_19).trans ?_
    refine (if_pos w_20).trans ?_
    refine (if_neg w_21).trans ?_
    refine (zLet_eq c2.symm).trans ?_
    rfl
  exact zGoo_ato hJ hD
theorem vn77a3_38 {S : Nat → zSpc}  {a : List Int} {g : rHp} : ∀ (ρ : Nat → Int) (γ : Nat → rHp), jn77 a g 3 (zAg (zNA a77_ 3) ρ) (γ 1) → zO 24 S a g q77a3_38 ρ γ → zGl (fun i vs g1 => jn77 a g i vs g1) (sn77 a g) q77a3_38 ρ γ := by
  intro ρ γ hJ h
  obtain ⟨ha, hg, hr, hf, hm, hc, hl⟩ := h
  have ha : a = [ρ 0, ρ 1, ρ 2, ρ 3, ρ 4, ρ 5, ρ 6, ρ 7, ρ 8, ρ 9, ρ 10, ρ 11, ρ 12, ρ 13, ρ 14, ρ 15, ρ 16, ρ 17, ρ 18, ρ 19, ρ 20, ρ 21, ρ 22, ρ 23] := ha
  subst ha
  subst hg
  have hJ : jn77 [ρ 0, ρ 1, ρ 2, ρ 3, ρ 4, ρ 5, ρ 6, ρ 7, ρ 8, ρ 9, ρ 10, ρ 11, ρ 12, ρ 13, ρ 14, ρ 15, ρ 16, ρ 17, ρ 18, ρ 19, ρ 20, ρ 21, ρ 22, ρ 23] (γ 0) 3 [ρ 0, ρ 1, ρ 2, ρ 3, ρ 4, ρ 5, ρ 6, ρ 7, ρ 8, ρ 9, ρ 10, ρ 11, ρ 12, ρ 13, ρ 14, ρ 15, ρ 16, ρ 17, ρ 18, ρ 19, ρ 20, ρ 21, ρ 22, ρ 23, ρ 24, ρ 25, ρ 26, ρ 27, ρ 28, ρ 29, ρ 30, ρ 31, ρ 32, ρ 33, ρ 34, ρ 35, ρ 36, ρ 37, ρ 38, ρ 39, ρ 40, ρ 41, ρ 42, ρ 43, ρ 44, ρ 45, ρ 46, ρ 47, ρ 48] (γ 1) := hJ
  obtain ⟨-, -, -, -, -, -, -, -, -, -, -, -, -, -, -, -, -, -, -, -, -, -, -, -, -, r25, -, -, -, -, -, -, -, -, -, -, -, -, -, -, -, -, -, -, -, -, -, -, -, -, r50, -⟩ := hr
  have r25 : (0 : Int) ≤ ρ 25 ∧ ρ 25 ≤ 20 := r25
  have r50 : (19 : Int) ≤ ρ 50 ∧ ρ 50 ≤ 19 := r50
  obtain ⟨f0, f1, -⟩ := hf
  have f0 : (0 : Int) ≤ ρ 47 + -ρ 25 := f0
  have f1 : (0 : Int) ≤ -ρ 49 + ((-8) * ρ 26 + ρ 24) := f1
  obtain ⟨w_0, w_1, w_2, w_3, w_4, w_5, w_6, w_7, w_8, w_9, w_10, w_11, w_12, w_13, w_14, w_15, w_16, w_17, w_18, w_19, w_20, w_21⟩ : (ρ 24 ≥ ρ 49 + 8 * ρ 26) ∧ (ρ 25 ≤ 20) ∧ (¬ (0 ≤ -ρ 50)) ∧ (¬ (0 ≤ -ρ 50 + 1)) ∧ (¬ (0 ≤ -ρ 50 + 2)) ∧ (¬ (0 ≤ -ρ 50 + 3)) ∧ (¬ (0 ≤ -ρ 50 + 4)) ∧ (¬ (0 ≤ -ρ 50 + 5)) ∧ (¬ (0 ≤ -ρ 50 + 6)) ∧ (¬ (0 ≤ -ρ 50 + 7)) ∧ (¬ (0 ≤ -ρ 50 + 8)) ∧ (¬ (0 ≤ -ρ 50 + 9)) ∧ (¬ (0 ≤ -ρ 50 + 10)) ∧ (¬ (0 ≤ -ρ 50 + 11)) ∧ (¬ (0 ≤ -ρ 50 + 12)) ∧ (¬ (0 ≤ -ρ 50 + 13)) ∧ (¬ (0 ≤ -ρ 50 + 14)) ∧ (¬ (0 ≤ -ρ 50 + 15)) ∧ (¬ (0 ≤ -ρ 50 + 16)) ∧ (¬ (0 ≤ -ρ 50 + 17)) ∧ (¬ (0 ≤ -ρ 50 + 18)) ∧ (ρ 25 ≤ ρ 47) := ⟨by omega, by omega, by omega, by omega, by omega, by omega, by omega, by omega, by omega, by omega, by omega, by omega, by omega, by omega, by omega, by omega, by omega, by omega, by omega, by omega, by omega, by omega⟩
  obtain ⟨-, -, -, -, -, -, -, -, -, -, -, -, -, -, -, -, -, -, -, -, -, -, -, -, m24, m25, m26, m27, m28, m29, m30, m31, m32, m33, m34, m35, m36, m37, m38, m39, m40, m41, m42, m43, -, m45, m46, -⟩ := hm
  have m24 : γ 1 92 0 0 = ρ 28 := m24
  have m25 : γ 1 92 0 1 = ρ 29 := m25
  have m26 : γ 1 92 0 2 = ρ 30 := m26
  have m27 : γ 1 92 0 3 = ρ 31 := m27
  have m28 : γ 1 92 0 4 = ρ 32 := m28
  have m29 : γ 1 92 0 5 = ρ 33 := m29
  have m30 : γ 1 92 0 6 = ρ 34 := m30
  have m31 : γ 1 92 0 7 = ρ 35 := m31
  have m32 : γ 1 92 0 8 = ρ 36 := m32
  have m33 : γ 1 92 0 9 = ρ 37 := m33
  have m34 : γ 1 92 0 10 = ρ 38 := m34
  have m35 : γ 1 92 0 11 = ρ 39 := m35
  have m36 : γ 1 92 0 12 = ρ 40 := m36
  have m37 : γ 1 92 0 13 = ρ 41 := m37
  have m38 : γ 1 92 0 14 = ρ 42 := m38
  have m39 : γ 1 92 0 15 = ρ 43 := m39
  have m40 : γ 1 92 0 16 = ρ 44 := m40
  have m41 : γ 1 92 0 17 = ρ 45 := m41
  have m42 : γ 1 92 0 18 = ρ 46 := m42
  have m43 : γ 1 92 0 19 = ρ 47 := m43
  have m45 : γ 0 73 0 (ρ 26) = ρ 49 := m45
  have m46 : γ 0 69 0 (ρ 26) = ρ 50 := m46
  show jn77 [ρ 0, ρ 1, ρ 2, ρ 3, ρ 4, ρ 5, ρ 6, ρ 7, ρ 8, ρ 9, ρ 10, ρ 11, ρ 12, ρ 13, ρ 14, ρ 15, ρ 16, ρ 17, ρ 18, ρ 19, ρ 20, ρ 21, ρ 22, ρ 23] (γ 0) 2 [ρ 0, ρ 1, ρ 2, ρ 3, ρ 4, ρ 5, ρ 6, ρ 7, ρ 8, ρ 9, ρ 10, ρ 11, ρ 12, ρ 13, ρ 14, ρ 15, ρ 16, ρ 17, ρ 18, ρ 19, ρ 20, ρ 21, ρ 22, ρ 23, ρ 26 + 1, ρ 27, ρ 28, ρ 29, ρ 30, ρ 31, ρ 32, ρ 33, ρ 34, ρ 35, ρ 36, ρ 37, ρ 38, ρ 39, ρ 40, ρ 41, ρ 42, ρ 43, ρ 44, ρ 45, ρ 46, ρ 47, ρ 48] (γ 1)
  have hD : en77 (γ 0) (3, [ρ 24, ρ 25, ρ 26, ρ 27], γ 1) = .inl (2, [ρ 26 + 1, ρ 27], γ 1) := by
    unfold en77
    refine (if_neg (show ¬ (3 : Nat) = 0 by decide)).trans ?_
    refine (if_neg (show ¬ (3 : Nat) = 1 by decide)).trans ?_
    refine (if_neg (show ¬ (3 : Nat) = 2 by decide)).trans ?_
    refine (if_pos (show (3 : Nat) = 3 by decide)).trans ?_
    refine (zLet_eq (show _ = γ 1 from rfl)).trans ?_
    refine (zLet_eq (show _ = ρ 24 from rfl)).trans ?_
    refine (zLet_eq (show _ = ρ 25 from rfl)).trans ?_
    refine (zLet_eq (show _ = ρ 26 from rfl)).trans ?_
    refine (zLet_eq (show _ = ρ 27 from rfl)).trans ?_
    refine (zLet_eq m24).trans ?_
    refine (zLet_eq m25).trans ?_
    refine (zLet_eq m26).trans ?_
    refine (zLet_eq m27).trans ?_
    refine (zLet_eq m28).trans ?_
    refine (zLet_eq m29).trans ?_
    refine (zLet_eq m30).trans ?_
    refine (zLet_eq m31).trans ?_
    refine (zLet_eq m32).trans ?_
    refine (zLet_eq m33).trans ?_
    refine (zLet_eq m34).trans ?_
    refine (zLet_eq m35).trans ?_
    refine (zLet_eq m36).trans ?_
    refine (zLet_eq m37).trans ?_
    refine (zLet_eq m38).trans ?_
    refine (zLet_eq m39).trans ?_
    refine (zLet_eq m40).trans ?_
    refine (zLet_eq m41).trans ?_
    refine (zLet_eq m42).trans ?_
    refine (zLet_eq m43).trans ?_
    refine (zLet_eq m45).trans ?_
    refine (if_pos w_0).trans ?_
    refine (if_pos w_1).trans ?_
    refine (zLet_eq m46).trans ?_
    refine (if_neg w_2).trans ?_
    refine (if_neg w_3).trans ?_
    refine (if_neg w_4).trans ?_
    refine (if_neg w_5).trans ?_
    refine (if_neg w_6).trans ?_
    refine (if_neg w_7).trans ?_
    refine (if_neg w_8).trans ?_
    refine (if_neg w_9).trans ?_
    refine (if_neg w_10).trans ?_
    refine (if_neg w_11).trans ?_
    refine (if_neg w_12).trans ?_
    refine (if_neg w_13).trans ?_
    refine (if_neg w_14).trans ?_
    refine (if_neg w_15).trans ?_
    refine (if_neg w_16).trans ?_
    refine (if_neg w_17).trans ?_
    refine (if_neg w_18).trans ?_
    refine (if_neg w_19).trans ?_
    refine (if_neg w_20).trans ?_
    refine (if_pos w_21).trans ?_
    rfl
  exact zGoo_ato hJ hD
theorem vn77a3_39 {S : Nat → zSpc}  {a : List Int} {g : rHp} : ∀ (ρ : Nat → Int) (γ : Nat → rHp), jn77 a g 3 (zAg (zNA a77_ 3) ρ) (γ 1) → zO 24 S a g q77a3_39 ρ γ → zGl (fun i vs g1 => jn77 a g i vs g1) (sn77 a g) q77a3_39 ρ γ := by
  intro ρ γ hJ h
  obtain ⟨ha, hg, hr, hf, hm, hc, hl⟩ := h
  have ha : a = [ρ 0, ρ 1, ρ 2, ρ 3, ρ 4, ρ 5, ρ 6, ρ 7, ρ 8, ρ 9, ρ 10, ρ 11, ρ 12, ρ 13, ρ 14, ρ 15, ρ 16, ρ 17, ρ 18, ρ 19, ρ 20, ρ 21, ρ 22, ρ 23] := ha
  subst ha
  subst hg
  have hJ : jn77 [ρ 0, ρ 1, ρ 2, ρ 3, ρ 4, ρ 5, ρ 6, ρ 7, ρ 8, ρ 9, ρ 10, ρ 11, ρ 12, ρ 13, ρ 14, ρ 15, ρ 16, ρ 17, ρ 18, ρ 19, ρ 20, ρ 21, ρ 22, ρ 23] (γ 0) 3 [ρ 0, ρ 1, ρ 2, ρ 3, ρ 4, ρ 5, ρ 6, ρ 7, ρ 8, ρ 9, ρ 10, ρ 11, ρ 12, ρ 13, ρ 14, ρ 15, ρ 16, ρ 17, ρ 18, ρ 19, ρ 20, ρ 21, ρ 22, ρ 23, ρ 24, ρ 25, ρ 26, ρ 27, ρ 28, ρ 29, ρ 30, ρ 31, ρ 32, ρ 33, ρ 34, ρ 35, ρ 36, ρ 37, ρ 38, ρ 39, ρ 40, ρ 41, ρ 42, ρ 43, ρ 44, ρ 45, ρ 46, ρ 47, ρ 48] (γ 1) := hJ
  obtain ⟨-, -, -, -, -, -, -, -, -, -, -, -, -, -, -, -, -, -, -, -, -, -, -, -, -, r25, -, -, -, -, -, -, -, -, -, -, -, -, -, -, -, -, -, -, -, -, -, -, -, -, r50, -⟩ := hr
  have r25 : (0 : Int) ≤ ρ 25 ∧ ρ 25 ≤ 20 := r25
  have r50 : (19 : Int) ≤ ρ 50 ∧ ρ 50 ≤ 19 := r50
  obtain ⟨f0, f1, -⟩ := hf
  have f0 : (0 : Int) ≤ -ρ 47 + ρ 25 + (-1) := f0
  have f1 : (0 : Int) ≤ -ρ 49 + ((-8) * ρ 26 + ρ 24) := f1
  obtain ⟨w_0, w_1, w_2, w_3, w_4, w_5, w_6, w_7, w_8, w_9, w_10, w_11, w_12, w_13, w_14, w_15, w_16, w_17, w_18, w_19, w_20, w_21⟩ : (ρ 24 ≥ ρ 49 + 8 * ρ 26) ∧ (ρ 25 ≤ 20) ∧ (¬ (0 ≤ -ρ 50)) ∧ (¬ (0 ≤ -ρ 50 + 1)) ∧ (¬ (0 ≤ -ρ 50 + 2)) ∧ (¬ (0 ≤ -ρ 50 + 3)) ∧ (¬ (0 ≤ -ρ 50 + 4)) ∧ (¬ (0 ≤ -ρ 50 + 5)) ∧ (¬ (0 ≤ -ρ 50 + 6)) ∧ (¬ (0 ≤ -ρ 50 + 7)) ∧ (¬ (0 ≤ -ρ 50 + 8)) ∧ (¬ (0 ≤ -ρ 50 + 9)) ∧ (¬ (0 ≤ -ρ 50 + 10)) ∧ (¬ (0 ≤ -ρ 50 + 11)) ∧ (¬ (0 ≤ -ρ 50 + 12)) ∧ (¬ (0 ≤ -ρ 50 + 13)) ∧ (¬ (0 ≤ -ρ 50 + 14)) ∧ (¬ (0 ≤ -ρ 50 + 15)) ∧ (¬ (0 ≤ -ρ 50 + 16)) ∧ (¬ (0 ≤ -ρ 50 + 17)) ∧ (¬ (0 ≤ -ρ 50 + 18)) ∧ (¬ (ρ 25 ≤ ρ 47)) := ⟨by omega, by omega, by omega, by omega, by omega, by omega, by omega, by omega, by omega, by omega, by omega, by omega, by omega, by omega, by omega, by omega, by omega, by omega, by omega, by omega, by omega, by omega⟩
  obtain ⟨-, -, -, -, -, -, -, -, -, -, -, -, -, -, -, -, -, -, -, -, -, -, -, -, m24, m25, m26, m27, m28, m29, m30, m31, m32, m33, m34, m35, m36, m37, m38, m39, m40, m41, m42, m43, -, m45, m46, -⟩ := hm
  have m24 : γ 1 92 0 0 = ρ 28 := m24
  have m25 : γ 1 92 0 1 = ρ 29 := m25
  have m26 : γ 1 92 0 2 = ρ 30 := m26
  have m27 : γ 1 92 0 3 = ρ 31 := m27
  have m28 : γ 1 92 0 4 = ρ 32 := m28
  have m29 : γ 1 92 0 5 = ρ 33 := m29
  have m30 : γ 1 92 0 6 = ρ 34 := m30
  have m31 : γ 1 92 0 7 = ρ 35 := m31
  have m32 : γ 1 92 0 8 = ρ 36 := m32
  have m33 : γ 1 92 0 9 = ρ 37 := m33
  have m34 : γ 1 92 0 10 = ρ 38 := m34
  have m35 : γ 1 92 0 11 = ρ 39 := m35
  have m36 : γ 1 92 0 12 = ρ 40 := m36
  have m37 : γ 1 92 0 13 = ρ 41 := m37
  have m38 : γ 1 92 0 14 = ρ 42 := m38
  have m39 : γ 1 92 0 15 = ρ 43 := m39
  have m40 : γ 1 92 0 16 = ρ 44 := m40
  have m41 : γ 1 92 0 17 = ρ 45 := m41
  have m42 : γ 1 92 0 18 = ρ 46 := m42
  have m43 : γ 1 92 0 19 = ρ 47 := m43
  have m45 : γ 0 73 0 (ρ 26) = ρ 49 := m45
  have m46 : γ 0 69 0 (ρ 26) = ρ 50 := m46
  obtain ⟨-, c2⟩ := hc
  have c2 : γ 2 = rUp (γ 1) 92 0 (ρ 50) (ρ 25) := c2
  show jn77 [ρ 0, ρ 1, ρ 2, ρ 3, ρ 4, ρ 5, ρ 6, ρ 7, ρ 8, ρ 9, ρ 10, ρ 11, ρ 12, ρ 13, ρ 14, ρ 15, ρ 16, ρ 17, ρ 18, ρ 19, ρ 20, ρ 21, ρ 22, ρ 23] (γ 0) 2 [ρ 0, ρ 1, ρ 2, ρ 3, ρ 4, ρ 5, ρ 6, ρ 7, ρ 8, ρ 9, ρ 10, ρ 11, ρ 12, ρ 13, ρ 14, ρ 15, ρ 16, ρ 17, ρ 18, ρ 19, ρ 20, ρ 21, ρ 22, ρ 23, ρ 26 + 1, 1, ρ 28, ρ 29, ρ 30, ρ 31, ρ 32, ρ 33, ρ 34, ρ 35, ρ 36, ρ 37, ρ 38, ρ 39, ρ 40, ρ 41, ρ 42, ρ 43, ρ 44, ρ 45, ρ 46, ρ 25, ρ 48] (γ 2)
  have hD : en77 (γ 0) (3, [ρ 24, ρ 25, ρ 26, ρ 27], γ 1) = .inl (2, [ρ 26 + 1, 1], γ 2) := by
    unfold en77
    refine (if_neg (show ¬ (3 : Nat) = 0 by decide)).trans ?_
    refine (if_neg (show ¬ (3 : Nat) = 1 by decide)).trans ?_
    refine (if_neg (show ¬ (3 : Nat) = 2 by decide)).trans ?_
    refine (if_pos (show (3 : Nat) = 3 by decide)).trans ?_
    refine (zLet_eq (show _ = γ 1 from rfl)).trans ?_
    refine (zLet_eq (show _ = ρ 24 from rfl)).trans ?_
    refine (zLet_eq (show _ = ρ 25 from rfl)).trans ?_
    refine (zLet_eq (show _ = ρ 26 from rfl)).trans ?_
    refine (zLet_eq (show _ = ρ 27 from rfl)).trans ?_
    refine (zLet_eq m24).trans ?_
    refine (zLet_eq m25).trans ?_
    refine (zLet_eq m26).trans ?_
    refine (zLet_eq m27).trans ?_
    refine (zLet_eq m28).trans ?_
    refine (zLet_eq m29).trans ?_
    refine (zLet_eq m30).trans ?_
    refine (zLet_eq m31).trans ?_
    refine (zLet_eq m32).trans ?_
    refine (zLet_eq m33).trans ?_
    refine (zLet_eq m34).trans ?_
    refine (zLet_eq m35).trans ?_
    refine (zLet_eq m36).trans ?_
    refine (zLet_eq m37).trans ?_
    refine (zLet_eq m38).trans ?_
    refine (zLet_eq m39).trans ?_
    refine (zLet_eq m40).trans ?_
    refine (zLet_eq m41).trans ?_
    refine (zLet_eq m42).trans ?_
    refine (zLet_eq m43).trans ?_
    refine (zLet_eq m45).trans ?_
    refine (if_pos w_0).trans ?_
    refine (if_pos w_1).trans ?_
    refine (zLet_eq m46).trans ?_
    refine (if_neg w_2).trans ?_
    refine (if_neg w_3).trans ?_
    refine (if_neg w_4).trans ?_
    refine (if_neg w_5).trans ?_
    refine (if_neg w_6).trans ?_
    refine (if_neg w_7).trans ?_
    refine (if_neg w_8).trans ?_
    refine (if_neg w_9).trans ?_
    refine (if_neg w_10).trans ?_
    refine (if_neg w_11).trans ?_
    refine (if_neg w_12).trans ?_
    refine (if_neg w_13).trans ?_
    refine (if_neg w_14).trans ?_
    refine (if_neg w_15).trans ?_
    refine (if_neg w_16).trans ?_
    refine (if_neg w_17).trans ?_
    refine (if_neg w_18).trans ?_
    refine (if_neg w_19).trans ?_
    refine (if_neg w_20).trans ?_
    refine (if_neg w_21).trans ?_
    refine (zLet_eq c2.symm).trans ?_
    rfl
  exact zGoo_ato hJ hD
theorem vn77a3_40 {S : Nat → zSpc}  {a : List Int} {g : rHp} : ∀ (ρ : Nat → Int) (γ : Nat → rHp), jn77 a g 3 (zAg (zNA a77_ 3) ρ) (γ 1) → zO 24 S a g q77a3_40 ρ γ → zGl (fun i vs g1 => jn77 a g i vs g1) (sn77 a g) q77a3_40 ρ γ := by
  intro ρ γ hJ h
  obtain ⟨ha, hg, hr, hf, hm, hc, hl⟩ := h
  have ha : a = [ρ 0, ρ 1, ρ 2, ρ 3, ρ 4, ρ 5, ρ 6, ρ 7, ρ 8, ρ 9, ρ 10, ρ 11, ρ 12, ρ 13, ρ 14, ρ 15, ρ 16, ρ 17, ρ 18, ρ 19, ρ 20, ρ 21, ρ 22, ρ 23] := ha
  subst ha
  subst hg
  have hJ : jn77 [ρ 0, ρ 1, ρ 2, ρ 3, ρ 4, ρ 5, ρ 6, ρ 7, ρ 8, ρ 9, ρ 10, ρ 11, ρ 12, ρ 13, ρ 14, ρ 15, ρ 16, ρ 17, ρ 18, ρ 19, ρ 20, ρ 21, ρ 22, ρ 23] (γ 0) 3 [ρ 0, ρ 1, ρ 2, ρ 3, ρ 4, ρ 5, ρ 6, ρ 7, ρ 8, ρ 9, ρ 10, ρ 11, ρ 12, ρ 13, ρ 14, ρ 15, ρ 16, ρ 17, ρ 18, ρ 19, ρ 20, ρ 21, ρ 22, ρ 23, ρ 24, ρ 25, ρ 26, ρ 27, ρ 28, ρ 29, ρ 30, ρ 31, ρ 32, ρ 33, ρ 34, ρ 35, ρ 36, ρ 37, ρ 38, ρ 39, ρ 40, ρ 41, ρ 42, ρ 43, ρ 44, ρ 45, ρ 46, ρ 47, ρ 48] (γ 1) := hJ
  obtain ⟨-, -, -, -, -, -, -, -, -, -, -, -, -, -, -, -, -, -, -, -, -, -, -, -, -, r25, -⟩ := hr
  have r25 : (21 : Int) ≤ ρ 25 ∧ ρ 25 ≤ 21 := r25
  obtain ⟨f0, -⟩ := hf
  have f0 : (0 : Int) ≤ -ρ 49 + ((-8) * ρ 26 + ρ 24) := f0
  obtain ⟨w_0, w_1⟩ : (ρ 24 ≥ ρ 49 + 8 * ρ 26) ∧ (¬ (ρ 25 ≤ 20)) := ⟨by omega, by omega⟩
  obtain ⟨-, -, -, -, -, -, -, -, -, -, -, -, -, -, -, -, -, -, -, -, -, -, -, -, m24, m25, m26, m27, m28, m29, m30, m31, m32, m33, m34, m35, m36, m37, m38, m39, m40, m41, m42, m43, -, m45, -⟩ := hm
  have m24 : γ 1 92 0 0 = ρ 28 := m24
  have m25 : γ 1 92 0 1 = ρ 29 := m25
  have m26 : γ 1 92 0 2 = ρ 30 := m26
  have m27 : γ 1 92 0 3 = ρ 31 := m27
  have m28 : γ 1 92 0 4 = ρ 32 := m28
  have m29 : γ 1 92 0 5 = ρ 33 := m29
  have m30 : γ 1 92 0 6 = ρ 34 := m30
  have m31 : γ 1 92 0 7 = ρ 35 := m31
  have m32 : γ 1 92 0 8 = ρ 36 := m32
  have m33 : γ 1 92 0 9 = ρ 37 := m33
  have m34 : γ 1 92 0 10 = ρ 38 := m34
  have m35 : γ 1 92 0 11 = ρ 39 := m35
  have m36 : γ 1 92 0 12 = ρ 40 := m36
  have m37 : γ 1 92 0 13 = ρ 41 := m37
  have m38 : γ 1 92 0 14 = ρ 42 := m38
  have m39 : γ 1 92 0 15 = ρ 43 := m39
  have m40 : γ 1 92 0 16 = ρ 44 := m40
  have m41 : γ 1 92 0 17 = ρ 45 := m41
  have m42 : γ 1 92 0 18 = ρ 46 := m42
  have m43 : γ 1 92 0 19 = ρ 47 := m43
  have m45 : γ 0 73 0 (ρ 26) = ρ 49 := m45
  show sn77 [ρ 0, ρ 1, ρ 2, ρ 3, ρ 4, ρ 5, ρ 6, ρ 7, ρ 8, ρ 9, ρ 10, ρ 11, ρ 12, ρ 13, ρ 14, ρ 15, ρ 16, ρ 17, ρ 18, ρ 19, ρ 20, ρ 21, ρ 22, ρ 23] (γ 0) 0 0 (γ 1)
  have hD : en77 (γ 0) (3, [ρ 24, ρ 25, ρ 26, ρ 27], γ 1) = .inr (0, 0, γ 1) := by
    unfold en77
    refine (if_neg (show ¬ (3 : Nat) = 0 by decide)).trans ?_
    refine (if_neg (show ¬ (3 : Nat) = 1 by decide)).trans ?_
    refine (if_neg (show ¬ (3 : Nat) = 2 by decide)).trans ?_
    refine (if_pos (show (3 : Nat) = 3 by decide)).trans ?_
    refine (zLet_eq (show _ = γ 1 from rfl)).trans ?_
    refine (zLet_eq (show _ = ρ 24 from rfl)).trans ?_
    refine (zLet_eq (show _ = ρ 25 from rfl)).trans ?_
    refine (zLet_eq (show _ = ρ 26 from rfl)).trans ?_
    refine (zLet_eq (show _ = ρ 27 from rfl)).trans ?_
    refine (zLet_eq m24).trans ?_
    refine (zLet_eq m25).trans ?_
    refine (zLet_eq m26).trans ?_
    refine (zLet_eq m27).trans ?_
    refine (zLet_eq m28).trans ?_
    refine (zLet_eq m29).trans ?_
    refine (zLet_eq m30).trans ?_
    refine (zLet_eq m31).trans ?_
    refine (zLet_eq m32).trans ?_
    refine (zLet_eq m33).trans ?_
    refine (zLet_eq m34).trans ?_
    refine (zLet_eq m35).trans ?_
    refine (zLet_eq m36).trans ?_
    refine (zLet_eq m37).trans ?_
    refine (zLet_eq m38).trans ?_
    refine (zLet_eq m39).trans ?_
    refine (zLet_eq m40).trans ?_
    refine (zLet_eq m41).trans ?_
    refine (zLet_eq m42).trans ?_
    refine (zLet_eq m43).trans ?_
    refine (zLet_eq m45).trans ?_
    refine (if_pos w_0).trans ?_
    refine (if_neg w_1).trans ?_
    rfl
  exact zGoo_aend hJ hD
theorem vn77a3_41 {S : Nat → zSpc}  {a : List Int} {g : rHp} : ∀ (ρ : Nat → Int) (γ : Nat → rHp), jn77 a g 3 (zAg (zNA a77_ 3) ρ) (γ 1) → zO 24 S a g q77a3_41 ρ γ → zGl (fun i vs g1 => jn77 a g i vs g1) (sn77 a g) q77a3_41 ρ γ := by
  intro ρ γ hJ h
  obtain ⟨ha, hg, hr, hf, hm, hc, hl⟩ := h
  have ha : a = [ρ 0, ρ 1, ρ 2, ρ 3, ρ 4, ρ 5, ρ 6, ρ 7, ρ 8, ρ 9, ρ 10, ρ 11, ρ 12, ρ 13, ρ 14, ρ 15, ρ 16, ρ 17, ρ 18, ρ 19, ρ 20, ρ 21, ρ 22, ρ 23] := ha
  subst ha
  subst hg
  have hJ : jn77 [ρ 0, ρ 1, ρ 2, ρ 3, ρ 4, ρ 5, ρ 6, ρ 7, ρ 8, ρ 9, ρ 10, ρ 11, ρ 12, ρ 13, ρ 14, ρ 15, ρ 16, ρ 17, ρ 18, ρ 19, ρ 20, ρ 21, ρ 22, ρ 23] (γ 0) 3 [ρ 0, ρ 1, ρ 2, ρ 3, ρ 4, ρ 5, ρ 6, ρ 7, ρ 8, ρ 9, ρ 10, ρ 11, ρ 12, ρ 13, ρ 14, ρ 15, ρ 16, ρ 17, ρ 18, ρ 19, ρ 20, ρ 21, ρ 22, ρ 23, ρ 24, ρ 25, ρ 26, ρ 27, ρ 28, ρ 29, ρ 30, ρ 31, ρ 32, ρ 33, ρ 34, ρ 35, ρ 36, ρ 37, ρ 38, ρ 39, ρ 40, ρ 41, ρ 42, ρ 43, ρ 44, ρ 45, ρ 46, ρ 47, ρ 48] (γ 1) := hJ
  obtain ⟨-, -, -, -, -, -, -, -, -, -, -, -, -, -, -, -, -, -, -, -, -, -, -, -, -, -, -, -, -, -, -, -, -, -, -, -, -, -, -, -, -, -, -, -, -, -, -, -, -, -, r50, -⟩ := hr
  have r50 : (1 : Int) ≤ ρ 50 ∧ ρ 50 ≤ 1 := r50
  obtain ⟨f0, f1, -⟩ := hf
  have f0 : (0 : Int) ≤ -ρ 52 + ρ 25 + (-1) := f0
  have f1 : (0 : Int) ≤ ρ 49 + (8 * ρ 26 + -ρ 24) + (-1) := f1
  obtain ⟨w_0, w_1, w_2, w_3⟩ : (¬ (ρ 24 ≥ ρ 49 + 8 * ρ 26)) ∧ (ρ 50 ≤ 1) ∧ (ρ 50 = 1) ∧ (ρ 52 + 1 ≤ ρ 25) := ⟨by omega, by omega, by omega, by omega⟩
  obtain ⟨-, -, -, -, -, -, -, -, -, -, -, -, -, -, -, -, -, -, -, -, -, -, -, -, m24, m25, m26, m27, m28, m29, m30, m31, m32, m33, m34, m35, m36, m37, m38, m39, m40, m41, m42, m43, -, m45, m46, m47, m48, -⟩ := hm
  have m24 : γ 1 92 0 0 = ρ 28 := m24
  have m25 : γ 1 92 0 1 = ρ 29 := m25
  have m26 : γ 1 92 0 2 = ρ 30 := m26
  have m27 : γ 1 92 0 3 = ρ 31 := m27
  have m28 : γ 1 92 0 4 = ρ 32 := m28
  have m29 : γ 1 92 0 5 = ρ 33 := m29
  have m30 : γ 1 92 0 6 = ρ 34 := m30
  have m31 : γ 1 92 0 7 = ρ 35 := m31
  have m32 : γ 1 92 0 8 = ρ 36 := m32
  have m33 : γ 1 92 0 9 = ρ 37 := m33
  have m34 : γ 1 92 0 10 = ρ 38 := m34
  have m35 : γ 1 92 0 11 = ρ 39 := m35
  have m36 : γ 1 92 0 12 = ρ 40 := m36
  have m37 : γ 1 92 0 13 = ρ 41 := m37
  have m38 : γ 1 92 0 14 = ρ 42 := m38
  have m39 : γ 1 92 0 15 = ρ 43 := m39
  have m40 : γ 1 92 0 16 = ρ 44 := m40
  have m41 : γ 1 92 0 17 = ρ 45 := m41
  have m42 : γ 1 92 0 18 = ρ 46 := m42
  have m43 : γ 1 92 0 19 = ρ 47 := m43
  have m45 : γ 0 73 0 (ρ 26) = ρ 49 := m45
  have m46 : γ 0 77 0 (ρ 24) = ρ 50 := m46
  have m47 : γ 0 78 0 (ρ 24) = ρ 51 := m47
  have m48 : γ 1 92 0 (ρ 51) = ρ 52 := m48
  show jn77 [ρ 0, ρ 1, ρ 2, ρ 3, ρ 4, ρ 5, ρ 6, ρ 7, ρ 8, ρ 9, ρ 10, ρ 11, ρ 12, ρ 13, ρ 14, ρ 15, ρ 16, ρ 17, ρ 18, ρ 19, ρ 20, ρ 21, ρ 22, ρ 23] (γ 0) 3 [ρ 0, ρ 1, ρ 2, ρ 3, ρ 4, ρ 5, ρ 6, ρ 7, ρ 8, ρ 9, ρ 10, ρ 11, ρ 12, ρ 13, ρ 14, ρ 15, ρ 16, ρ 17, ρ 18, ρ 19, ρ 20, ρ 21, ρ 22, ρ 23, ρ 24 + 1, ρ 25, ρ 26, ρ 27, ρ 28, ρ 29, ρ 30, ρ 31, ρ 32, ρ 33, ρ 34, ρ 35, ρ 36, ρ 37, ρ 38, ρ 39, ρ 40, ρ 41, ρ 42, ρ 43, ρ 44, ρ 45, ρ 46, ρ 47, ρ 48] (γ 1)
  have hD : en77 (γ 0) (3, [ρ 24, ρ 25, ρ 26, ρ 27], γ 1) = .inl (3, [ρ 24 + 1, ρ 25, ρ 26, ρ 27], γ 1) := by
    unfold en77
    refine (if_neg (show ¬ (3 : Nat) = 0 by decide)).trans ?_
    refine (if_neg (show ¬ (3 : Nat) = 1 by decide)).trans ?_
    refine (if_neg (show ¬ (3 : Nat) = 2 by decide)).trans ?_
    refine (if_pos (show (3 : Nat) = 3 by decide)).trans ?_
    refine (zLet_eq (show _ = γ 1 from rfl)).trans ?_
    refine (zLet_eq (show _ = ρ 24 from rfl)).trans ?_
    refine (zLet_eq (show _ = ρ 25 from rfl)).trans ?_
    refine (zLet_eq (show _ = ρ 26 from rfl)).trans ?_
    refine (zLet_eq (show _ = ρ 27 from rfl)).trans ?_
    refine (zLet_eq m24).trans ?_
    refine (zLet_eq m25).trans ?_
    refine (zLet_eq m26).trans ?_
    refine (zLet_eq m27).trans ?_
    refine (zLet_eq m28).trans ?_
    refine (zLet_eq m29).trans ?_
    refine (zLet_eq m30).trans ?_
    refine (zLet_eq m31).trans ?_
    refine (zLet_eq m32).trans ?_
    refine (zLet_eq m33).trans ?_
    refine (zLet_eq m34).trans ?_
    refine (zLet_eq m35).trans ?_
    refine (zLet_eq m36).trans ?_
    refine (zLet_eq m37).trans ?_
    refine (zLet_eq m38).trans ?_
    refine (zLet_eq m39).trans ?_
    refine (zLet_eq m40).trans ?_
    refine (zLet_eq m41).trans ?_
    refine (zLet_eq m42).trans ?_
    refine (zLet_eq m43).trans ?_
    refine (zLet_eq m45).trans ?_
    refine (if_neg w_0).trans ?_
    refine (zLet_eq m46).trans ?_
    refine (if_pos w_1).trans ?_
    refine (zLet_eq m47).trans ?_
    refine (zLet_eq m48).trans ?_
    refine (if_pos w_2).trans ?_
    refine (if_pos w_3).trans ?_
    rfl
  exact zGoo_ato hJ hD
theorem vn77a3_42 {S : Nat → zSpc}  {a : List Int} {g : rHp} : ∀ (ρ : Nat → Int) (γ : Nat → rHp), jn77 a g 3 (zAg (zNA a77_ 3) ρ) (γ 1) → zO 24 S a g q77a3_42 ρ γ → zGl (fun i vs g1 => jn77 a g i vs g1) (sn77 a g) q77a3_42 ρ γ := by
  intro ρ γ hJ h
  obtain ⟨ha, hg, hr, hf, hm, hc, hl⟩ := h
  have ha : a = [ρ 0, ρ 1, ρ 2, ρ 3, ρ 4, ρ 5, ρ 6, ρ 7, ρ 8, ρ 9, ρ 10, ρ 11, ρ 12, ρ 13, ρ 14, ρ 15, ρ 16, ρ 17, ρ 18, ρ 19, ρ 20, ρ 21, ρ 22, ρ 23] := ha
  subst ha
  subst hg
  have hJ : jn77 [ρ 0, ρ 1, ρ 2, ρ 3, ρ 4, ρ 5, ρ 6, ρ 7, ρ 8, ρ 9, ρ 10, ρ 11, ρ 12, ρ 13, ρ 14, ρ 15, ρ 16, ρ 17, ρ 18, ρ 19, ρ 20, ρ 21, ρ 22, ρ 23] (γ 0) 3 [ρ 0, ρ 1, ρ 2, ρ 3, ρ 4, ρ 5, ρ 6, ρ 7, ρ 8, ρ 9, ρ 10, ρ 11, ρ 12, ρ 13, ρ 14, ρ 15, ρ 16, ρ 17, ρ 18, ρ 19, ρ 20, ρ 21, ρ 22, ρ 23, ρ 24, ρ 25, ρ 26, ρ 27, ρ 28, ρ 29, ρ 30, ρ 31, ρ 32, ρ 33, ρ 34, ρ 35, ρ 36, ρ 37, ρ 38, ρ 39, ρ 40, ρ 41, ρ 42, ρ 43, ρ 44, ρ 45, ρ 46, ρ 47, ρ 48] (γ 1) := hJ
  obtain ⟨-, -, -, -, -, -, -, -, -, -, -, -, -, -, -, -, -, -, -, -, -, -, -, -, -, -, -, -, -, -, -, -, -, -, -, -, -, -, -, -, -, -, -, -, -, -, -, -, -, -, r50, -⟩ := hr
  have r50 : (1 : Int) ≤ ρ 50 ∧ ρ 50 ≤ 1 := r50
  obtain ⟨f0, f1, -⟩ := hf
  have f0 : (0 : Int) ≤ ρ 52 + -ρ 25 := f0
  have f1 : (0 : Int) ≤ ρ 49 + (8 * ρ 26 + -ρ 24) + (-1) := f1
  obtain ⟨w_0, w_1, w_2, w_3⟩ : (¬ (ρ 24 ≥ ρ 49 + 8 * ρ 26)) ∧ (ρ 50 ≤ 1) ∧ (ρ 50 = 1) ∧ (¬ (ρ 52 + 1 ≤ ρ 25)) := ⟨by omega, by omega, by omega, by omega⟩
  obtain ⟨-, -, -, -, -, -, -, -, -, -, -, -, -, -, -, -, -, -, -, -, -, -, -, -, m24, m25, m26, m27, m28, m29, m30, m31, m32, m33, m34, m35, m36, m37, m38, m39, m40, m41, m42, m43, -, m45, m46, m47, m48, -⟩ := hm
  have m24 : γ 1 92 0 0 = ρ 28 := m24
  have m25 : γ 1 92 0 1 = ρ 29 := m25
  have m26 : γ 1 92 0 2 = ρ 30 := m26
  have m27 : γ 1 92 0 3 = ρ 31 := m27
  have m28 : γ 1 92 0 4 = ρ 32 := m28
  have m29 : γ 1 92 0 5 = ρ 33 := m29
  have m30 : γ 1 92 0 6 = ρ 34 := m30
  have m31 : γ 1 92 0 7 = ρ 35 := m31
  have m32 : γ 1 92 0 8 = ρ 36 := m32
  have m33 : γ 1 92 0 9 = ρ 37 := m33
  have m34 : γ 1 92 0 10 = ρ 38 := m34
  have m35 : γ 1 92 0 11 = ρ 39 := m35
  have m36 : γ 1 92 0 12 = ρ 40 := m36
  have m37 : γ 1 92 0 13 = ρ 41 := m37
  have m38 : γ 1 92 0 14 = ρ 42 := m38
  have m39 : γ 1 92 0 15 = ρ 43 := m39
  have m40 : γ 1 92 0 16 = ρ 44 := m40
  have m41 : γ 1 92 0 17 = ρ 45 := m41
  have m42 : γ 1 92 0 18 = ρ 46 := m42
  have m43 : γ 1 92 0 19 = ρ 47 := m43
  have m45 : γ 0 73 0 (ρ 26) = ρ 49 := m45
  have m46 : γ 0 77 0 (ρ 24) = ρ 50 := m46
  have m47 : γ 0 78 0 (ρ 24) = ρ 51 := m47
  have m48 : γ 1 92 0 (ρ 51) = ρ 52 := m48
  show jn77 [ρ 0, ρ 1, ρ 2, ρ 3, ρ 4, ρ 5, ρ 6, ρ 7, ρ 8, ρ 9, ρ 10, ρ 11, ρ 12, ρ 13, ρ 14, ρ 15, ρ 16, ρ 17, ρ 18, ρ 19, ρ 20, ρ 21, ρ 22, ρ 23] (γ 0) 3 [ρ 0, ρ 1, ρ 2, ρ 3, ρ 4, ρ 5, ρ 6, ρ 7, ρ 8, ρ 9, ρ 10, ρ 11, ρ 12, ρ 13, ρ 14, ρ 15, ρ 16, ρ 17, ρ 18, ρ 19, ρ 20, ρ 21, ρ 22, ρ 23, ρ 24 + 1, ρ 52 + 1, ρ 26, ρ 27, ρ 28, ρ 29, ρ 30, ρ 31, ρ 32, ρ 33, ρ 34, ρ 35, ρ 36, ρ 37, ρ 38, ρ 39, ρ 40, ρ 41, ρ 42, ρ 43, ρ 44, ρ 45, ρ 46, ρ 47, ρ 48] (γ 1)
  have hD : en77 (γ 0) (3, [ρ 24, ρ 25, ρ 26, ρ 27], γ 1) = .inl (3, [ρ 24 + 1, ρ 52 + 1, ρ 26, ρ 27], γ 1) := by
    unfold en77
    refine (if_neg (show ¬ (3 : Nat) = 0 by decide)).trans ?_
    refine (if_neg (show ¬ (3 : Nat) = 1 by decide)).trans ?_
    refine (if_neg (show ¬ (3 : Nat) = 2 by decide)).trans ?_
    refine (if_pos (show (3 : Nat) = 3 by decide)).trans ?_
    refine (zLet_eq (show _ = γ 1 from rfl)).trans ?_
    refine (zLet_eq (show _ = ρ 24 from rfl)).trans ?_
    refine (zLet_eq (show _ = ρ 25 from rfl)).trans ?_
    refine (zLet_eq (show _ = ρ 26 from rfl)).trans ?_
    refine (zLet_eq (show _ = ρ 27 from rfl)).trans ?_
    refine (zLet_eq m24).trans ?_
    refine (zLet_eq m25).trans ?_
    refine (zLet_eq m26).trans ?_
    refine (zLet_eq m27).trans ?_
    refine (zLet_eq m28).trans ?_
    refine (zLet_eq m29).trans ?_
    refine (zLet_eq m30).trans ?_
    refine (zLet_eq m31).trans ?_
    refine (zLet_eq m32).trans ?_
    refine (zLet_eq m33).trans ?_
    refine (zLet_eq m34).trans ?_
    refine (zLet_eq m35).trans ?_
    refine (zLet_eq m36).trans ?_
    refine (zLet_eq m37).trans ?_
    refine (zLet_eq m38).trans ?_
    refine (zLet_eq m39).trans ?_
    refine (zLet_eq m40).trans ?_
    refine (zLet_eq m41).trans ?_
    refine (zLet_eq m42).trans ?_
    refine (zLet_eq m43).trans ?_
    refine (zLet_eq m45).trans ?_
    refine (if_neg w_0).trans ?_
    refine (zLet_eq m46).trans ?_
    refine (if_pos w_1).trans ?_
    refine (zLet_eq m47).trans ?_
    refine (zLet_eq m48).trans ?_
    refine (if_pos w_2).trans ?_
    refine (if_neg w_3).trans ?_
    rfl
  exact zGoo_ato hJ hD
theorem vn77a3_43 {S : Nat → zSpc}  {a : List Int} {g : rHp} : ∀ (ρ : Nat → Int) (γ : Nat → rHp), jn77 a g 3 (zAg (zNA a77_ 3) ρ) (γ 1) → zO 24 S a g q77a3_43 ρ γ → zGl (fun i vs g1 => jn77 a g i vs g1) (sn77 a g) q77a3_43 ρ γ := by
  intro ρ γ hJ h
  obtain ⟨ha, hg, hr, hf, hm, hc, hl⟩ := h
  have ha : a = [ρ 0, ρ 1, ρ 2, ρ 3, ρ 4, ρ 5, ρ 6, ρ 7, ρ 8, ρ 9, ρ 10, ρ 11, ρ 12, ρ 13, ρ 14, ρ 15, ρ 16, ρ 17, ρ 18, ρ 19, ρ 20, ρ 21, ρ 22, ρ 23] := ha
  subst ha
  subst hg
  have hJ : jn77 [ρ 0, ρ 1, ρ 2, ρ 3, ρ 4, ρ 5, ρ 6, ρ 7, ρ 8, ρ 9, ρ 10, ρ 11, ρ 12, ρ 13, ρ 14, ρ 15, ρ 16, ρ 17, ρ 18, ρ 19, ρ 20, ρ 21, ρ 22, ρ 23] (γ 0) 3 [ρ 0, ρ 1, ρ 2, ρ 3, ρ 4, ρ 5, ρ 6, ρ 7, ρ 8, ρ 9, ρ 10, ρ 11, ρ 12, ρ 13, ρ 14, ρ 15, ρ 16, ρ 17, ρ 18, ρ 19, ρ 20, ρ 21, ρ 22, ρ 23, ρ 24, ρ 25, ρ 26, ρ 27, ρ 28, ρ 29, ρ 30, ρ 31, ρ 32, ρ 33, ρ 34, ρ 35, ρ 36, ρ 37, ρ 38, ρ 39, ρ 40, ρ 41, ρ 42, ρ 43, ρ 44, ρ 45, ρ 46, ρ 47, ρ 48] (γ 1) := hJ
  obtain ⟨-, -, -, -, -, -, -, -, -, -, -, -, -, -, -, -, -, -, -, -, -, -, -, -, -, -, -, -, -, -, -, -, -, -, -, -, -, -, -, -, -, -, -, -, -, -, -, -, -, -, r50, -, -, r53, -⟩ := hr
  have r50 : (0 : Int) ≤ ρ 50 ∧ ρ 50 ≤ 0 := r50
  have r53 : (0 : Int) ≤ ρ 53 ∧ ρ 53 ≤ 0 := r53
  obtain ⟨f0, f1, -⟩ := hf
  have f0 : (0 : Int) ≤ -ρ 52 + ρ 25 := f0
  have f1 : (0 : Int) ≤ ρ 49 + (8 * ρ 26 + -ρ 24) + (-1) := f1
  obtain ⟨w_0, w_1, w_2, w_3, w_4⟩ : (¬ (ρ 24 ≥ ρ 49 + 8 * ρ 26)) ∧ (ρ 50 ≤ 1) ∧ (¬ (ρ 50 = 1)) ∧ (ρ 53 ≤ 0) ∧ (ρ 52 ≤ ρ 25) := ⟨by omega, by omega, by omega, by omega, by omega⟩
  obtain ⟨-, -, -, -, -, -, -, -, -, -, -, -, -, -, -, -, -, -, -, -, -, -, -, -, m24, m25, m26, m27, m28, m29, m30, m31, m32, m33, m34, m35, m36, m37, m38, m39, m40, m41, m42, m43, -, m45, m46, m47, m48, m49, -⟩ := hm
  have m24 : γ 1 92 0 0 = ρ 28 := m24
  have m25 : γ 1 92 0 1 = ρ 29 := m25
  have m26 : γ 1 92 0 2 = ρ 30 := m26
  have m27 : γ 1 92 0 3 = ρ 31 := m27
  have m28 : γ 1 92 0 4 = ρ 32 := m28
  have m29 : γ 1 92 0 5 = ρ 33 := m29
  have m30 : γ 1 92 0 6 = ρ 34 := m30
  have m31 : γ 1 92 0 7 = ρ 35 := m31
  have m32 : γ 1 92 0 8 = ρ 36 := m32
  have m33 : γ 1 92 0 9 = ρ 37 := m33
  have m34 : γ 1 92 0 10 = ρ 38 := m34
  have m35 : γ 1 92 0 11 = ρ 39 := m35
  have m36 : γ 1 92 0 12 = ρ 40 := m36
  have m37 : γ 1 92 0 13 = ρ 41 := m37
  have m38 : γ 1 92 0 14 = ρ 42 := m38
  have m39 : γ 1 92 0 15 = ρ 43 := m39
  have m40 : γ 1 92 0 16 = ρ 44 := m40
  have m41 : γ 1 92 0 17 = ρ 45 := m41
  have m42 : γ 1 92 0 18 = ρ 46 := m42
  have m43 : γ 1 92 0 19 = ρ 47 := m43
  have m45 : γ 0 73 0 (ρ 26) = ρ 49 := m45
  have m46 : γ 0 77 0 (ρ 24) = ρ 50 := m46
  have m47 : γ 0 78 0 (ρ 24) = ρ 51 := m47
  have m48 : γ 1 92 0 (ρ 51) = ρ 52 := m48
  have m49 : γ 0 71 0 (ρ 26) = ρ 53 := m49
  show jn77 [ρ 0, ρ 1, ρ 2, ρ 3, ρ 4, ρ 5, ρ 6, ρ 7, ρ 8, ρ 9, ρ 10, ρ 11, ρ 12, ρ 13, ρ 14, ρ 15, ρ 16, ρ 17, ρ 18, ρ 19, ρ 20, ρ 21, ρ 22, ρ 23] (γ 0) 3 [ρ 0, ρ 1, ρ 2, ρ 3, ρ 4, ρ 5, ρ 6, ρ 7, ρ 8, ρ 9, ρ 10, ρ 11, ρ 12, ρ 13, ρ 14, ρ 15, ρ 16, ρ 17, ρ 18, ρ 19, ρ 20, ρ 21, ρ 22, ρ 23, ρ 24 + 1, ρ 25, ρ 26, ρ 27, ρ 28, ρ 29, ρ 30, ρ 31, ρ 32, ρ 33, ρ 34, ρ 35, ρ 36, ρ 37, ρ 38, ρ 39, ρ 40, ρ 41, ρ 42, ρ 43, ρ 44, ρ 45, ρ 46, ρ 47, ρ 48] (γ 1)
  have hD : en77 (γ 0) (3, [ρ 24, ρ 25, ρ 26, ρ 27], γ 1) = .inl (3, [ρ 24 + 1, ρ 25, ρ 26, ρ 27], γ 1) := by
    unfold en77
    refine (if_neg (show ¬ (3 : Nat) = 0 by decide)).trans ?_
    refine (if_neg (show ¬ (3 : Nat) = 1 by decide)).trans ?_
    refine (if_neg (show ¬ (3 : Nat) = 2 by decide)).trans ?_
    refine (if_pos (show (3 : Nat) = 3 by decide)).trans ?_
    refine (zLet_eq (show _ = γ 1 from rfl)).trans ?_
    refine (zLet_eq (show _ = ρ 24 from rfl)).trans ?_
    refine (zLet_eq (show _ = ρ 25 from rfl)).trans ?_
    refine (zLet_eq (show _ = ρ 26 from rfl)).trans ?_
    refine (zLet_eq (show _ = ρ 27 from rfl)).trans ?_
    refine (zLet_eq m24).trans ?_
    refine (zLet_eq m25).trans ?_
    refine (zLet_eq m26).trans ?_
    refine (zLet_eq m27).trans ?_
    refine (zLet_eq m28).trans ?_
    refine (zLet_eq m29).trans ?_
    refine (zLet_eq m30).trans ?_
    refine (zLet_eq m31).trans ?_
    refine (zLet_eq m32).trans ?_
    refine (zLet_eq m33).trans ?_
    refine (zLet_eq m34).trans ?_
    refine (zLet_eq m35).trans ?_
    refine (zLet_eq m36).trans ?_
    refine (zLet_eq m37).trans ?_
    refine (zLet_eq m38).trans ?_
    refine (zLet_eq m39).trans ?_
    refine (zLet_eq m40).trans ?_
    refine (zLet_eq m41).trans ?_
    refine (zLet_eq m42).trans ?_
    refine (zLet_eq m43).trans ?_
    refine (zLet_eq m45).trans ?_
    refine (if_neg w_0).trans ?_
    refine (zLet_eq m46).trans ?_
    refine (if_pos w_1).trans ?_
    refine (zLet_eq m47).trans ?_
    refine (zLet_eq m48).trans ?_
    refine (if_neg w_2).trans ?_
    refine (zLet_eq m49).trans ?_
    refine (if_pos w_3).trans ?_
    refine (if_pos w_4).trans ?_
    rfl
  exact zGoo_ato hJ hD
theorem vn77a3_44 {S : Nat → zSpc}  {a : List Int} {g : rHp} : ∀ (ρ : Nat → Int) (γ : Nat → rHp), jn77 a g 3 (zAg (zNA a77_ 3) ρ) (γ 1) → zO 24 S a g q77a3_44 ρ γ → zGl (fun i vs g1 => jn77 a g i vs g1) (sn77 a g) q77a3_44 ρ γ := by
  intro ρ γ hJ h
  obtain ⟨ha, hg, hr, hf, hm, hc, hl⟩ := h
  have ha : a = [ρ 0, ρ 1, ρ 2, ρ 3, ρ 4, ρ 5, ρ 6, ρ 7, ρ 8, ρ 9, ρ 10, ρ 11, ρ 12, ρ 13, ρ 14, ρ 15, ρ 16, ρ 17, ρ 18, ρ 19, ρ 20, ρ 21, ρ 22, ρ 23] := ha
  subst ha
  subst hg
  have hJ : jn77 [ρ 0, ρ 1, ρ 2, ρ 3, ρ 4, ρ 5, ρ 6, ρ 7, ρ 8, ρ 9, ρ 10, ρ 11, ρ 12, ρ 13, ρ 14, ρ 15, ρ 16, ρ 17, ρ 18, ρ 19, ρ 20, ρ 21, ρ 22, ρ 23] (γ 0) 3 [ρ 0, ρ 1, ρ 2, ρ 3, ρ 4, ρ 5, ρ 6, ρ 7, ρ 8, ρ 9, ρ 10, ρ 11, ρ 12, ρ 13, ρ 14, ρ 15, ρ 16, ρ 17, ρ 18, ρ 19, ρ 20, ρ 21, ρ 22, ρ 23, ρ 24, ρ 25, ρ 26, ρ 27, ρ 28, ρ 29, ρ 30, ρ 31, ρ 32, ρ 33, ρ 34, ρ 35, ρ 36, ρ 37, ρ 38, ρ 39, ρ 40, ρ 41, ρ 42, ρ 43, ρ 44, ρ 45, ρ 46, ρ 47, ρ 48] (γ 1) := hJ
  obtain ⟨-, -, -, -, -, -, -, -, -, -, -, -, -, -, -, -, -, -, -, -, -, -, -, -, -, -, -, -, -, -, -, -, -, -, -, -, -, -, -, -, -, -, -, -, -, -, -, -, -, -, r50, -, -, r53, -⟩ := hr
  have r50 : (0 : Int) ≤ ρ 50 ∧ ρ 50 ≤ 0 := r50
  have r53 : (0 : Int) ≤ ρ 53 ∧ ρ 53 ≤ 0 := r53
  obtain ⟨f0, f1, -⟩ := hf
  have f0 : (0 : Int) ≤ ρ 52 + -ρ 25 + (-1) := f0
  have f1 : (0 : Int) ≤ ρ 49 + (8 * ρ 26 + -ρ 24) + (-1) := f1
  obtain ⟨w_0, w_1, w_2, w_3, w_4⟩ : (¬ (ρ 24 ≥ ρ 49 + 8 * ρ 26)) ∧ (ρ 50 ≤ 1) ∧ (¬ (ρ 50 = 1)) ∧ (ρ 53 ≤ 0) ∧ (¬ (ρ 52 ≤ ρ 25)) := ⟨by omega, by omega, by omega, by omega, by omega⟩
  obtain ⟨-, -, -, -, -, -, -, -, -, -, -, -, -, -, -, -, -, -, -, -, -, -, -, -, m24, m25, m26, m27, m28, m29, m30, m31, m32, m33, m34, m35, m36, m37, m38, m39, m40, m41, m42, m43, -, m45, m46, m47, m48, m49, -⟩ := hm
  have m24 : γ 1 92 0 0 = ρ 28 := m24
  have m25 : γ 1 92 0 1 = ρ 29 := m25
  have m26 : γ 1 92 0 2 = ρ 30 := m26
  have m27 : γ 1 92 0 3 = ρ 31 := m27
  have m28 : γ 1 92 0 4 = ρ 32 := m28
  have m29 : γ 1 92 0 5 = ρ 33 := m29
  have m30 : γ 1 92 0 6 = ρ 34 := m30
  have m31 : γ 1 92 0 7 = ρ 35 := m31
  have m32 : γ 1 92 0 8 = ρ 36 := m32
  have m33 : γ 1 92 0 9 = ρ 37 := m33
  have m34 : γ 1 92 0 10 = ρ 38 := m34
  have m35 : γ 1 92 0 11 = ρ 39 := m35
  have m36 : γ 1 92 0 12 = ρ 40 := m36
  have m37 : γ 1 92 0 13 = ρ 41 := m37
  have m38 : γ 1 92 0 14 = ρ 42 := m38
  have m39 : γ 1 92 0 15 = ρ 43 := m39
  have m40 : γ 1 92 0 16 = ρ 44 := m40
  have m41 : γ 1 92 0 17 = ρ 45 := m41
  have m42 : γ 1 92 0 18 = ρ 46 := m42
  have m43 : γ 1 92 0 19 = ρ 47 := m43
  have m45 : γ 0 73 0 (ρ 26) = ρ 49 := m45
  have m46 : γ 0 77 0 (ρ 24) = ρ 50 := m46
  have m47 : γ 0 78 0 (ρ 24) = ρ 51 := m47
  have m48 : γ 1 92 0 (ρ 51) = ρ 52 := m48
  have m49 : γ 0 71 0 (ρ 26) = ρ 53 := m49
  show jn77 [ρ 0, ρ 1, ρ 2, ρ 3, ρ 4, ρ 5, ρ 6, ρ 7, ρ 8, ρ 9, ρ 10, ρ 11, ρ 12, ρ 13, ρ 14, ρ 15, ρ 16, ρ 17, ρ 18, ρ 19, ρ 20, ρ 21, ρ 22, ρ 23] (γ 0) 3 [ρ 0, ρ 1, ρ 2, ρ 3, ρ 4, ρ 5, ρ 6, ρ 7, ρ 8, ρ 9, ρ 10, ρ 11, ρ 12, ρ 13, ρ 14, ρ 15, ρ 16, ρ 17, ρ 18, ρ 19, ρ 20, ρ 21, ρ 22, ρ 23, ρ 24 + 1, ρ 52, ρ 26, ρ 27, ρ 28, ρ 29, ρ 30, ρ 31, ρ 32, ρ 33, ρ 34, ρ 35, ρ 36, ρ 37, ρ 38, ρ 39, ρ 40, ρ 41, ρ 42, ρ 43, ρ 44, ρ 45, ρ 46, ρ 47, ρ 48] (γ 1)
  have hD : en77 (γ 0) (3, [ρ 24, ρ 25, ρ 26, ρ 27], γ 1) = .inl (3, [ρ 24 + 1, ρ 52, ρ 26, ρ 27], γ 1) := by
    unfold en77
    refine (if_neg (show ¬ (3 : Nat) = 0 by decide)).trans ?_
    refine (if_neg (show ¬ (3 : Nat) = 1 by decide)).trans ?_
    refine (if_neg (show ¬ (3 : Nat) = 2 by decide)).trans ?_
    refine (if_pos (show (3 : Nat) = 3 by decide)).trans ?_
    refine (zLet_eq (show _ = γ 1 from rfl)).trans ?_
    refine (zLet_eq (show _ = ρ 24 from rfl)).trans ?_
    refine (zLet_eq (show _ = ρ 25 from rfl)).trans ?_
    refine (zLet_eq (show _ = ρ 26 from rfl)).trans ?_
    refine (zLet_eq (show _ = ρ 27 from rfl)).trans ?_
    refine (zLet_eq m24).trans ?_
    refine (zLet_eq m25).trans ?_
    refine (zLet_eq m26).trans ?_
    refine (zLet_eq m27).trans ?_
    refine (zLet_eq m28).trans ?_
    refine (zLet_eq m29).trans ?_
    refine (zLet_eq m30).trans ?_
    refine (zLet_eq m31).trans ?_
    refine (zLet_eq m32).trans ?_
    refine (zLet_eq m33).trans ?_
    refine (zLet_eq m34).trans ?_
    refine (zLet_eq m35).trans ?_
    refine (zLet_eq m36).trans ?_
    refine (zLet_eq m37).trans ?_
    refine (zLet_eq m38).trans ?_
    refine (zLet_eq m39).trans ?_
    refine (zLet_eq m40).trans ?_
    refine (zLet_eq m41).trans ?_
    refine (zLet_eq m42).trans ?_
    refine (zLet_eq m43).trans ?_
    refine (zLet_eq m45).trans ?_
    refine (if_neg w_0).trans ?_
    refine (zLet_eq m46).trans ?_
    refine (if_pos w_1).trans ?_
    refine (zLet_eq m47).trans ?_
    refine (zLet_eq m48).trans ?_
    refine (if_neg w_2).trans ?_
    refine (zLet_eq m49).trans ?_
    refine (if_pos w_3).trans ?_
    refine (if_neg w_4).trans ?_
    rfl
  exact zGoo_ato hJ hD
theorem vn77a3_45 {S : Nat → zSpc}  {a : List Int} {g : rHp} : ∀ (ρ : Nat → Int) (γ : Nat → rHp), jn77 a g 3 (zAg (zNA a77_ 3) ρ) (γ 1) → zO 24 S a g q77a3_45 ρ γ → zGl (fun i vs g1 => jn77 a g i vs g1) (sn77 a g) q77a3_45 ρ γ := by
  intro ρ γ hJ h
  obtain ⟨ha, hg, hr, hf, hm, hc, hl⟩ := h
  have ha : a = [ρ 0, ρ 1, ρ 2, ρ 3, ρ 4, ρ 5, ρ 6, ρ 7, ρ 8, ρ 9, ρ 10, ρ 11, ρ 12, ρ 13, ρ 14, ρ 15, ρ 16, ρ 17, ρ 18, ρ 19, ρ 20, ρ 21, ρ 22, ρ 23] := ha
  subst ha
  subst hg
  have hJ : jn77 [ρ 0, ρ 1, ρ 2, ρ 3, ρ 4, ρ 5, ρ 6, ρ 7, ρ 8, ρ 9, ρ 10, ρ 11, ρ 12, ρ 13, ρ 14, ρ 15, ρ 16, ρ 17, ρ 18, ρ 19, ρ 20, ρ 21, ρ 22, ρ 23] (γ 0) 3 [ρ 0, ρ 1, ρ 2, ρ 3, ρ 4, ρ 5, ρ 6, ρ 7, ρ 8, ρ 9, ρ 10, ρ 11, ρ 12, ρ 13, ρ 14, ρ 15, ρ 16, ρ 17, ρ 18, ρ 19, ρ 20, ρ 21, ρ 22, ρ 23, ρ 24, ρ 25, ρ 26, ρ 27, ρ 28, ρ 29, ρ 30, ρ 31, ρ 32, ρ 33, ρ 34, ρ 35, ρ 36, ρ 37, ρ 38, ρ 39, ρ 40, ρ 41, ρ 42, ρ 43, ρ 44, ρ 45, ρ 46, ρ 47, ρ 48] (γ 1) := hJ
  obtain ⟨-, -, -, -, -, -, -, -, -, -, -, -, -, -, -, -, -, -, -, -, -, -, -, -, -, -, -, -, -, -, -, -, -, -, -, -, -, -, -, -, -, -, -, -, -, -, -, -, -, -, r50, -, -, r53, -⟩ := hr
  have r50 : (0 : Int) ≤ ρ 50 ∧ ρ 50 ≤ 0 := r50
  have r53 : (1 : Int) ≤ ρ 53 ∧ ρ 53 ≤ 4 := r53
  obtain ⟨f0, f1, -⟩ := hf
  have f0 : (0 : Int) ≤ -ρ 52 + ρ 25 + (-1) := f0
  have f1 : (0 : Int) ≤ ρ 49 + (8 * ρ 26 + -ρ 24) + (-1) := f1
  obtain ⟨w_0, w_1, w_2, w_3, w_4⟩ : (¬ (ρ 24 ≥ ρ 49 + 8 * ρ 26)) ∧ (ρ 50 ≤ 1) ∧ (¬ (ρ 50 = 1)) ∧ (¬ (ρ 53 ≤ 0)) ∧ (ρ 52 + 1 ≤ ρ 25) := ⟨by omega, by omega, by omega, by omega, by omega⟩
  obtain ⟨-, -, -, -, -, -, -, -, -, -, -, -, -, -, -, -, -, -, -, -, -, -, -, -, m24, m25, m26, m27, m28, m29, m30, m31, m32, m33, m34, m35, m36, m37, m38, m39, m40, m41, m42, m43, -, m45, m46, m47, m48, m49, -⟩ := hm
  have m24 : γ 1 92 0 0 = ρ 28 := m24
  have m25 : γ 1 92 0 1 = ρ 29 := m25
  have m26 : γ 1 92 0 2 = ρ 30 := m26
  have m27 : γ 1 92 0 3 = ρ 31 := m27
  have m28 : γ 1 92 0 4 = ρ 32 := m28
  have m29 : γ 1 92 0 5 = ρ 33 := m29
  have m30 : γ 1 92 0 6 = ρ 34 := m30
  have m31 : γ 1 92 0 7 = ρ 35 := m31
  have m32 : γ 1 92 0 8 = ρ 36 := m32
  have m33 : γ 1 92 0 9 = ρ 37 := m33
  have m34 : γ 1 92 0 10 = ρ 38 := m34
  have m35 : γ 1 92 0 11 = ρ 39 := m35
  have m36 : γ 1 92 0 12 = ρ 40 := m36
  have m37 : γ 1 92 0 13 = ρ 41 := m37
  have m38 : γ 1 92 0 14 = ρ 42 := m38
  have m39 : γ 1 92 0 15 = ρ 43 := m39
  have m40 : γ 1 92 0 16 = ρ 44 := m40
  have m41 : γ 1 92 0 17 = ρ 45 := m41
  have m42 : γ 1 92 0 18 = ρ 46 := m42
  have m43 : γ 1 92 0 19 = ρ 47 := m43
  have m45 : γ 0 73 0 (ρ 26) = ρ 49 := m45
  have m46 : γ 0 77 0 (ρ 24) = ρ 50 := m46
  have m47 : γ 0 78 0 (ρ 24) = ρ 51 := m47
  have m48 : γ 1 92 0 (ρ 51) = ρ 52 := m48
  have m49 : γ 0 71 0 (ρ 26) = ρ 53 := m49
  show jn77 [ρ 0, ρ 1, ρ 2, ρ 3, ρ 4, ρ 5, ρ 6, ρ 7, ρ 8, ρ 9, ρ 10, ρ 11, ρ 12, ρ 13, ρ 14, ρ 15, ρ 16, ρ 17, ρ 18, ρ 19, ρ 20, ρ 21, ρ 22, ρ 23] (γ 0) 3 [ρ 0, ρ 1, ρ 2, ρ 3, ρ 4, ρ 5, ρ 6, ρ 7, ρ 8, ρ 9, ρ 10, ρ 11, ρ 12, ρ 13, ρ 14, ρ 15, ρ 16, ρ 17, ρ 18, ρ 19, ρ 20, ρ 21, ρ 22, ρ 23, ρ 24 + 1, ρ 25, ρ 26, ρ 27, ρ 28, ρ 29, ρ 30, ρ 31, ρ 32, ρ 33, ρ 34, ρ 35, ρ 36, ρ 37, ρ 38, ρ 39, ρ 40, ρ 41, ρ 42, ρ 43, ρ 44, ρ 45, ρ 46, ρ 47, ρ 48] (γ 1)
  have hD : en77 (γ 0) (3, [ρ 24, ρ 25, ρ 26, ρ 27], γ 1) = .inl (3, [ρ 24 + 1, ρ 25, ρ 26, ρ 27], γ 1) := by
    unfold en77
    refine (if_neg (show ¬ (3 : Nat) = 0 by decide)).trans ?_
    refine (if_neg (show ¬ (3 : Nat) = 1 by decide)).trans ?_
    refine (if_neg (show ¬ (3 : Nat) = 2 by decide)).trans ?_
    refine (if_pos (show (3 : Nat) = 3 by decide)).trans ?_
    refine (zLet_eq (show _ = γ 1 from rfl)).trans ?_
    refine (zLet_eq (show _ = ρ 24 from rfl)).trans ?_
    refine (zLet_eq (show _ = ρ 25 from rfl)).trans ?_
    refine (zLet_eq (show _ = ρ 26 from rfl)).trans ?_
    refine (zLet_eq (show _ = ρ 27 from rfl)).trans ?_
    refine (zLet_eq m24).trans ?_
    refine (zLet_eq m25).trans ?_
    refine (zLet_eq m26).trans ?_
    refine (zLet_eq m27).trans ?_
    refine (zLet_eq m28).trans ?_
    refine (zLet_eq m29).trans ?_
    refine (zLet_eq m30).trans ?_
    refine (zLet_eq m31).trans ?_
    refine (zLet_eq m32).trans ?_
    refine (zLet_eq m33).trans ?_
    refine (zLet_eq m34).trans ?_
    refine (zLet_eq m35).trans ?_
    refine (zLet_eq m36).trans ?_
    refine (zLet_eq m37).trans ?_
    refine (zLet_eq m38).trans ?_
    refine (zLet_eq m39).trans ?_
    refine (zLet_eq m40).trans ?_
    refine (zLet_eq m41).trans ?_
    refine (zLet_eq m42).trans ?_
    refine (zLet_eq m43).trans ?_
    refine (zLet_eq m45).trans ?_
    refine (if_neg w_0).trans ?_
    refine (zLet_eq m46).trans ?_
    refine (if_pos w_1).trans ?_
    refine (zLet_eq m47).trans ?_
    refine (zLet_eq m48).trans ?_
    refine (if_neg w_2).trans ?_
    refine (zLet_eq m49).trans ?_
    refine (if_neg w_3).trans ?_
    refine (if_pos w_4).trans ?_
    rfl
  exact zGoo_ato hJ hD
theorem vn77a3_46 {S : Nat → zSpc}  {a : List Int} {g : rHp} : ∀ (ρ : Nat → Int) (γ : Nat → rHp), jn77 a g 3 (zAg (zNA a77_ 3) ρ) (γ 1) → zO 24 S a g q77a3_46 ρ γ → zGl (fun i vs g1 => jn77 a g i vs g1) (sn77 a g) q77a3_46 ρ γ := by
  intro ρ γ hJ h
  obtain ⟨ha, hg, hr, hf, hm, hc, hl⟩ := h
  have ha : a = [ρ 0, ρ 1, ρ 2, ρ 3, ρ 4, ρ 5, ρ 6, ρ 7, ρ 8, ρ 9, ρ 10, ρ 11, ρ 12, ρ 13, ρ 14, ρ 15, ρ 16, ρ 17, ρ 18, ρ 19, ρ 20, ρ 21, ρ 22, ρ 23] := ha
  subst ha
  subst hg
  have hJ : jn77 [ρ 0, ρ 1, ρ 2, ρ 3, ρ 4, ρ 5, ρ 6, ρ 7, ρ 8, ρ 9, ρ 10, ρ 11, ρ 12, ρ 13, ρ 14, ρ 15, ρ 16, ρ 17, ρ 18, ρ 19, ρ 20, ρ 21, ρ 22, ρ 23] (γ 0) 3 [ρ 0, ρ 1, ρ 2, ρ 3, ρ 4, ρ 5, ρ 6, ρ 7, ρ 8, ρ 9, ρ 10, ρ 11, ρ 12, ρ 13, ρ 14, ρ 15, ρ 16, ρ 17, ρ 18, ρ 19, ρ 20, ρ 21, ρ 22, ρ 23, ρ 24, ρ 25, ρ 26, ρ 27, ρ 28, ρ 29, ρ 30, ρ 31, ρ 32, ρ 33, ρ 34, ρ 35, ρ 36, ρ 37, ρ 38, ρ 39, ρ 40, ρ 41, ρ 42, ρ 43, ρ 44, ρ 45, ρ 46, ρ 47, ρ 48] (γ 1) := hJ
  obtain ⟨-, -, -, -, -, -, -, -, -, -, -, -, -, -, -, -, -, -, -, -, -, -, -, -, -, -, -, -, -, -, -, -, -, -, -, -, -, -, -, -, -, -, -, -, -, -, -, -, -, -, r50, -, -, r53, -⟩ := hr
  have r50 : (0 : Int) ≤ ρ 50 ∧ ρ 50 ≤ 0 := r50
  have r53 : (1 : Int) ≤ ρ 53 ∧ ρ 53 ≤ 4 := r53
  obtain ⟨f0, f1, -⟩ := hf
  have f0 : (0 : Int) ≤ ρ 52 + -ρ 25 := f0
  have f1 : (0 : Int) ≤ ρ 49 + (8 * ρ 26 + -ρ 24) + (-1) := f1
  obtain ⟨w_0, w_1, w_2, w_3, w_4⟩ : (¬ (ρ 24 ≥ ρ 49 + 8 * ρ 26)) ∧ (ρ 50 ≤ 1) ∧ (¬ (ρ 50 = 1)) ∧ (¬ (ρ 53 ≤ 0)) ∧ (¬ (ρ 52 + 1 ≤ ρ 25)) := ⟨by omega, by omega, by omega, by omega, by omega⟩
  obtain ⟨-, -, -, -, -, -, -, -, -, -, -, -, -, -, -, -, -, -, -, -, -, -, -, -, m24, m25, m26, m27, m28, m29, m30, m31, m32, m33, m34, m35, m36, m37, m38, m39, m40, m41, m42, m43, -, m45, m46, m47, m48, m49, -⟩ := hm
  have m24 : γ 1 92 0 0 = ρ 28 := m24
  have m25 : γ 1 92 0 1 = ρ 29 := m25
  have m26 : γ 1 92 0 2 = ρ 30 := m26
  have m27 : γ 1 92 0 3 = ρ 31 := m27
  have m28 : γ 1 92 0 4 = ρ 32 := m28
  have m29 : γ 1 92 0 5 = ρ 33 := m29
  have m30 : γ 1 92 0 6 = ρ 34 := m30
  have m31 : γ 1 92 0 7 = ρ 35 := m31
  have m32 : γ 1 92 0 8 = ρ 36 := m32
  have m33 : γ 1 92 0 9 = ρ 37 := m33
  have m34 : γ 1 92 0 10 = ρ 38 := m34
  have m35 : γ 1 92 0 11 = ρ 39 := m35
  have m36 : γ 1 92 0 12 = ρ 40 := m36
  have m37 : γ 1 92 0 13 = ρ 41 := m37
  have m38 : γ 1 92 0 14 = ρ 42 := m38
  have m39 : γ 1 92 0 15 = ρ 43 := m39
  have m40 : γ 1 92 0 16 = ρ 44 := m40
  have m41 : γ 1 92 0 17 = ρ 45 := m41
  have m42 : γ 1 92 0 18 = ρ 46 := m42
  have m43 : γ 1 92 0 19 = ρ 47 := m43
  have m45 : γ 0 73 0 (ρ 26) = ρ 49 := m45
  have m46 : γ 0 77 0 (ρ 24) = ρ 50 := m46
  have m47 : γ 0 78 0 (ρ 24) = ρ 51 := m47
  have m48 : γ 1 92 0 (ρ 51) = ρ 52 := m48
  have m49 : γ 0 71 0 (ρ 26) = ρ 53 := m49
  show jn77 [ρ 0, ρ 1, ρ 2, ρ 3, ρ 4, ρ 5, ρ 6, ρ 7, ρ 8, ρ 9, ρ 10, ρ 11, ρ 12, ρ 13, ρ 14, ρ 15, ρ 16, ρ 17, ρ 18, ρ 19, ρ 20, ρ 21, ρ 22, ρ 23] (γ 0) 3 [ρ 0, ρ 1, ρ 2, ρ 3, ρ 4, ρ 5, ρ 6, ρ 7, ρ 8, ρ 9, ρ 10, ρ 11, ρ 12, ρ 13, ρ 14, ρ 15, ρ 16, ρ 17, ρ 18, ρ 19, ρ 20, ρ 21, ρ 22, ρ 23, ρ 24 + 1, ρ 52 + 1, ρ 26, ρ 27, ρ 28, ρ 29, ρ 30, ρ 31, ρ 32, ρ 33, ρ 34, ρ 35, ρ 36, ρ 37, ρ 38, ρ 39, ρ 40, ρ 41, ρ 42, ρ 43, ρ 44, ρ 45, ρ 46, ρ 47, ρ 48] (γ 1)
  have hD : en77 (γ 0) (3, [ρ 24, ρ 25, ρ 26, ρ 27], γ 1) = .inl (3, [ρ 24 + 1, ρ 52 + 1, ρ 26, ρ 27], γ 1) := by
    unfold en77
    refine (if_neg (show ¬ (3 : Nat) = 0 by decide)).trans ?_
    refine (if_neg (show ¬ (3 : Nat) = 1 by decide)).trans ?_
    refine (if_neg (show ¬ (3 : Nat) = 2 by decide)).trans ?_
    refine (if_pos (show (3 : Nat) = 3 by decide)).trans ?_
    refine (zLet_eq (show _ = γ 1 from rfl)).trans ?_
    refine (zLet_eq (show _ = ρ 24 from rfl)).trans ?_
    refine (zLet_eq (show _ = ρ 25 from rfl)).trans ?_
    refine (zLet_eq (show _ = ρ 26 from rfl)).trans ?_
    refine (zLet_eq (show _ = ρ 27 from rfl)).trans ?_
    refine (zLet_eq m24).trans ?_
    refine (zLet_eq m25).trans ?_
    refine (zLet_eq m26).trans ?_
    refine (zLet_eq m27).trans ?_
    refine (zLet_eq m28).trans ?_
    refine (zLet_eq m29).trans ?_
    refine (zLet_eq m30).trans ?_
    refine (zLet_eq m31).trans ?_
    refine (zLet_eq m32).trans ?_
    refine (zLet_eq m33).trans ?_
    refine (zLet_eq m34).trans ?_
    refine (zLet_eq m35).trans ?_
    refine (zLet_eq m36).trans ?_
    refine (zLet_eq m37).trans ?_
    refine (zLet_eq m38).trans ?_
    refine (zLet_eq m39).trans ?_
    refine (zLet_eq m40).trans ?_
    refine (zLet_eq m41).trans ?_
    refine (zLet_eq m42).trans ?_
    refine (zLet_eq m43).trans ?_
    refine (zLet_eq m45).trans ?_
    refine (if_neg w_0).trans ?_
    refine (zLet_eq m46).trans ?_
    refine (if_pos w_1).trans ?_
    refine (zLet_eq m47).trans ?_
    refine (zLet_eq m48).trans ?_
    refine (if_neg w_2).trans ?_
    refine (zLet_eq m49).trans ?_
    refine (if_neg w_3).trans ?_
    refine (if_neg w_4).trans ?_
    rfl
  exact zGoo_ato hJ hD
theorem vn77a3_47 {S : Nat → zSpc}  {a : List Int} {g : rHp} : ∀ (ρ : Nat → Int) (γ : Nat → rHp), jn77 a g 3 (zAg (zNA a77_ 3) ρ) (γ 1) → zO 24 S a g q77a3_47 ρ γ → zGl (fun i vs g1 => jn77 a g i vs g1) (sn77 a g) q77a3_47 ρ γ := by
  intro ρ γ hJ h
  obtain ⟨ha, hg, hr, hf, hm, hc, hl⟩ := h
  have ha : a = [ρ 0, ρ 1, ρ 2, ρ 3, ρ 4, ρ 5, ρ 6, ρ 7, ρ 8, ρ 9, ρ 10, ρ 11, ρ 12, ρ 13, ρ 14, ρ 15, ρ 16, ρ 17, ρ 18, ρ 19, ρ 20, ρ 21, ρ 22, ρ 23] := ha
  subst ha
  subst hg
  have hJ : jn77 [ρ 0, ρ 1, ρ 2, ρ 3, ρ 4, ρ 5, ρ 6, ρ 7, ρ 8, ρ 9, ρ 10, ρ 11, ρ 12, ρ 13, ρ 14, ρ 15, ρ 16, ρ 17, ρ 18, ρ 19, ρ 20, ρ 21, ρ 22, ρ 23] (γ 0) 3 [ρ 0, ρ 1, ρ 2, ρ 3, ρ 4, ρ 5, ρ 6, ρ 7, ρ 8, ρ 9, ρ 10, ρ 11, ρ 12, ρ 13, ρ 14, ρ 15, ρ 16, ρ 17, ρ 18, ρ 19, ρ 20, ρ 21, ρ 22, ρ 23, ρ 24, ρ 25, ρ 26, ρ 27, ρ 28, ρ 29, ρ 30, ρ 31, ρ 32, ρ 33, ρ 34, ρ 35, ρ 36, ρ 37, ρ 38, ρ 39, ρ 40, ρ 41, ρ 42, ρ 43, ρ 44, ρ 45, ρ 46, ρ 47, ρ 48] (γ 1) := hJ
  obtain ⟨-, -, -, -, -, -, -, -, -, -, -, -, -, -, -, -, -, -, -, -, -, -, -, -, -, -, -, -, -, -, -, -, -, -, -, -, -, -, -, -, -, -, -, -, -, -, -, -, -, -, r50, -⟩ := hr
  have r50 : (2 : Int) ≤ ρ 50 ∧ ρ 50 ≤ 7 := r50
  obtain ⟨f0, -⟩ := hf
  have f0 : (0 : Int) ≤ ρ 49 + (8 * ρ 26 + -ρ 24) + (-1) := f0
  obtain ⟨w_0, w_1⟩ : (¬ (ρ 24 ≥ ρ 49 + 8 * ρ 26)) ∧ (¬ (ρ 50 ≤ 1)) := ⟨by omega, by omega⟩
  obtain ⟨-, -, -, -, -, -, -, -, -, -, -, -, -, -, -, -, -, -, -, -, -, -, -, -, m24, m25, m26, m27, m28, m29, m30, m31, m32, m33, m34, m35, m36, m37, m38, m39, m40, m41, m42, m43, -, m45, m46, -⟩ := hm
  have m24 : γ 1 92 0 0 = ρ 28 := m24
  have m25 : γ 1 92 0 1 = ρ 29 := m25
  have m26 : γ 1 92 0 2 = ρ 30 := m26
  have m27 : γ 1 92 0 3 = ρ 31 := m27
  have m28 : γ 1 92 0 4 = ρ 32 := m28
  have m29 : γ 1 92 0 5 = ρ 33 := m29
  have m30 : γ 1 92 0 6 = ρ 34 := m30
  have m31 : γ 1 92 0 7 = ρ 35 := m31
  have m32 : γ 1 92 0 8 = ρ 36 := m32
  have m33 : γ 1 92 0 9 = ρ 37 := m33
  have m34 : γ 1 92 0 10 = ρ 38 := m34
  have m35 : γ 1 92 0 11 = ρ 39 := m35
  have m36 : γ 1 92 0 12 = ρ 40 := m36
  have m37 : γ 1 92 0 13 = ρ 41 := m37
  have m38 : γ 1 92 0 14 = ρ 42 := m38
  have m39 : γ 1 92 0 15 = ρ 43 := m39
  have m40 : γ 1 92 0 16 = ρ 44 := m40
  have m41 : γ 1 92 0 17 = ρ 45 := m41
  have m42 : γ 1 92 0 18 = ρ 46 := m42
  have m43 : γ 1 92 0 19 = ρ 47 := m43
  have m45 : γ 0 73 0 (ρ 26) = ρ 49 := m45
  have m46 : γ 0 77 0 (ρ 24) = ρ 50 := m46
  show jn77 [ρ 0, ρ 1, ρ 2, ρ 3, ρ 4, ρ 5, ρ 6, ρ 7, ρ 8, ρ 9, ρ 10, ρ 11, ρ 12, ρ 13, ρ 14, ρ 15, ρ 16, ρ 17, ρ 18, ρ 19, ρ 20, ρ 21, ρ 22, ρ 23] (γ 0) 3 [ρ 0, ρ 1, ρ 2, ρ 3, ρ 4, ρ 5, ρ 6, ρ 7, ρ 8, ρ 9, ρ 10, ρ 11, ρ 12, ρ 13, ρ 14, ρ 15, ρ 16, ρ 17, ρ 18, ρ 19, ρ 20, ρ 21, ρ 22, ρ 23, ρ 24 + 1, ρ 25, ρ 26, ρ 27, ρ 28, ρ 29, ρ 30, ρ 31, ρ 32, ρ 33, ρ 34, ρ 35, ρ 36, ρ 37, ρ 38, ρ 39, ρ 40, ρ 41, ρ 42, ρ 43, ρ 44, ρ 45, ρ 46, ρ 47, ρ 48] (γ 1)
  have hD : en77 (γ 0) (3, [ρ 24, ρ 25, ρ 26, ρ 27], γ 1) = .inl (3, [ρ 24 + 1, ρ 25, ρ 26, ρ 27], γ 1) := by
    unfold en77
    refine (if_neg (show ¬ (3 : Nat) = 0 by decide)).trans ?_
    refine (if_neg (show ¬ (3 : Nat) = 1 by decide)).trans ?_
    refine (if_neg (show ¬ (3 : Nat) = 2 by decide)).trans ?_
    refine (if_pos (show (3 : Nat) = 3 by decide)).trans ?_
    refine (zLet_eq (show _ = γ 1 from rfl)).trans ?_
    refine (zLet_eq (show _ = ρ 24 from rfl)).trans ?_
    refine (zLet_eq (show _ = ρ 25 from rfl)).trans ?_
    refine (zLet_eq (show _ = ρ 26 from rfl)).trans ?_
    refine (zLet_eq (show _ = ρ 27 from rfl)).trans ?_
    refine (zLet_eq m24).trans ?_
    refine (zLet_eq m25).trans ?_
    refine (zLet_eq m26).trans ?_
    refine (zLet_eq m27).trans ?_
    refine (zLet_eq m28).trans ?_
    refine (zLet_eq m29).trans ?_
    refine (zLet_eq m30).trans ?_
    refine (zLet_eq m31).trans ?_
    refine (zLet_eq m32).trans ?_
    refine (zLet_eq m33).trans ?_
    refine (zLet_eq m34).trans ?_
    refine (zLet_eq m35).trans ?_
    refine (zLet_eq m36).trans ?_
    refine (zLet_eq m37).trans ?_
    refine (zLet_eq m38).trans ?_
    refine (zLet_eq m39).trans ?_
    refine (zLet_eq m40).trans ?_
    refine (zLet_eq m41).trans ?_
    refine (zLet_eq m42).trans ?_
    refine (zLet_eq m43).trans ?_
    refine (zLet_eq m45).trans ?_
    refine (if_neg w_0).trans ?_
    refine (zLet_eq m46).trans ?_
    refine (if_neg w_1).trans ?_
    rfl
  exact zGoo_ato hJ hD
theorem vn77a4_0 {S : Nat → zSpc}  {a : List Int} {g : rHp} : ∀ (ρ : Nat → Int) (γ : Nat → rHp), jn77 a g 4 (zAg (zNA a77_ 4) ρ) (γ 1) → zO 24 S a g q77a4_0 ρ γ → zGl (fun i vs g1 => jn77 a g i vs g1) (sn77 a g) q77a4_0 ρ γ := by
  intro ρ γ hJ h
  obtain ⟨ha, hg, hr, hf, hm, hc, hl⟩ := h
  have ha : a = [ρ 0, ρ 1, ρ 2, ρ 3, ρ 4, ρ 5, ρ 6, ρ 7, ρ 8, ρ 9, ρ 10, ρ 11, ρ 12, ρ 13, ρ 14, ρ 15, ρ 16, ρ 17, ρ 18, ρ 19, ρ 20, ρ 21, ρ 22, ρ 23] := ha
  subst ha
  subst hg
  have hJ : jn77 [ρ 0, ρ 1, ρ 2, ρ 3, ρ 4, ρ 5, ρ 6, ρ 7, ρ 8, ρ 9, ρ 10, ρ 11, ρ 12, ρ 13, ρ 14, ρ 15, ρ 16, ρ 17, ρ 18, ρ 19, ρ 20, ρ 21, ρ 22, ρ 23] (γ 0) 4 [ρ 0, ρ 1, ρ 2, ρ 3, ρ 4, ρ 5, ρ 6, ρ 7, ρ 8, ρ 9, ρ 10, ρ 11, ρ 12, ρ 13, ρ 14, ρ 15, ρ 16, ρ 17, ρ 18, ρ 19, ρ 20, ρ 21, ρ 22, ρ 23, ρ 24, ρ 25, ρ 26, ρ 27, ρ 28, ρ 29, ρ 30, ρ 31, ρ 32, ρ 33, ρ 34, ρ 35, ρ 36, ρ 37, ρ 38, ρ 39, ρ 40, ρ 41, ρ 42, ρ 43, ρ 44, ρ 45, ρ 46, ρ 47] (γ 1) := hJ
  obtain ⟨f0, -⟩ := hf
  have f0 : (0 : Int) ≤ ρ 24 + -ρ 1 := f0
  have w_0 : ρ 24 ≥ ρ 1 := by omega
  obtain ⟨-, m1, -, -, -, -, -, -, -, -, -, -, -, -, -, -, -, -, -, -, -, -, -, -, m24, -⟩ := hm
  have m1 : γ 0 15 0 13 = ρ 1 := m1
  have m24 : γ 1 15 0 61 = ρ 26 := m24
  show sn77 [ρ 0, ρ 1, ρ 2, ρ 3, ρ 4, ρ 5, ρ 6, ρ 7, ρ 8, ρ 9, ρ 10, ρ 11, ρ 12, ρ 13, ρ 14, ρ 15, ρ 16, ρ 17, ρ 18, ρ 19, ρ 20, ρ 21, ρ 22, ρ 23] (γ 0) 0 1 (γ 1)
  have hD : en77 (γ 0) (4, [ρ 24, ρ 25], γ 1) = .inr (0, 1, γ 1) := by
    unfold en77
    refine (if_neg (show ¬ (4 : Nat) = 0 by decide)).trans ?_
    refine (if_neg (show ¬ (4 : Nat) = 1 by decide)).trans ?_
    refine (if_neg (show ¬ (4 : Nat) = 2 by decide)).trans ?_
    refine (if_neg (show ¬ (4 : Nat) = 3 by decide)).trans ?_
    refine (if_pos (show (4 : Nat) = 4 by decide)).trans ?_
    refine (zLet_eq (show _ = γ 1 from rfl)).trans ?_
    refine (zLet_eq (show _ = ρ 24 from rfl)).trans ?_
    refine (zLet_eq (show _ = ρ 25 from rfl)).trans ?_
    refine (zLet_eq m1).trans ?_
    refine (zLet_eq m24).trans ?_
    refine (if_pos w_0).trans ?_
    rfl
  exact zGoo_aend hJ hD
theorem vn77a4_1 {S : Nat → zSpc}  {a : List Int} {g : rHp} : ∀ (ρ : Nat → Int) (γ : Nat → rHp), jn77 a g 4 (zAg (zNA a77_ 4) ρ) (γ 1) → zO 24 S a g q77a4_1 ρ γ → zGl (fun i vs g1 => jn77 a g i vs g1) (sn77 a g) q77a4_1 ρ γ := by
  intro ρ γ hJ h
  obtain ⟨ha, hg, hr, hf, hm, hc, hl⟩ := h
  have ha : a = [ρ 0, ρ 1, ρ 2, ρ 3, ρ 4, ρ 5, ρ 6, ρ 7, ρ 8, ρ 9, ρ 10, ρ 11, ρ 12, ρ 13, ρ 14, ρ 15, ρ 16, ρ 17, ρ 18, ρ 19, ρ 20, ρ 21, ρ 22, ρ 23] := ha
  subst ha
  subst hg
  have hJ : jn77 [ρ 0, ρ 1, ρ 2, ρ 3, ρ 4, ρ 5, ρ 6, ρ 7, ρ 8, ρ 9, ρ 10, ρ 11, ρ 12, ρ 13, ρ 14, ρ 15, ρ 16, ρ 17, ρ 18, ρ 19, ρ 20, ρ 21, ρ 22, ρ 23] (γ 0) 4 [ρ 0, ρ 1, ρ 2, ρ 3, ρ 4, ρ 5, ρ 6, ρ 7, ρ 8, ρ 9, ρ 10, ρ 11, ρ 12, ρ 13, ρ 14, ρ 15, ρ 16, ρ 17, ρ 18, ρ 19, ρ 20, ρ 21, ρ 22, ρ 23, ρ 24, ρ 25, ρ 26, ρ 27, ρ 28, ρ 29, ρ 30, ρ 31, ρ 32, ρ 33, ρ 34, ρ 35, ρ 36, ρ 37, ρ 38, ρ 39, ρ 40, ρ 41, ρ 42, ρ 43, ρ 44, ρ 45, ρ 46, ρ 47] (γ 1) := hJ
  obtain ⟨f0, f1, -⟩ := hf
  have f0 : (0 : Int) ≤ -ρ 48 + ρ 26 + (-1) := f0
  have f1 : (0 : Int) ≤ -ρ 24 + ρ 1 + (-1) := f1
  obtain ⟨w_0, w_1⟩ : (¬ (ρ 24 ≥ ρ 1)) ∧ (ρ 48 < ρ 26) := ⟨by omega, by omega⟩
  obtain ⟨-, m1, -, -, -, -, -, -, -, -, -, -, -, -, -, -, -, -, -, -, -, -, -, -, m24, -, -, -, -, -, -, -, -, -, -, -, -, -, -, -, -, -, -, -, -, -, m46, -⟩ := hm
  have m1 : γ 0 15 0 13 = ρ 1 := m1
  have m24 : γ 1 15 0 61 = ρ 26 := m24
  have m46 : γ 1 92 0 (ρ 24) = ρ 48 := m46
  show jn77 [ρ 0, ρ 1, ρ 2, ρ 3, ρ 4, ρ 5, ρ 6, ρ 7, ρ 8, ρ 9, ρ 10, ρ 11, ρ 12, ρ 13, ρ 14, ρ 15, ρ 16, ρ 17, ρ 18, ρ 19, ρ 20, ρ 21, ρ 22, ρ 23] (γ 0) 4 [ρ 0, ρ 1, ρ 2, ρ 3, ρ 4, ρ 5, ρ 6, ρ 7, ρ 8, ρ 9, ρ 10, ρ 11, ρ 12, ρ 13, ρ 14, ρ 15, ρ 16, ρ 17, ρ 18, ρ 19, ρ 20, ρ 21, ρ 22, ρ 23, ρ 24 + 1, ρ 25, ρ 26, ρ 27, ρ 28, ρ 29, ρ 30, ρ 31, ρ 32, ρ 33, ρ 34, ρ 35, ρ 36, ρ 37, ρ 38, ρ 39, ρ 40, ρ 41, ρ 42, ρ 43, ρ 44, ρ 45, ρ 46, ρ 47] (γ 1)
  have hD : en77 (γ 0) (4, [ρ 24, ρ 25], γ 1) = .inl (4, [ρ 24 + 1, ρ 25], γ 1) := by
    unfold en77
    refine (if_neg (show ¬ (4 : Nat) = 0 by decide)).trans ?_
    refine (if_neg (show ¬ (4 : Nat) = 1 by decide)).trans ?_
    refine (if_neg (show ¬ (4 : Nat) = 2 by decide)).trans ?_
    refine (if_neg (show ¬ (4 : Nat) = 3 by decide)).trans ?_
    refine (if_pos (show (4 : Nat) = 4 by decide)).trans ?_
    refine (zLet_eq (show _ = γ 1 from rfl)).trans ?_
    refine (zLet_eq (show _ = ρ 24 from rfl)).trans ?_
    refine (zLet_eq (show _ = ρ 25 from rfl)).trans ?_
    refine (zLet_eq m1).trans ?_
    refine (zLet_eq m24).trans ?_
    refine (if_neg w_0).trans ?_
    refine (zLet_eq m46).trans ?_
    refine (if_pos w_1).trans ?_
    rfl
  exact zGoo_ato hJ hD
theorem vn77a4_2 {S : Nat → zSpc}  {a : List Int} {g : rHp} : ∀ (ρ : Nat → Int) (γ : Nat → rHp), jn77 a g 4 (zAg (zNA a77_ 4) ρ) (γ 1) → zO 24 S a g q77a4_2 ρ γ → zGl (fun i vs g1 => jn77 a g i vs g1) (sn77 a g) q77a4_2 ρ γ := by
  intro ρ γ hJ h
  obtain ⟨ha, hg, hr, hf, hm, hc, hl⟩ := h
  have ha : a = [ρ 0, ρ 1, ρ 2, ρ 3, ρ 4, ρ 5, ρ 6, ρ 7, ρ 8, ρ 9, ρ 10, ρ 11, ρ 12, ρ 13, ρ 14, ρ 15, ρ 16, ρ 17, ρ 18, ρ 19, ρ 20, ρ 21, ρ 22, ρ 23] := ha
  subst ha
  subst hg
  have hJ : jn77 [ρ 0, ρ 1, ρ 2, ρ 3, ρ 4, ρ 5, ρ 6, ρ 7, ρ 8, ρ 9, ρ 10, ρ 11, ρ 12, ρ 13, ρ 14, ρ 15, ρ 16, ρ 17, ρ 18, ρ 19, ρ 20, ρ 21, ρ 22, ρ 23] (γ 0) 4 [ρ 0, ρ 1, ρ 2, ρ 3, ρ 4, ρ 5, ρ 6, ρ 7, ρ 8, ρ 9, ρ 10, ρ 11, ρ 12, ρ 13, ρ 14, ρ 15, ρ 16, ρ 17, ρ 18, ρ 19, ρ 20, ρ 21, ρ 22, ρ 23, ρ 24, ρ 25, ρ 26, ρ 27, ρ 28, ρ 29, ρ 30, ρ 31, ρ 32, ρ 33, ρ 34, ρ 35, ρ 36, ρ 37, ρ 38, ρ 39, ρ 40, ρ 41, ρ 42, ρ 43, ρ 44, ρ 45, ρ 46, ρ 47] (γ 1) := hJ
  obtain ⟨f0, f1, -⟩ := hf
  have f0 : (0 : Int) ≤ ρ 48 + -ρ 26 := f0
  have f1 : (0 : Int) ≤ -ρ 24 + ρ 1 + (-1) := f1
  obtain ⟨w_0, w_1⟩ : (¬ (ρ 24 ≥ ρ 1)) ∧ (¬ (ρ 48 < ρ 26)) := ⟨by omega, by omega⟩
  obtain ⟨-, m1, -, -, -, -, -, -, -, -, -, -, -, -, -, -, -, -, -, -, -, -, -, -, m24, -, -, -, -, -, -, -, -, -, -, -, -, -, -, -, -, -, -, -, -, -, m46, -⟩ := hm
  have m1 : γ 0 15 0 13 = ρ 1 := m1
  have m24 : γ 1 15 0 61 = ρ 26 := m24
  have m46 : γ 1 92 0 (ρ 24) = ρ 48 := m46
  obtain ⟨-, c2⟩ := hc
  have c2 : γ 2 = rUp (γ 1) 15 0 61 (ρ 48 + 1) := c2
  show jn77 [ρ 0, ρ 1, ρ 2, ρ 3, ρ 4, ρ 5, ρ 6, ρ 7, ρ 8, ρ 9, ρ 10, ρ 11, ρ 12, ρ 13, ρ 14, ρ 15, ρ 16, ρ 17, ρ 18, ρ 19, ρ 20, ρ 21, ρ 22, ρ 23] (γ 0) 4 [ρ 0, ρ 1, ρ 2, ρ 3, ρ 4, ρ 5, ρ 6, ρ 7, ρ 8, ρ 9, ρ 10, ρ 11, ρ 12, ρ 13, ρ 14, ρ 15, ρ 16, ρ 17, ρ 18, ρ 19, ρ 20, ρ 21, ρ 22, ρ 23, ρ 24 + 1, ρ 25, ρ 48 + 1, ρ 27, ρ 28, ρ 29, ρ 30, ρ 31, ρ 32, ρ 33, ρ 34, ρ 35, ρ 36, ρ 37, ρ 38, ρ 39, ρ 40, ρ 41, ρ 42, ρ 43, ρ 44, ρ 45, ρ 46, ρ 47] (γ 2)
  have hD : en77 (γ 0) (4, [ρ 24, ρ 25], γ 1) = .inl (4, [ρ 24 + 1, ρ 25], γ 2) := by
    unfold en77
    refine (if_neg (show ¬ (4 : Nat) = 0 by decide)).trans ?_
    refine (if_neg (show ¬ (4 : Nat) = 1 by decide)).trans ?_
    refine (if_neg (show ¬ (4 : Nat) = 2 by decide)).trans ?_
    refine (if_neg (show ¬ (4 : Nat) = 3 by decide)).trans ?_
    refine (if_pos (show (4 : Nat) = 4 by decide)).trans ?_
    refine (zLet_eq (show _ = γ 1 from rfl)).trans ?_
    refine (zLet_eq (show _ = ρ 24 from rfl)).trans ?_
    refine (zLet_eq (show _ = ρ 25 from rfl)).trans ?_
    refine (zLet_eq m1).trans ?_
    refine (zLet_eq m24).trans ?_
    refine (if_neg w_0).trans ?_
    refine (zLet_eq m46).trans ?_
    refine (if_neg w_1).trans ?_
    refine (zLet_eq c2.symm).trans ?_
    rfl
  exact zGoo_ato hJ hD
theorem yn77 {S : Nat → zSpc}  : ∀ x g o v gz, zSem uW uT w77_.2.2.2.1 w77_.2.2.1.1.length S q77 (fun i => q77a.getD i []) (zNA a77_) x g o v gz → sn77 x g o v gz := by
  intro a g o v gz h
  exact zSem_all (l0 := q77) (las := q77a) (S := S) (J := (fun i vs g1 => jn77 a g i vs g1)) (P := sn77 a g) (fun _ => (show zAll _ [q77_0] from (zAll_c (vn77_0 ) zAll_n))) (fun _ => (show zAllI _ 0 [q77a0, q77a1, q77a2, q77a3, q77a4] from ⟨(show zAll _ [q77a0_0, q77a0_1] from (zAll_c (vn77a0_0 ) (zAll_c (vn77a0_1 ) zAll_n))), ⟨(show zAll _ [q77a1_0, q77a1_1] from (zAll_c (vn77a1_0 ) (zAll_c (vn77a1_1 ) zAll_n))), ⟨(show zAll _ [q77a2_0, q77a2_1] from (zAll_c (vn77a2_0 ) (zAll_c (vn77a2_1 ) zAll_n))), ⟨(show zAll _ [q77a3_0, q77a3_1, q77a3_2, q77a3_3, q77a3_4, q77a3_5, q77a3_6, q77a3_7, q77a3_8, q77a3_9, q77a3_10, q77a3_11, q77a3_12, q77a3_13, q77a3_14, q77a3_15, q77a3_16, q77a3_17, q77a3_18, q77a3_19, q77a3_20, q77a3_21, q77a3_22, q77a3_23, q77a3_24, q77a3_25, q77a3_26, q77a3_27, q77a3_28, q77a3_29, q77a3_30, q77a3_31, q77a3_32, q77a3_33, q77a3_34, q77a3_35, q77a3_36, q77a3_37, q77a3_38, q77a3_39, q77a3_40, q77a3_41, q77a3_42, q77a3_43, q77a3_44, q77a3_45, q77a3_46, q77a3_47] from (zAll_c (vn77a3_0 ) (zAll_c (vn77a3_1 ) (zAll_c (vn77a3_2 ) (zAll_c (vn77a3_3 ) (zAll_c (vn77a3_4 ) (zAll_c (vn77a3_5 ) (zAll_c (vn77a3_6 ) (zAll_c (vn77a3_7 ) (zAll_c (vn77a3_8 ) (zAll_c (vn77a3_9 ) (zAll_c (vn77a3_10 ) (zAll_c (vn77a3_11 ) (zAll_c (vn77a3_12 ) (zAll_c (vn77a3_13 ) (zAll_c (vn77a3_14 ) (zAll_c (vn77a3_15 ) (zAll_c (vn77a3_16 ) (zAll_c (vn77a3_17 ) (zAll_c (vn77a3_18 ) (zAll_c (vn77a3_19 ) (zAll_c (vn77a3_20 ) (zAll_c (vn77a3_21 ) (zAll_c (vn77a3_22 ) (zAll_c (vn77a3_23 ) (zAll_c (vn77a3_24 ) (zAll_c (vn77a3_25 ) (zAll_c (vn77a3_26 ) (zAll_c (vn77a3_27 ) (zAll_c (vn77a3_28 ) (zAll_c (vn77a3_29 ) (zAll_c (vn77a3_30 ) (zAll_c (vn77a3_31 ) (zAll_c (vn77a3_32 ) (zAll_c (vn77a3_33 ) (zAll_c (vn77a3_34 ) (zAll_c (vn77a3_35 ) (zAll_c (vn77a3_36 ) (zAll_c (vn77a3_37 ) (zAll_c (vn77a3_38 ) (zAll_c (vn77a3_39 ) (zAll_c (vn77a3_40 ) (zAll_c (vn77a3_41 ) (zAll_c (vn77a3_42 ) (zAll_c (vn77a3_43 ) (zAll_c (vn77a3_44 ) (zAll_c (vn77a3_45 ) (zAll_c (vn77a3_46 ) (zAll_c (vn77a3_47 ) zAll_n))))))))))))))))))))))))))))))))))))))))))))))))), ⟨(show zAll _ [q77a4_0, q77a4_1, q77a4_2] from (zAll_c (vn77a4_0 ) (zAll_c (vn77a4_1 ) (zAll_c (vn77a4_2 ) zAll_n)))), trivial⟩⟩⟩⟩⟩)) h
