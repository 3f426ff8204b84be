/-! ===== the runs are the functions ===== -/
theorem vn41_0 {S : Nat → zSpc} (hS6 : ∀ x g o v gz, S 6 x g o v gz → sn6 x g o v gz) (hS7 : ∀ x g o v gz, S 7 x g o v gz → sn7 x g o v gz) (hS8 : ∀ x g o v gz, S 8 x g o v gz → sn8 x g o v gz) (hS20 : ∀ x g o v gz, S 20 x g o v gz → sn20 x g o v gz) (hS21 : ∀ x g o v gz, S 21 x g o v gz → sn21 x g o v gz) (hS24 : ∀ x g o v gz, S 24 x g o v gz → sn24 x g o v gz) (hS25 : ∀ x g o v gz, S 25 x g o v gz → sn25 x g o v gz) (hS33 : ∀ x g o v gz, S 33 x g o v gz → sn33 x g o v gz) (hS39 : ∀ x g o v gz, S 39 x g o v gz → sn39 x g o v gz) {a : List Int} {g : rHp} : ∀ (ρ : Nat → Int) (γ : Nat → rHp), zO 19 S a g q41_0 ρ γ → zGl (fun i vs g1 => jn41 a g i vs g1) (sn41 a g) q41_0 ρ γ := by
  intro ρ γ h
  obtain ⟨ha, hg, hr, hf, hm, hc, hl⟩ := h
  have ha : a = [ρ 0, ρ 1, ρ 2, ρ 3, ρ 4, ρ 5, ρ 6, ρ 7, ρ 8, ρ 9, ρ 10, ρ 11, ρ 12, ρ 13, ρ 14, ρ 15, ρ 16, ρ 17, ρ 18] := ha
  subst ha
  subst hg
  obtain ⟨m0, -⟩ := hm
  have m0 : γ 0 15 0 35 = ρ 1 := m0
  obtain ⟨-, c2⟩ := hc
  have c2 : γ 2 = rUp (γ 1) 15 0 35 (ρ 1 + 1) := c2
  obtain ⟨l0, -⟩ := hl
  have l0 : sn33 [ρ 11, ρ 12] (γ 0) 0 (ρ 12 + 8 * ρ 11) (γ 1) := hS33 _ _ _ _ _ l0
  show jn41 [ρ 0, ρ 1, ρ 2, ρ 3, ρ 4, ρ 5, ρ 6, ρ 7, ρ 8, ρ 9, ρ 10, ρ 11, ρ 12, ρ 13, ρ 14, ρ 15, ρ 16, ρ 17, ρ 18] (γ 0) 0 [ρ 0, ρ 1, ρ 2, ρ 3, ρ 4, ρ 5, ρ 6, ρ 7, ρ 8, ρ 9, ρ 10, ρ 11, ρ 12, ρ 13, ρ 14, ρ 15, ρ 16, ρ 17, ρ 18, 1, 0, 0, ρ 1 + 1, ρ 3, ρ 4, ρ 5, ρ 6, ρ 7, ρ 17, ρ 14] (γ 2)
  have hD : dn41 [ρ 0] (γ 0) = .inl (0, [ρ 0, 1, 0, 0], γ 2) := by
    unfold dn41
    refine (zLet_eq (show _ = ρ 0 from rfl)).trans ?_
    refine (zLet_eq m0).trans ?_
    refine (zLet_eq (show fn33 [] (γ 0) = (0, ρ 12 + 8 * ρ 11, γ 1) from l0.symm)).trans ?_
    refine (zLet_eq (show _ = γ 1 from rfl)).trans ?_
    refine (zLet_eq c2.symm).trans ?_
    rfl
  exact zGoo_to hD
theorem vn41a0_0 {S : Nat → zSpc} (hS6 : ∀ x g o v gz, S 6 x g o v gz → sn6 x g o v gz) (hS7 : ∀ x g o v gz, S 7 x g o v gz → sn7 x g o v gz) (hS8 : ∀ x g o v gz, S 8 x g o v gz → sn8 x g o v gz) (hS20 : ∀ x g o v gz, S 20 x g o v gz → sn20 x g o v gz) (hS21 : ∀ x g o v gz, S 21 x g o v gz → sn21 x g o v gz) (hS24 : ∀ x g o v gz, S 24 x g o v gz → sn24 x g o v gz) (hS25 : ∀ x g o v gz, S 25 x g o v gz → sn25 x g o v gz) (hS33 : ∀ x g o v gz, S 33 x g o v gz → sn33 x g o v gz) (hS39 : ∀ x g o v gz, S 39 x g o v gz → sn39 x g o v gz) {a : List Int} {g : rHp} : ∀ (ρ : Nat → Int) (γ : Nat → rHp), jn41 a g 0 (zAg (zNA a41_ 0) ρ) (γ 1) → zO 19 S a g q41a0_0 ρ γ → zGl (fun i vs g1 => jn41 a g i vs g1) (sn41 a g) q41a0_0 ρ γ := by
  intro ρ γ hJ h
  obtain ⟨ha, hg, hr, hf, hm, hc, hl⟩ := h
  have ha : a = [ρ 0, ρ 1, ρ 2, ρ 3, ρ 4, ρ 5, ρ 6, ρ 7, ρ 8, ρ 9, ρ 10, ρ 11, ρ 12, ρ 13, ρ 14, ρ 15, ρ 16, ρ 17, ρ 18] := ha
  subst ha
  subst hg
  have hJ : jn41 [ρ 0, ρ 1, ρ 2, ρ 3, ρ 4, ρ 5, ρ 6, ρ 7, ρ 8, ρ 9, ρ 10, ρ 11, ρ 12, ρ 13, ρ 14, ρ 15, ρ 16, ρ 17, ρ 18] (γ 0) 0 [ρ 0, ρ 1, ρ 2, ρ 3, ρ 4, ρ 5, ρ 6, ρ 7, ρ 8, ρ 9, ρ 10, ρ 11, ρ 12, ρ 13, ρ 14, ρ 15, ρ 16, ρ 17, ρ 18, ρ 19, ρ 20, ρ 21, ρ 22, ρ 23, ρ 24, ρ 25, ρ 26, ρ 27, ρ 28, ρ 29] (γ 1) := hJ
  obtain ⟨-, -, -, -, -, -, -, -, -, -, -, -, -, -, -, -, -, -, -, r19, -⟩ := hr
  have r19 : (0 : Int) ≤ ρ 19 ∧ ρ 19 ≤ 0 := r19
  have w_0 : ρ 19 = 0 := by omega
  obtain ⟨-, m1, -, -, -, m5, m6, m7, -, -, m10, m11, -, -, -, -, -, m17, -⟩ := hm
  have m1 : γ 0 15 0 34 = ρ 2 := m1
  have m5 : γ 0 15 0 37 = ρ 6 := m5
  have m6 : γ 0 15 0 38 = ρ 7 := m6
  have m7 : γ 0 15 0 14 = ρ 8 := m7
  have m10 : γ 0 15 0 44 = ρ 11 := m10
  have m11 : γ 0 73 0 (ρ 11) = ρ 12 := m11
  have m17 : γ 0 15 0 45 = ρ 18 := m17
  obtain ⟨l0, -⟩ := hl
  have l0 : sn24 [41, ρ 22, ρ 2, ρ 16] (γ 1) 0 0 (γ 2) := hS24 _ _ _ _ _ l0
  show sn41 [ρ 0, ρ 1, ρ 2, ρ 3, ρ 4, ρ 5, ρ 6, ρ 7, ρ 8, ρ 9, ρ 10, ρ 11, ρ 12, ρ 13, ρ 14, ρ 15, ρ 16, ρ 17, ρ 18] (γ 0) 0 0 (γ 2)
  have hD : en41 (γ 0) (0, [ρ 0, ρ 19, ρ 20, ρ 21], γ 1) = .inr (0, 0, γ 2) := by
    unfold en41
    refine (if_pos (show (0 : Nat) = 0 by decide)).trans ?_
    refine (zLet_eq (show _ = γ 1 from rfl)).trans ?_
    refine (zLet_eq (show _ = ρ 0 from rfl)).trans ?_
    refine (zLet_eq (show _ = ρ 19 from rfl)).trans ?_
    refine (zLet_eq (show _ = ρ 20 from rfl)).trans ?_
    refine (zLet_eq (show _ = ρ 21 from rfl)).trans ?_
    refine (zLet_eq m1).trans ?_
    refine (zLet_eq m5).trans ?_
    refine (zLet_eq m6).trans ?_
    refine (zLet_eq m7).trans ?_
    refine (zLet_eq m10).trans ?_
    refine (zLet_eq m11).trans ?_
    refine (zLet_eq m17).trans ?_
    refine (if_pos w_0).trans ?_
    refine (zLet_eq (show fn24 [41] (γ 1) = (0, 0, γ 2) from l0.symm)).trans ?_
    refine (zLet_eq (show _ = γ 2 from rfl)).trans ?_
    refine (if_neg zQ0_).trans ?_
    rfl
  exact zGoo_aend hJ hD
theorem vn41a0_1 {S : Nat → zSpc} (hS6 : ∀ x g o v gz, S 6 x g o v gz → sn6 x g o v gz) (hS7 : ∀ x g o v gz, S 7 x g o v gz → sn7 x g o v gz) (hS8 : ∀ x g o v gz, S 8 x g o v gz → sn8 x g o v gz) (hS20 : ∀ x g o v gz, S 20 x g o v gz → sn20 x g o v gz) (hS21 : ∀ x g o v gz, S 21 x g o v gz → sn21 x g o v gz) (hS24 : ∀ x g o v gz, S 24 x g o v gz → sn24 x g o v gz) (hS25 : ∀ x g o v gz, S 25 x g o v gz → sn25 x g o v gz) (hS33 : ∀ x g o v gz, S 33 x g o v gz → sn33 x g o v gz) (hS39 : ∀ x g o v gz, S 39 x g o v gz → sn39 x g o v gz) {a : List Int} {g : rHp} : ∀ (ρ : Nat → Int) (γ : Nat → rHp), jn41 a g 0 (zAg (zNA a41_ 0) ρ) (γ 1) → zO 19 S a g q41a0_1 ρ γ → zGl (fun i vs g1 => jn41 a g i vs g1) (sn41 a g) q41a0_1 ρ γ := by
  intro ρ γ hJ h
  obtain ⟨ha, hg, hr, hf, hm, hc, hl⟩ := h
  have ha : a = [ρ 0, ρ 1, ρ 2, ρ 3, ρ 4, ρ 5, ρ 6, ρ 7, ρ 8, ρ 9, ρ 10, ρ 11, ρ 12, ρ 13, ρ 14, ρ 15, ρ 16, ρ 17, ρ 18] := ha
  subst ha
  subst hg
  have hJ : jn41 [ρ 0, ρ 1, ρ 2, ρ 3, ρ 4, ρ 5, ρ 6, ρ 7, ρ 8, ρ 9, ρ 10, ρ 11, ρ 12, ρ 13, ρ 14, ρ 15, ρ 16, ρ 17, ρ 18] (γ 0) 0 [ρ 0, ρ 1, ρ 2, ρ 3, ρ 4, ρ 5, ρ 6, ρ 7, ρ 8, ρ 9, ρ 10, ρ 11, ρ 12, ρ 13, ρ 14, ρ 15, ρ 16, ρ 17, ρ 18, ρ 19, ρ 20, ρ 21, ρ 22, ρ 23, ρ 24, ρ 25, ρ 26, ρ 27, ρ 28, ρ 29] (γ 1) := hJ
  obtain ⟨r0, -, -, -, -, -, -, -, -, -, -, -, -, -, -, -, -, -, -, r19, -, -, -, -, -, -, -, -, -, -, -, r31, -⟩ := hr
  have r0 : (0 : Int) ≤ ρ 0 ∧ ρ 0 ≤ 0 := r0
  have r19 : (0 : Int) ≤ ρ 19 ∧ ρ 19 ≤ 0 := r19
  have r31 : (0 : Int) ≤ ρ 31 ∧ ρ 31 ≤ 19 := r31
  obtain ⟨w_0, w_1, w_2⟩ : (ρ 19 = 0) ∧ (ρ 31 ≥ 0) ∧ (ρ 0 = 0) := ⟨by omega, by omega, by omega⟩
  obtain ⟨-, m1, -, -, -, m5, m6, m7, -, -, m10, m11, -, -, -, -, -, m17, -⟩ := hm
  have m1 : γ 0 15 0 34 = ρ 2 := m1
  have m5 : γ 0 15 0 37 = ρ 6 := m5
  have m6 : γ 0 15 0 38 = ρ 7 := m6
  have m7 : γ 0 15 0 14 = ρ 8 := m7
  have m10 : γ 0 15 0 44 = ρ 11 := m10
  have m11 : γ 0 73 0 (ρ 11) = ρ 12 := m11
  have m17 : γ 0 15 0 45 = ρ 18 := m17
  obtain ⟨⟨⟨⟨-, c4⟩, c5⟩, c6⟩, c7⟩ := hc
  have c4 : γ 4 = rUp (γ 3) 77 0 (ρ 12 + 8 * ρ 11) 0 := c4
  have c5 : γ 5 = rUp (γ 4) 78 0 (ρ 12 + 8 * ρ 11) (ρ 31) := c5
  have c6 : γ 6 = rUp (γ 5) 79 0 (ρ 12 + 8 * ρ 11) (ρ 18) := c6
  have c7 : γ 7 = rUp (γ 6) 15 0 45 (ρ 32) := c7
  obtain ⟨l0, l1, l2, -⟩ := hl
  have l0 : sn24 [41, ρ 22, ρ 2, ρ 16] (γ 1) 0 1 (γ 2) := hS24 _ _ _ _ _ l0
  have l1 : sn21 [ρ 6, ρ 7, ρ 21, ρ 8] (γ 2) 0 (ρ 31) (γ 3) := hS21 _ _ _ _ _ l1
  have l2 : zOpP (.ior) (γ 0) (γ 1) [ρ 18, ρ 20] (ρ 32) := l2
  show sn41 [ρ 0, ρ 1, ρ 2, ρ 3, ρ 4, ρ 5, ρ 6, ρ 7, ρ 8, ρ 9, ρ 10, ρ 11, ρ 12, ρ 13, ρ 14, ρ 15, ρ 16, ρ 17, ρ 18] (γ 0) 0 1 (γ 7)
  have hD : en41 (γ 0) (0, [ρ 0, ρ 19, ρ 20, ρ 21], γ 1) = .inr (0, 1, γ 7) := by
    unfold en41
    refine (if_pos (show (0 : Nat) = 0 by decide)).trans ?_
    refine (zLet_eq (show _ = γ 1 from rfl)).trans ?_
    refine (zLet_eq (show _ = ρ 0 from rfl)).trans ?_
    refine (zLet_eq (show _ = ρ 19 from rfl)).trans ?_
    refine (zLet_eq (show _ = ρ 20 from rfl)).trans ?_
    refine (zLet_eq (show _ = ρ 21 from rfl)).trans ?_
    refine (zLet_eq m1).trans ?_
    refine (zLet_eq m5).trans ?_
    refine (zLet_eq m6).trans ?_
    refine (zLet_eq m7).trans ?_
    refine (zLet_eq m10).trans ?_
    refine (zLet_eq m11).trans ?_
    refine (zLet_eq m17).trans ?_
    refine (if_pos w_0).trans ?_
    refine (zLet_eq (show fn24 [41] (γ 1) = (0, 1, γ 2) from l0.symm)).trans ?_
    refine (zLet_eq (show _ = γ 2 from rfl)).trans ?_
    refine (if_pos zQ1_).trans ?_
    refine (zLet_eq (show fn21 [ρ 6, ρ 7, ρ 21] (γ 2) = (0, ρ 31, γ 3) from l1.symm)).trans ?_
    refine (zLet_eq (show _ = γ 3 from rfl)).trans ?_
    refine (zLet_eq (show _ = ρ 31 from rfl)).trans ?_
    refine (if_pos w_1).trans ?_
    refine (if_pos w_2).trans ?_
    refine (zLet_eq c4.symm).trans ?_
    refine (zLet_eq c5.symm).trans ?_
    refine (zLet_eq c6.symm).trans ?_
    refine (zLet_eq (zF2_ok l2)).trans ?_
    refine (zLet_eq c7.symm).trans ?_
    rfl
  exact zGoo_aend hJ hD
theorem vn41a0_2 {S : Nat → zSpc} (hS6 : ∀ x g o v gz, S 6 x g o v gz → sn6 x g o v gz) (hS7 : ∀ x g o v gz, S 7 x g o v gz → sn7 x g o v gz) (hS8 : ∀ x g o v gz, S 8 x g o v gz → sn8 x g o v gz) (hS20 : ∀ x g o v gz, S 20 x g o v gz → sn20 x g o v gz) (hS21 : ∀ x g o v gz, S 21 x g o v gz → sn21 x g o v gz) (hS24 : ∀ x g o v gz, S 24 x g o v gz → sn24 x g o v gz) (hS25 : ∀ x g o v gz, S 25 x g o v gz → sn25 x g o v gz) (hS33 : ∀ x g o v gz, S 33 x g o v gz → sn33 x g o v gz) (hS39 : ∀ x g o v gz, S 39 x g o v gz → sn39 x g o v gz) {a : List Int} {g : rHp} : ∀ (ρ : Nat → Int) (γ : Nat → rHp), jn41 a g 0 (zAg (zNA a41_ 0) ρ) (γ 1) → zO 19 S a g q41a0_2 ρ γ → zGl (fun i vs g1 => jn41 a g i vs g1) (sn41 a g) q41a0_2 ρ γ := by
  intro ρ γ hJ h
  obtain ⟨ha, hg, hr, hf, hm, hc, hl⟩ := h
  have ha : a = [ρ 0, ρ 1, ρ 2, ρ 3, ρ 4, ρ 5, ρ 6, ρ 7, ρ 8, ρ 9, ρ 10, ρ 11, ρ 12, ρ 13, ρ 14, ρ 15, ρ 16, ρ 17, ρ 18] := ha
  subst ha
  subst hg
  have hJ : jn41 [ρ 0, ρ 1, ρ 2, ρ 3, ρ 4, ρ 5, ρ 6, ρ 7, ρ 8, ρ 9, ρ 10, ρ 11, ρ 12, ρ 13, ρ 14, ρ 15, ρ 16, ρ 17, ρ 18] (γ 0) 0 [ρ 0, ρ 1, ρ 2, ρ 3, ρ 4, ρ 5, ρ 6, ρ 7, ρ 8, ρ 9, ρ 10, ρ 11, ρ 12, ρ 13, ρ 14, ρ 15, ρ 16, ρ 17, ρ 18, ρ 19, ρ 20, ρ 21, ρ 22, ρ 23, ρ 24, ρ 25, ρ 26, ρ 27, ρ 28, ρ 29] (γ 1) := hJ
  obtain ⟨r0, -, -, -, -, -, -, -, -, -, -, -, -, -, -, -, -, -, -, r19, -, -, -, -, -, -, -, -, -, -, -, r31, -⟩ := hr
  have r0 : (1 : Int) ≤ ρ 0 ∧ ρ 0 ≤ 1 := r0
  have r19 : (0 : Int) ≤ ρ 19 ∧ ρ 19 ≤ 0 := r19
  have r31 : (0 : Int) ≤ ρ 31 ∧ ρ 31 ≤ 19 := r31
  obtain ⟨w_0, w_1, w_2⟩ : (ρ 19 = 0) ∧ (ρ 31 ≥ 0) ∧ (¬ (ρ 0 = 0)) := ⟨by omega, by omega, by omega⟩
  obtain ⟨-, m1, -, -, -, m5, m6, m7, -, -, m10, m11, -, -, -, -, -, m17, -⟩ := hm
  have m1 : γ 0 15 0 34 = ρ 2 := m1
  have m5 : γ 0 15 0 37 = ρ 6 := m5
  have m6 : γ 0 15 0 38 = ρ 7 := m6
  have m7 : γ 0 15 0 14 = ρ 8 := m7
  have m10 : γ 0 15 0 44 = ρ 11 := m10
  have m11 : γ 0 73 0 (ρ 11) = ρ 12 := m11
  have m17 : γ 0 15 0 45 = ρ 18 := m17
  obtain ⟨⟨⟨-, c4⟩, c5⟩, c6⟩ := hc
  have c4 : γ 4 = rUp (γ 3) 77 0 (ρ 12 + 8 * ρ 11) 1 := c4
  have c5 : γ 5 = rUp (γ 4) 78 0 (ρ 12 + 8 * ρ 11) (ρ 31) := c5
  have c6 : γ 6 = rUp (γ 5) 79 0 (ρ 12 + 8 * ρ 11) (ρ 18) := c6
  obtain ⟨l0, l1, -⟩ := hl
  have l0 : sn24 [41, ρ 22, ρ 2, ρ 16] (γ 1) 0 1 (γ 2) := hS24 _ _ _ _ _ l0
  have l1 : sn21 [ρ 6, ρ 7, ρ 21, ρ 8] (γ 2) 0 (ρ 31) (γ 3) := hS21 _ _ _ _ _ l1
  show sn41 [ρ 0, ρ 1, ρ 2, ρ 3, ρ 4, ρ 5, ρ 6, ρ 7, ρ 8, ρ 9, ρ 10, ρ 11, ρ 12, ρ 13, ρ 14, ρ 15, ρ 16, ρ 17, ρ 18] (γ 0) 0 1 (γ 6)
  have hD : en41 (γ 0) (0, [ρ 0, ρ 19, ρ 20, ρ 21], γ 1) = .inr (0, 1, γ 6) := by
    unfold en41
    refine (if_pos (show (0 : Nat) = 0 by decide)).trans ?_
    refine (zLet_eq (show _ = γ 1 from rfl)).trans ?_
    refine (zLet_eq (show _ = ρ 0 from rfl)).trans ?_
    refine (zLet_eq (show _ = ρ 19 from rfl)).trans ?_
    refine (zLet_eq (show _ = ρ 20 from rfl)).trans ?_
    refine (zLet_eq (show _ = ρ 21 from rfl)).trans ?_
    refine (zLet_eq m1).trans ?_
    refine (zLet_eq m5).trans ?_
    refine (zLet_eq m6).trans ?_
    refine (zLet_eq m7).trans ?_
    refine (zLet_eq m10).trans ?_
    refine (zLet_eq m11).trans ?_
    refine (zLet_eq m17).trans ?_
    refine (if_pos w_0).trans ?_
    refine (zLet_eq (show fn24 [41] (γ 1) = (0, 1, γ 2) from l0.symm)).trans ?_
    refine (zLet_eq (show _ = γ 2 from rfl)).trans ?_
    refine (if_pos zQ1_).trans ?_
    refine (zLet_eq (show fn21 [ρ 6, ρ 7, ρ 21] (γ 2) = (0, ρ 31, γ 3) from l1.symm)).trans ?_
    refine (zLet_eq (show _ = γ 3 from rfl)).trans ?_
    refine (zLet_eq (show _ = ρ 31 from rfl)).trans ?_
    refine (if_pos w_1).trans ?_
    refine (if_neg w_2).trans ?_
    refine (zLet_eq c4.symm).trans ?_
    refine (zLet_eq c5.symm).trans ?_
    refine (zLet_eq c6.symm).trans ?_
    rfl
  exact zGoo_aend hJ hD
theorem vn41a0_3 {S : Nat → zSpc} (hS6 : ∀ x g o v gz, S 6 x g o v gz → sn6 x g o v gz) (hS7 : ∀ x g o v gz, S 7 x g o v gz → sn7 x g o v gz) (hS8 : ∀ x g o v gz, S 8 x g o v gz → sn8 x g o v gz) (hS20 : ∀ x g o v gz, S 20 x g o v gz → sn20 x g o v gz) (hS21 : ∀ x g o v gz, S 21 x g o v gz → sn21 x g o v gz) (hS24 : ∀ x g o v gz, S 24 x g o v gz → sn24 x g o v gz) (hS25 : ∀ x g o v gz, S 25 x g o v gz → sn25 x g o v gz) (hS33 : ∀ x g o v gz, S 33 x g o v gz → sn33 x g o v gz) (hS39 : ∀ x g o v gz, S 39 x g o v gz → sn39 x g o v gz) {a : List Int} {g : rHp} : ∀ (ρ : Nat → Int) (γ : Nat → rHp), jn41 a g 0 (zAg (zNA a41_ 0) ρ) (γ 1) → zO 19 S a g q41a0_3 ρ γ → zGl (fun i vs g1 => jn41 a g i vs g1) (sn41 a g) q41a0_3 ρ γ := by
  intro ρ γ hJ h
  obtain ⟨ha, hg, hr, hf, hm, hc, hl⟩ := h
  have ha : a = [ρ 0, ρ 1, ρ 2, ρ 3, ρ 4, ρ 5, ρ 6, ρ 7, ρ 8, ρ 9, ρ 10, ρ 11, ρ 12, ρ 13, ρ 14, ρ 15, ρ 16, ρ 17, ρ 18] := ha
  subst ha
  subst hg
  have hJ : jn41 [ρ 0, ρ 1, ρ 2, ρ 3, ρ 4, ρ 5, ρ 6, ρ 7, ρ 8, ρ 9, ρ 10, ρ 11, ρ 12, ρ 13, ρ 14, ρ 15, ρ 16, ρ 17, ρ 18] (γ 0) 0 [ρ 0, ρ 1, ρ 2, ρ 3, ρ 4, ρ 5, ρ 6, ρ 7, ρ 8, ρ 9, ρ 10, ρ 11, ρ 12, ρ 13, ρ 14, ρ 15, ρ 16, ρ 17, ρ 18, ρ 19, ρ 20, ρ 21, ρ 22, ρ 23, ρ 24, ρ 25, ρ 26, ρ 27, ρ 28, ρ 29] (γ 1) := hJ
  obtain ⟨r0, -, -, -, -, -, -, -, r8, -, -, -, -, -, -, -, -, -, -, r19, -, -, -, -, -, -, -, -, -, -, -, r31, -⟩ := hr
  have r0 : (0 : Int) ≤ ρ 0 ∧ ρ 0 ≤ 0 := r0
  have r8 : (0 : Int) ≤ ρ 8 ∧ ρ 8 ≤ 19 := r8
  have r19 : (0 : Int) ≤ ρ 19 ∧ ρ 19 ≤ 0 := r19
  have r31 : ((-1) : Int) ≤ ρ 31 ∧ ρ 31 ≤ (-1) := r31
  obtain ⟨w_0, w_1, w_2, w_3⟩ : (ρ 19 = 0) ∧ (¬ (ρ 31 ≥ 0)) ∧ (ρ 8 ≠ 20) ∧ (ρ 0 = 0) := ⟨by omega, by omega, by omega, by omega⟩
  obtain ⟨-, m1, -, -, -, m5, m6, m7, -, -, m10, m11, -, -, -, -, -, m17, -⟩ := hm
  have m1 : γ 0 15 0 34 = ρ 2 := m1
  have m5 : γ 0 15 0 37 = ρ 6 := m5
  have m6 : γ 0 15 0 38 = ρ 7 := m6
  have m7 : γ 0 15 0 14 = ρ 8 := m7
  have m10 : γ 0 15 0 44 = ρ 11 := m10
  have m11 : γ 0 73 0 (ρ 11) = ρ 12 := m11
  have m17 : γ 0 15 0 45 = ρ 18 := m17
  obtain ⟨⟨⟨⟨-, c5⟩, c6⟩, c7⟩, c8⟩ := hc
  have c5 : γ 5 = rUp (γ 4) 77 0 (ρ 12 + 8 * ρ 11) 0 := c5
  have c6 : γ 6 = rUp (γ 5) 78 0 (ρ 12 + 8 * ρ 11) (ρ 8) := c6
  have c7 : γ 7 = rUp (γ 6) 79 0 (ρ 12 + 8 * ρ 11) (ρ 18) := c7
  have c8 : γ 8 = rUp (γ 7) 15 0 45 (ρ 32) := c8
  obtain ⟨l0, l1, l2, l3, -⟩ := hl
  have l0 : sn24 [41, ρ 22, ρ 2, ρ 16] (γ 1) 0 1 (γ 2) := hS24 _ _ _ _ _ l0
  have l1 : sn21 [ρ 6, ρ 7, ρ 21, ρ 8] (γ 2) 0 (ρ 31) (γ 3) := hS21 _ _ _ _ _ l1
  have l2 : sn39 [ρ 6, ρ 7, ρ 21, ρ 8] (γ 3) 0 (ρ 8) (γ 4) := hS39 _ _ _ _ _ l2
  have l3 : zOpP (.ior) (γ 0) (γ 1) [ρ 18, ρ 20] (ρ 32) := l3
  show sn41 [ρ 0, ρ 1, ρ 2, ρ 3, ρ 4, ρ 5, ρ 6, ρ 7, ρ 8, ρ 9, ρ 10, ρ 11, ρ 12, ρ 13, ρ 14, ρ 15, ρ 16, ρ 17, ρ 18] (γ 0) 0 1 (γ 8)
  have hD : en41 (γ 0) (0, [ρ 0, ρ 19, ρ 20, ρ 21], γ 1) = .inr (0, 1, γ 8) := by
    unfold en41
    refine (if_pos (show (0 : Nat) = 0 by decide)).trans ?_
    refine (zLet_eq (show _ = γ 1 from rfl)).trans ?_
    refine (zLet_eq (show _ = ρ 0 from rfl)).trans ?_
    refine (zLet_eq (show _ = ρ 19 from rfl)).trans ?_
    refine (zLet_eq (show _ = ρ 20 from rfl)).trans ?_
    refine (zLet_eq (show _ = ρ 21 from rfl)).trans ?_
    refine (zLet_eq m1).trans ?_
    refine (zLet_eq m5).trans ?_
    refine (zLet_eq m6).trans ?_
    refine (zLet_eq m7).trans ?_
    refine (zLet_eq m10).trans ?_
    refine (zLet_eq m11).trans ?_
    refine (zLet_eq m17).trans ?_
    refine (if_pos w_0).trans ?_
    refine (zLet_eq (show fn24 [41] (γ 1) = (0, 1, γ 2) from l0.symm)).trans ?_
    refine (zLet_eq (show _ = γ 2 from rfl)).trans ?_
    refine (if_pos zQ1_).trans ?_
    refine (zLet_eq (show fn21 [ρ 6, ρ 7, ρ 21] (γ 2) = (0, ρ 31, γ 3) from l1.symm)).trans ?_
    refine (zLet_eq (show _ = γ 3 from rfl)).trans ?_
    refine (zLet_eq (show _ = ρ 31 from rfl)).trans ?_
    refine (if_neg w_1).trans ?_
    refine (if_pos w_2).trans ?_
    refine (zLet_eq (show fn39 [ρ 6, ρ 7, ρ 21] (γ 3) = (0, ρ 8, γ 4) from l2.symm)).trans ?_
    refine (zLet_eq (show _ = γ 4 from rfl)).trans ?_
    refine (if_pos w_3).trans ?_
    refine (zLet_eq c5.symm).trans ?_
    refine (zLet_eq c6.symm).trans ?_
    refine (zLet_eq c7.symm).trans ?_
    refine (zLet_eq (zF2_ok l3)).trans ?_
    refine (zLet_eq c8.symm).trans ?_
    rfl
  exact zGoo_aend hJ hD
theorem vn41a0_4 {S : Nat → zSpc} (hS6 : ∀ x g o v gz, S 6 x g o v gz → sn6 x g o v gz) (hS7 : ∀ x g o v gz, S 7 x g o v gz → sn7 x g o v gz) (hS8 : ∀ x g o v gz, S 8 x g o v gz → sn8 x g o v gz) (hS20 : ∀ x g o v gz, S 20 x g o v gz → sn20 x g o v gz) (hS21 : ∀ x g o v gz, S 21 x g o v gz → sn21 x g o v gz) (hS24 : ∀ x g o v gz, S 24 x g o v gz → sn24 x g o v gz) (hS25 : ∀ x g o v gz, S 25 x g o v gz → sn25 x g o v gz) (hS33 : ∀ x g o v gz, S 33 x g o v gz → sn33 x g o v gz) (hS39 : ∀ x g o v gz, S 39 x g o v gz → sn39 x g o v gz) {a : List Int} {g : rHp} : ∀ (ρ : Nat → Int) (γ : Nat → rHp), jn41 a g 0 (zAg (zNA a41_ 0) ρ) (γ 1) → zO 19 S a g q41a0_4 ρ γ → zGl (fun i vs g1 => jn41 a g i vs g1) (sn41 a g) q41a0_4 ρ γ := by
  intro ρ γ hJ h
  obtain ⟨ha, hg, hr, hf, hm, hc, hl⟩ := h
  have ha : a = [ρ 0, ρ 1, ρ 2, ρ 3, ρ 4, ρ 5, ρ 6, ρ 7, ρ 8, ρ 9, ρ 10, ρ 11, ρ 12, ρ 13, ρ 14, ρ 15, ρ 16, ρ 17, ρ 18] := ha
  subst ha
  subst hg
  have hJ : jn41 [ρ 0, ρ 1, ρ 2, ρ 3, ρ 4, ρ 5, ρ 6, ρ 7, ρ 8, ρ 9, ρ 10, ρ 11, ρ 12, ρ 13, ρ 14, ρ 15, ρ 16, ρ 17, ρ 18] (γ 0) 0 [ρ 0, ρ 1, ρ 2, ρ 3, ρ 4, ρ 5, ρ 6, ρ 7, ρ 8, ρ 9, ρ 10, ρ 11, ρ 12, ρ 13, ρ 14, ρ 15, ρ 16, ρ 17, ρ 18, ρ 19, ρ 20, ρ 21, ρ 22, ρ 23, ρ 24, ρ 25, ρ 26, ρ 27, ρ 28, ρ 29] (γ 1) := hJ
  obtain ⟨r0, -, -, -, -, -, -, -, r8, -, -, -, -, -, -, -, -, -, -, r19, -, -, -, -, -, -, -, -, -, -, -, r31, -⟩ := hr
  have r0 : (1 : Int) ≤ ρ 0 ∧ ρ 0 ≤ 1 := r0
  have r8 : (0 : Int) ≤ ρ 8 ∧ ρ 8 ≤ 19 := r8
  have r19 : (0 : Int) ≤ ρ 19 ∧ ρ 19 ≤ 0 := r19
  have r31 : ((-1) : Int) ≤ ρ 31 ∧ ρ 31 ≤ (-1) := r31
  obtain ⟨w_0, w_1, w_2, w_3⟩ : (ρ 19 = 0) ∧ (¬ (ρ 31 ≥ 0)) ∧ (ρ 8 ≠ 20) ∧ (¬ (ρ 0 = 0)) := ⟨by omega, by omega, by omega, by omega⟩
  obtain ⟨-, m1, -, -, -, m5, m6, m7, -, -, m10, m11, -, -, -, -, -, m17, -⟩ := hm
  have m1 : γ 0 15 0 34 = ρ 2 := m1
  have m5 : γ 0 15 0 37 = ρ 6 := m5
  have m6 : γ 0 15 0 38 = ρ 7 := m6
  have m7 : γ 0 15 0 14 = ρ 8 := m7
  have m10 : γ 0 15 0 44 = ρ 11 := m10
  have m11 : γ 0 73 0 (ρ 11) = ρ 12 := m11
  have m17 : γ 0 15 0 45 = ρ 18 := m17
  obtain ⟨⟨⟨-, c5⟩, c6⟩, c7⟩ := hc
  have c5 : γ 5 = rUp (γ 4) 77 0 (ρ 12 + 8 * ρ 11) 1 := c5
  have c6 : γ 6 = rUp (γ 5) 78 0 (ρ 12 + 8 * ρ 11) (ρ 8) := c6
  have c7 : γ 7 = rUp (γ 6) 79 0 (ρ 12 + 8 * ρ 11) (ρ 18) := c7
  obtain ⟨l0, l1, l2, -⟩ := hl
  have l0 : sn24 [41, ρ 22, ρ 2, ρ 16] (γ 1) 0 1 (γ 2) := hS24 _ _ _ _ _ l0
  have l1 : sn21 [ρ 6, ρ 7, ρ 21, ρ 8] (γ 2) 0 (ρ 31) (γ 3) := hS21 _ _ _ _ _ l1
  have l2 : sn39 [ρ 6, ρ 7, ρ 21, ρ 8] (γ 3) 0 (ρ 8) (γ 4) := hS39 _ _ _ _ _ l2
  show sn41 [ρ 0, ρ 1, ρ 2, ρ 3, ρ 4, ρ 5, ρ 6, ρ 7, ρ 8, ρ 9, ρ 10, ρ 11, ρ 12, ρ 13, ρ 14, ρ 15, ρ 16, ρ 17, ρ 18] (γ 0) 0 1 (γ 7)
  have hD : en41 (γ 0) (0, [ρ 0, ρ 19, ρ 20, ρ 21], γ 1) = .inr (0, 1, γ 7) := by
    unfold en41
    refine (if_pos (show (0 : Nat) = 0 by decide)).trans ?_
    refine (zLet_eq (show _ = γ 1 from rfl)).trans ?_
    refine (zLet_eq (show _ = ρ 0 from rfl)).trans ?_
    refine (zLet_eq (show _ = ρ 19 from rfl)).trans ?_
    refine (zLet_eq (show _ = ρ 20 from rfl)).trans ?_
    refine (zLet_eq (show _ = ρ 21 from rfl)).trans ?_
    refine (zLet_eq m1).trans ?_
    refine (zLet_eq m5).trans ?_
    refine (zLet_eq m6).trans ?_
    refine (zLet_eq m7).trans ?_
    refine (zLet_eq m10).trans ?_
    refine (zLet_eq m11).trans ?_
    refine (zLet_eq m17).trans ?_
    refine (if_pos w_0).trans ?_
    refine (zLet_eq (show fn24 [41] (γ 1) = (0, 1, γ 2) from l0.symm)).trans ?_
    refine (zLet_eq (show _ = γ 2 from rfl)).trans ?_
    refine (if_pos zQ1_).trans ?_
    refine (zLet_eq (show fn21 [ρ 6, ρ 7, ρ 21] (γ 2) = (0, ρ 31, γ 3) from l1.symm)).trans ?_
    refine (zLet_eq (show _ = γ 3 from rfl)).trans ?_
    refine (zLet_eq (show _ = ρ 31 from rfl)).trans ?_
    refine (if_neg w_1).trans ?_
    refine (if_pos w_2).trans ?_
    refine (zLet_eq (show fn39 [ρ 6, ρ 7, ρ 21] (γ 3) = (0, ρ 8, γ 4) from l2.symm)).trans ?_
    refine (zLet_eq (show _ = γ 4 from rfl)).trans ?_
    refine (if_neg w_3).trans ?_
    refine (zLet_eq c5.symm).trans ?_
    refine (zLet_eq c6.symm).trans ?_
    refine (zLet_eq c7.symm).trans ?_
    rfl
  exact zGoo_aend hJ hD
theorem vn41a0_5 {S : Nat → zSpc} (hS6 : ∀ x g o v gz, S 6 x g o v gz → sn6 x g o v gz) (hS7 : ∀ x g o v gz, S 7 x g o v gz → sn7 x g o v gz) (hS8 : ∀ x g o v gz, S 8 x g o v gz → sn8 x g o v gz) (hS20 : ∀ x g o v gz, S 20 x g o v gz → sn20 x g o v gz) (hS21 : ∀ x g o v gz, S 21 x g o v gz → sn21 x g o v gz) (hS24 : ∀ x g o v gz, S 24 x g o v gz → sn24 x g o v gz) (hS25 : ∀ x g o v gz, S 25 x g o v gz → sn25 x g o v gz) (hS33 : ∀ x g o v gz, S 33 x g o v gz → sn33 x g o v gz) (hS39 : ∀ x g o v gz, S 39 x g o v gz → sn39 x g o v gz) {a : List Int} {g : rHp} : ∀ (ρ : Nat → Int) (γ : Nat → rHp), jn41 a g 0 (zAg (zNA a41_ 0) ρ) (γ 1) → zO 19 S a g q41a0_5 ρ γ → zGl (fun i vs g1 => jn41 a g i vs g1) (sn41 a g) q41a0_5 ρ γ := by
  intro ρ γ hJ h
  obtain ⟨ha, hg, hr, hf, hm, hc, hl⟩ := h
  have ha : a = [ρ 0, ρ 1, ρ 2, ρ 3, ρ 4, ρ 5, ρ 6, ρ 7, ρ 8, ρ 9, ρ 10, ρ 11, ρ 12, ρ 13, ρ 14, ρ 15, ρ 16, ρ 17, ρ 18] := ha
  subst ha
  subst hg
  have hJ : jn41 [ρ 0, ρ 1, ρ 2, ρ 3, ρ 4, ρ 5, ρ 6, ρ 7, ρ 8, ρ 9, ρ 10, ρ 11, ρ 12, ρ 13, ρ 14, ρ 15, ρ 16, ρ 17, ρ 18] (γ 0) 0 [ρ 0, ρ 1, ρ 2, ρ 3, ρ 4, ρ 5, ρ 6, ρ 7, ρ 8, ρ 9, ρ 10, ρ 11, ρ 12, ρ 13, ρ 14, ρ 15, ρ 16, ρ 17, ρ 18, ρ 19, ρ 20, ρ 21, ρ 22, ρ 23, ρ 24, ρ 25, ρ 26, ρ 27, ρ 28, ρ 29] (γ 1) := hJ
  obtain ⟨-, -, -, -, -, -, -, -, r8, -, -, -, -, -, -, -, -, -, -, r19, -, -, -, -, -, -, -, -, -, -, -, r31, -⟩ := hr
  have r8 : (20 : Int) ≤ ρ 8 ∧ ρ 8 ≤ 20 := r8
  have r19 : (0 : Int) ≤ ρ 19 ∧ ρ 19 ≤ 0 := r19
  have r31 : ((-1) : Int) ≤ ρ 31 ∧ ρ 31 ≤ (-1) := r31
  obtain ⟨w_0, w_1, w_2⟩ : (ρ 19 = 0) ∧ (¬ (ρ 31 ≥ 0)) ∧ (¬ (ρ 8 ≠ 20)) := ⟨by omega, by omega, by omega⟩
  obtain ⟨-, m1, -, -, -, m5, m6, m7, -, -, m10, m11, -, -, -, -, -, m17, -⟩ := hm
  have m1 : γ 0 15 0 34 = ρ 2 := m1
  have m5 : γ 0 15 0 37 = ρ 6 := m5
  have m6 : γ 0 15 0 38 = ρ 7 := m6
  have m7 : γ 0 15 0 14 = ρ 8 := m7
  have m10 : γ 0 15 0 44 = ρ 11 := m10
  have m11 : γ 0 73 0 (ρ 11) = ρ 12 := m11
  have m17 : γ 0 15 0 45 = ρ 18 := m17
  obtain ⟨l0, l1, l2, -⟩ := hl
  have l0 : sn24 [41, ρ 22, ρ 2, ρ 16] (γ 1) 0 1 (γ 2) := hS24 _ _ _ _ _ l0
  have l1 : sn21 [ρ 6, ρ 7, ρ 21, ρ 8] (γ 2) 0 (ρ 31) (γ 3) := hS21 _ _ _ _ _ l1
  have l2 : sn8 [ρ 6, ρ 2, ρ 16] (γ 3) 0 0 (γ 4) := hS8 _ _ _ _ _ l2
  show sn41 [ρ 0, ρ 1, ρ 2, ρ 3, ρ 4, ρ 5, ρ 6, ρ 7, ρ 8, ρ 9, ρ 10, ρ 11, ρ 12, ρ 13, ρ 14, ρ 15, ρ 16, ρ 17, ρ 18] (γ 0) 0 0 (γ 4)
  have hD : en41 (γ 0) (0, [ρ 0, ρ 19, ρ 20, ρ 21], γ 1) = .inr (0, 0, γ 4) := by
    unfold en41
    refine (if_pos (show (0 : Nat) = 0 by decide)).trans ?_
    refine (zLet_eq (show _ = γ 1 from rfl)).trans ?_
    refine (zLet_eq (show _ = ρ 0 from rfl)).trans ?_
    refine (zLet_eq (show _ = ρ 19 from rfl)).trans ?_
    refine (zLet_eq (show _ = ρ 20 from rfl)).trans ?_
    refine (zLet_eq (show _ = ρ 21 from rfl)).trans ?_
    refine (zLet_eq m1).trans ?_
    refine (zLet_eq m5).trans ?_
    refine (zLet_eq m6).trans ?_
    refine (zLet_eq m7).trans ?_
    refine (zLet_eq m10).trans ?_
    refine (zLet_eq m11).trans ?_
    refine (zLet_eq m17).trans ?_
    refine (if_pos w_0).trans ?_
    refine (zLet_eq (show fn24 [41] (γ 1) = (0, 1, γ 2) from l0.symm)).trans ?_
    refine (zLet_eq (show _ = γ 2 from rfl)).trans ?_
    refine (if_pos zQ1_).trans ?_
    refine (zLet_eq (show fn21 [ρ 6, ρ 7, ρ 21] (γ 2) = (0, ρ 31, γ 3) from l1.symm)).trans ?_
    refine (zLet_eq (show _ = γ 3 from rfl)).trans ?_
    refine (zLet_eq (show _ = ρ 31 from rfl)).trans ?_
    refine (if_neg w_1).trans ?_
    refine (if_neg w_2).trans ?_
    refine (zLet_eq (show fn8 [ρ 6] (γ 3) = (0, 0, γ 4) from l2.symm)).trans ?_
    refine (zLet_eq (show _ = γ 4 from rfl)).trans ?_
    rfl
  exact zGoo_aend hJ hD
theorem vn41a0_6 {S : Nat → zSpc} (hS6 : ∀ x g o v gz, S 6 x g o v gz → sn6 x g o v gz) (hS7 : ∀ x g o v gz, S 7 x g o v gz → sn7 x g o v gz) (hS8 : ∀ x g o v gz, S 8 x g o v gz → sn8 x g o v gz) (hS20 : ∀ x g o v gz, S 20 x g o v gz → sn20 x g o v gz) (hS21 : ∀ x g o v gz, S 21 x g o v gz → sn21 x g o v gz) (hS24 : ∀ x g o v gz, S 24 x g o v gz → sn24 x g o v gz) (hS25 : ∀ x g o v gz, S 25 x g o v gz → sn25 x g o v gz) (hS33 : ∀ x g o v gz, S 33 x g o v gz → sn33 x g o v gz) (hS39 : ∀ x g o v gz, S 39 x g o v gz → sn39 x g o v gz) {a : List Int} {g : rHp} : ∀ (ρ : Nat → Int) (γ : Nat → rHp), jn41 a g 0 (zAg (zNA a41_ 0) ρ) (γ 1) → zO 19 S a g q41a0_6 ρ γ → zGl (fun i vs g1 => jn41 a g i vs g1) (sn41 a g) q41a0_6 ρ γ := by
  intro ρ γ hJ h
  obtain ⟨ha, hg, hr, hf, hm, hc, hl⟩ := h
  have ha : a = [ρ 0, ρ 1, ρ 2, ρ 3, ρ 4, ρ 5, ρ 6, ρ 7, ρ 8, ρ 9, ρ 10, ρ 11, ρ 12, ρ 13, ρ 14, ρ 15, ρ 16, ρ 17, ρ 18] := ha
  subst ha
  subst hg
  have hJ : jn41 [ρ 0, ρ 1, ρ 2, ρ 3, ρ 4, ρ 5, ρ 6, ρ 7, ρ 8, ρ 9, ρ 10, ρ 11, ρ 12, ρ 13, ρ 14, ρ 15, ρ 16, ρ 17, ρ 18] (γ 0) 0 [ρ 0, ρ 1, ρ 2, ρ 3, ρ 4, ρ 5, ρ 6, ρ 7, ρ 8, ρ 9, ρ 10, ρ 11, ρ 12, ρ 13, ρ 14, ρ 15, ρ 16, ρ 17, ρ 18, ρ 19, ρ 20, ρ 21, ρ 22, ρ 23, ρ 24, ρ 25, ρ 26, ρ 27, ρ 28, ρ 29] (γ 1) := hJ
  obtain ⟨-, -, -, -, -, -, -, -, -, -, -, -, -, -, -, -, -, -, -, r19, -, r21, -⟩ := hr
  have r19 : (1 : Int) ≤ ρ 19 ∧ ρ 19 ≤ 1 := r19
  have r21 : (0 : Int) ≤ ρ 21 ∧ ρ 21 ≤ 3 := r21
  obtain ⟨w_0, w_1⟩ : (¬ (ρ 19 = 0)) ∧ (ρ 21 ≠ 4) := ⟨by omega, by omega⟩
  obtain ⟨-, m1, -, -, -, m5, m6, m7, -, -, m10, m11, -, -, -, -, -, m17, -, -, -, -, -, -, -, -, -, m27, -⟩ := hm
  have m1 : γ 0 15 0 34 = ρ 2 := m1
  have m5 : γ 0 15 0 37 = ρ 6 := m5
  have m6 : γ 0 15 0 38 = ρ 7 := m6
  have m7 : γ 0 15 0 14 = ρ 8 := m7
  have m10 : γ 0 15 0 44 = ρ 11 := m10
  have m11 : γ 0 73 0 (ρ 11) = ρ 12 := m11
  have m17 : γ 0 15 0 45 = ρ 18 := m17
  have m27 : γ 2 15 0 35 = ρ 30 := m27
  obtain ⟨l0, l1, -⟩ := hl
  have l0 : sn7 [ρ 22, ρ 2] (γ 1) 0 0 (γ 2) := hS7 _ _ _ _ _ l0
  have l1 : sn20 [1, ρ 30, ρ 2, ρ 23, ρ 24, ρ 31, ρ 28, ρ 16, ρ 26, ρ 27, ρ 11] (γ 2) 0 0 (γ 3) := hS20 _ _ _ _ _ l1
  show sn41 [ρ 0, ρ 1, ρ 2, ρ 3, ρ 4, ρ 5, ρ 6, ρ 7, ρ 8, ρ 9, ρ 10, ρ 11, ρ 12, ρ 13, ρ 14, ρ 15, ρ 16, ρ 17, ρ 18] (γ 0) 0 0 (γ 3)
  have hD : en41 (γ 0) (0, [ρ 0, ρ 19, ρ 20, ρ 21], γ 1) = .inr (0, 0, γ 3) := by
    unfold en41
    refine (if_pos (show (0 : Nat) = 0 by decide)).trans ?_
    refine (zLet_eq (show _ = γ 1 from rfl)).trans ?_
    refine (zLet_eq (show _ = ρ 0 from rfl)).trans ?_
    refine (zLet_eq (show _ = ρ 19 from rfl)).trans ?_
    refine (zLet_eq (show _ = ρ 20 from rfl)).trans ?_
    refine (zLet_eq (show _ = ρ 21 from rfl)).trans ?_
    refine (zLet_eq m1).trans ?_
    refine (zLet_eq m5).trans ?_
    refine (zLet_eq m6).trans ?_
    refine (zLet_eq m7).trans ?_
    refine (zLet_eq m10).trans ?_
    refine (zLet_eq m11).trans ?_
    refine (zLet_eq m17).trans ?_
    refine (if_neg w_0).trans ?_
    refine (zLet_eq (show fn7 [] (γ 1) = (0, 0, γ 2) from l0.symm)).trans ?_
    refine (zLet_eq (show _ = γ 2 from rfl)).trans ?_
    refine (zLet_eq m27).trans ?_
    refine (if_pos w_1).trans ?_
    refine (zLet_eq (show fn20 [1] (γ 2) = (0, 0, γ 3) from l1.symm)).trans ?_
    refine (zLet_eq (show _ = γ 3 from rfl)).trans ?_
    refine (if_neg zQ0_).trans ?_
    rfl
  exact zGoo_aend hJ hD
theorem vn41a0_7 {S : Nat → zSpc} (hS6 : ∀ x g o v gz, S 6 x g o v gz → sn6 x g o v gz) (hS7 : ∀ x g o v gz, S 7 x g o v gz → sn7 x g o v gz) (hS8 : ∀ x g o v gz, S 8 x g o v gz → sn8 x g o v gz) (hS20 : ∀ x g o v gz, S 20 x g o v gz → sn20 x g o v gz) (hS21 : ∀ x g o v gz, S 21 x g o v gz → sn21 x g o v gz) (hS24 : ∀ x g o v gz, S 24 x g o v gz → sn24 x g o v gz) (hS25 : ∀ x g o v gz, S 25 x g o v gz → sn25 x g o v gz) (hS33 : ∀ x g o v gz, S 33 x g o v gz → sn33 x g o v gz) (hS39 : ∀ x g o v gz, S 39 x g o v gz → sn39 x g o v gz) {a : List Int} {g : rHp} : ∀ (ρ : Nat → Int) (γ : Nat → rHp), jn41 a g 0 (zAg (zNA a41_ 0) ρ) (γ 1) → zO 19 S a g q41a0_7 ρ γ → zGl (fun i vs g1 => jn41 a g i vs g1) (sn41 a g) q41a0_7 ρ γ := by
  intro ρ γ hJ h
  obtain ⟨ha, hg, hr, hf, hm, hc, hl⟩ := h
  have ha : a = [ρ 0, ρ 1, ρ 2, ρ 3, ρ 4, ρ 5, ρ 6, ρ 7, ρ 8, ρ 9, ρ 10, ρ 11, ρ 12, ρ 13, ρ 14, ρ 15, ρ 16, ρ 17, ρ 18] := ha
  subst ha
  subst hg
  have hJ : jn41 [ρ 0, ρ 1, ρ 2, ρ 3, ρ 4, ρ 5, ρ 6, ρ 7, ρ 8, ρ 9, ρ 10, ρ 11, ρ 12, ρ 13, ρ 14, ρ 15, ρ 16, ρ 17, ρ 18] (γ 0) 0 [ρ 0, ρ 1, ρ 2, ρ 3, ρ 4, ρ 5, ρ 6, ρ 7, ρ 8, ρ 9, ρ 10, ρ 11, ρ 12, ρ 13, ρ 14, ρ 15, ρ 16, ρ 17, ρ 18, ρ 19, ρ 20, ρ 21, ρ 22, ρ 23, ρ 24, ρ 25, ρ 26, ρ 27, ρ 28, ρ 29] (γ 1) := hJ
  obtain ⟨-, -, -, -, -, -, -, -, -, -, -, -, -, -, -, -, -, -, -, r19, -, r21, -, -, -, -, -, -, -, -, -, -, -, -, -, -, r36, -, -, -, r40, -⟩ := hr
  have r19 : (1 : Int) ≤ ρ 19 ∧ ρ 19 ≤ 1 := r19
  have r21 : (0 : Int) ≤ ρ 21 ∧ ρ 21 ≤ 3 := r21
  have r36 : (0 : Int) ≤ ρ 36 ∧ ρ 36 ≤ 2 := r36
  have r40 : ((-128) : Int) ≤ ρ 40 ∧ ρ 40 ≤ 127 := r40
  obtain ⟨f0, -⟩ := hf
  have f0 : (0 : Int) ≤ -ρ 39 + ρ 2 + (-1) := f0
  obtain ⟨w_0, w_1, w_2⟩ : (¬ (ρ 19 = 0)) ∧ (ρ 21 ≠ 4) ∧ (0 ≤ -ρ 39 + ρ 2 + (-1)) := ⟨by omega, by omega, by omega⟩
  obtain ⟨-, m1, -, -, -, m5, m6, m7, -, -, m10, m11, -, -, -, -, -, m17, -, -, -, -, -, -, -, -, -, m27, -, -, -, -, m32, m33, -, -, -, m37, -⟩ := hm
  have m1 : γ 0 15 0 34 = ρ 2 := m1
  have m5 : γ 0 15 0 37 = ρ 6 := m5
  have m6 : γ 0 15 0 38 = ρ 7 := m6
  have m7 : γ 0 15 0 14 = ρ 8 := m7
  have m10 : γ 0 15 0 44 = ρ 11 := m10
  have m11 : γ 0 73 0 (ρ 11) = ρ 12 := m11
  have m17 : γ 0 15 0 45 = ρ 18 := m17
  have m27 : γ 2 15 0 35 = ρ 30 := m27
  have m32 : γ 3 15 0 39 = ρ 35 := m32
  have m33 : γ 3 15 0 40 = ρ 36 := m33
  have m37 : γ 6 15 0 35 = ρ 39 := m37
  obtain ⟨⟨⟨⟨-, c4⟩, c5⟩, -⟩, -⟩ := hc
  have c4 : γ 4 = rUp (γ 3) 80 0 (ρ 21 + (4 * ρ 12 + 32 * ρ 11)) (ρ 36) := c4
  have c5 : γ 5 = rUp (γ 4) 81 0 (ρ 21 + (4 * ρ 12 + 32 * ρ 11)) (ρ 35) := c5
  obtain ⟨l0, l1, l2, l3, l4, l5, l6, -⟩ := hl
  have l0 : sn7 [ρ 22, ρ 2] (γ 1) 0 0 (γ 2) := hS7 _ _ _ _ _ l0
  have l1 : sn20 [1, ρ 30, ρ 2, ρ 23, ρ 24, ρ 31, ρ 28, ρ 16, ρ 26, ρ 27, ρ 11] (γ 2) 0 1 (γ 3) := hS20 _ _ _ _ _ l1
  have l2 : ρ 36 ≠ 1 := l2
  have l3 : ρ 36 ≠ 1 := l3
  have l4 : sn7 [ρ 32, ρ 2] (γ 5) 0 0 (γ 6) := hS7 _ _ _ _ _ l4
  have l5 : sn6 [ρ 39, ρ 2] (γ 6) 0 (ρ 40) (γ 7) := hS6 _ _ _ _ _ l5
  have l6 : ρ 40 ≠ 44 := l6
  obtain ⟨wl_0, wl_1⟩ : (ρ 36 ≠ 1) ∧ (ρ 40 ≠ 44) := ⟨by omega, by omega⟩
  show jn41 [ρ 0, ρ 1, ρ 2, ρ 3, ρ 4, ρ 5, ρ 6, ρ 7, ρ 8, ρ 9, ρ 10, ρ 11, ρ 12, ρ 13, ρ 14, ρ 15, ρ 16, ρ 17, ρ 18] (γ 0) 0 [ρ 0, ρ 1, ρ 2, ρ 3, ρ 4, ρ 5, ρ 6, ρ 7, ρ 8, ρ 9, ρ 10, ρ 11, ρ 12, ρ 13, ρ 14, ρ 15, ρ 16, ρ 17, ρ 18, 0, ρ 20, ρ 21 + 1, ρ 39, ρ 33, ρ 34, ρ 25, ρ 37, ρ 38, ρ 36, ρ 41] (γ 7)
  have hD : en41 (γ 0) (0, [ρ 0, ρ 19, ρ 20, ρ 21], γ 1) = .inl (0, [ρ 0, 0, ρ 20, ρ 21 + 1], γ 7) := by
    unfold en41
    refine (if_pos (show (0 : Nat) = 0 by decide)).trans ?_
    refine (zLet_eq (show _ = γ 1 from rfl)).trans ?_
    refine (zLet_eq (show _ = ρ 0 from rfl)).trans ?_
    refine (zLet_eq (show _ = ρ 19 from rfl)).trans ?_
    refine (zLet_eq (show _ = ρ 20 from rfl)).trans ?_
    refine (zLet_eq (show _ = ρ 21 from rfl)).trans ?_
    refine (zLet_eq m1).trans ?_
    refine (zLet_eq m5).trans ?_
    refine (zLet_eq m6).trans ?_
    refine (zLet_eq m7).trans ?_
    refine (zLet_eq m10).trans ?_
    refine (zLet_eq m11).trans ?_
    refine (zLet_eq m17).trans ?_
    refine (if_neg w_0).trans ?_
    refine (zLet_eq (show fn7 [] (γ 1) = (0, 0, γ 2) from l0.symm)).trans ?_
    refine (zLet_eq (show _ = γ 2 from rfl)).trans ?_
    refine (zLet_eq m27).trans ?_
    refine (if_pos w_1).trans ?_
    refine (zLet_eq (show fn20 [1] (γ 2) = (0, 1, γ 3) from l1.symm)).trans ?_
    refine (zLet_eq (show _ = γ 3 from rfl)).trans ?_
    refine (if_pos zQ1_).trans ?_
    refine (zLet_eq m32).trans ?_
    refine (zLet_eq m33).trans ?_
    refine (zLet_eq c4.symm).trans ?_
    refine (zLet_eq c5.symm).trans ?_
    refine (if_pos wl_0).trans ?_
    refine (if_pos wl_0).trans ?_
    refine (zLet_eq (show fn7 [] (γ 5) = (0, 0, γ 6) from l4.symm)).trans ?_
    refine (zLet_eq (show _ = γ 6 from rfl)).trans ?_
    refine (zLet_eq m37).trans ?_
    refine (zLet_eq (show fn6 [ρ 39] (γ 6) = (0, ρ 40, γ 7) from l5.symm)).trans ?_
    refine (zLet_eq (show _ = γ 7 from rfl)).trans ?_
    refine (if_pos w_2).trans ?_
    refine (zLet_eq (show _ = ρ 40 from rfl)).trans ?_
    refine (if_pos wl_1).trans ?_
    rfl
  exact zGoo_ato hJ hD
theorem vn41a0_8 {S : Nat → zSpc} (hS6 : ∀ x g o v gz, S 6 x g o v gz → sn6 x g o v gz) (hS7 : ∀ x g o v gz, S 7 x g o v gz → sn7 x g o v gz) (hS8 : ∀ x g o v gz, S 8 x g o v gz → sn8 x g o v gz) (hS20 : ∀ x g o v gz, S 20 x g o v gz → sn20 x g o v gz) (hS21 : ∀ x g o v gz, S 21 x g o v gz → sn21 x g o v gz) (hS24 : ∀ x g o v gz, S 24 x g o v gz → sn24 x g o v gz) (hS25 : ∀ x g o v gz, S 25 x g o v gz → sn25 x g o v gz) (hS33 : ∀ x g o v gz, S 33 x g o v gz → sn33 x g o v gz) (hS39 : ∀ x g o v gz, S 39 x g o v gz → sn39 x g o v gz) {a : List Int} {g : rHp} : ∀ (ρ : Nat → Int) (γ : Nat → rHp), jn41 a g 0 (zAg (zNA a41_ 0) ρ) (γ 1) → zO 19 S a g q41a0_8 ρ γ → zGl (fun i vs g1 => jn41 a g i vs g1) (sn41 a g) q41a0_8 ρ γ := by
  intro ρ γ hJ h
  obtain ⟨ha, hg, hr, hf, hm, hc, hl⟩ := h
  have ha : a = [ρ 0, ρ 1, ρ 2, ρ 3, ρ 4, ρ 5, ρ 6, ρ 7, ρ 8, ρ 9, ρ 10, ρ 11, ρ 12, ρ 13, ρ 14, ρ 15, ρ 16, ρ 17, ρ 18] := ha
  subst ha
  subst hg
  have hJ : jn41 [ρ 0, ρ 1, ρ 2, ρ 3, ρ 4, ρ 5, ρ 6, ρ 7, ρ 8, ρ 9, ρ 10, ρ 11, ρ 12, ρ 13, ρ 14, ρ 15, ρ 16, ρ 17, ρ 18] (γ 0) 0 [ρ 0, ρ 1, ρ 2, ρ 3, ρ 4, ρ 5, ρ 6, ρ 7, ρ 8, ρ 9, ρ 10, ρ 11, ρ 12, ρ 13, ρ 14, ρ 15, ρ 16, ρ 17, ρ 18, ρ 19, ρ 20, ρ 21, ρ 22, ρ 23, ρ 24, ρ 25, ρ 26, ρ 27, ρ 28, ρ 29] (γ 1) := hJ
  obtain ⟨-, -, -, -, -, -, -, -, -, -, -, -, -, -, -, -, -, -, -, r19, -, r21, -, -, -, -, -, -, -, -, -, -, -, -, -, -, r36, -, -, -, r40, -⟩ := hr
  have r19 : (1 : Int) ≤ ρ 19 ∧ ρ 19 ≤ 1 := r19
  have r21 : (0 : Int) ≤ ρ 21 ∧ ρ 21 ≤ 3 := r21
  have r36 : (0 : Int) ≤ ρ 36 ∧ ρ 36 ≤ 2 := r36
  have r40 : (44 : Int) ≤ ρ 40 ∧ ρ 40 ≤ 44 := r40
  obtain ⟨f0, -⟩ := hf
  have f0 : (0 : Int) ≤ -ρ 39 + ρ 2 + (-1) := f0
  obtain ⟨w_0, w_1, w_2, w_3⟩ : (¬ (ρ 19 = 0)) ∧ (ρ 21 ≠ 4) ∧ (0 ≤ -ρ 39 + ρ 2 + (-1)) ∧ (¬ (ρ 40 ≠ 44)) := ⟨by omega, by omega, by omega, by omega⟩
  obtain ⟨-, m1, -, -, -, m5, m6, m7, -, -, m10, m11, -, -, -, -, -, m17, -, -, -, -, -, -, -, -, -, m27, -, -, -, -, m32, m33, -, -, -, m37, -⟩ := hm
  have m1 : γ 0 15 0 34 = ρ 2 := m1
  have m5 : γ 0 15 0 37 = ρ 6 := m5
  have m6 : γ 0 15 0 38 = ρ 7 := m6
  have m7 : γ 0 15 0 14 = ρ 8 := m7
  have m10 : γ 0 15 0 44 = ρ 11 := m10
  have m11 : γ 0 73 0 (ρ 11) = ρ 12 := m11
  have m17 : γ 0 15 0 45 = ρ 18 := m17
  have m27 : γ 2 15 0 35 = ρ 30 := m27
  have m32 : γ 3 15 0 39 = ρ 35 := m32
  have m33 : γ 3 15 0 40 = ρ 36 := m33
  have m37 : γ 6 15 0 35 = ρ 39 := m37
  obtain ⟨⟨⟨⟨⟨-, c4⟩, c5⟩, -⟩, -⟩, c8⟩ := hc
  have c4 : γ 4 = rUp (γ 3) 80 0 (ρ 21 + (4 * ρ 12 + 32 * ρ 11)) (ρ 36) := c4
  have c5 : γ 5 = rUp (γ 4) 81 0 (ρ 21 + (4 * ρ 12 + 32 * ρ 11)) (ρ 35) := c5
  have c8 : γ 8 = rUp (γ 7) 15 0 35 (ρ 39 + 1) := c8
  obtain ⟨l0, l1, l2, l3, l4, l5, -⟩ := hl
  have l0 : sn7 [ρ 22, ρ 2] (γ 1) 0 0 (γ 2) := hS7 _ _ _ _ _ l0
  have l1 : sn20 [1, ρ 30, ρ 2, ρ 23, ρ 24, ρ 31, ρ 28, ρ 16, ρ 26, ρ 27, ρ 11] (γ 2) 0 1 (γ 3) := hS20 _ _ _ _ _ l1
  have l2 : ρ 36 ≠ 1 := l2
  have l3 : ρ 36 ≠ 1 := l3
  have l4 : sn7 [ρ 32, ρ 2] (γ 5) 0 0 (γ 6) := hS7 _ _ _ _ _ l4
  have l5 : sn6 [ρ 39, ρ 2] (γ 6) 0 (ρ 40) (γ 7) := hS6 _ _ _ _ _ l5
  have wl_0 : ρ 36 ≠ 1 := by omega
  show jn41 [ρ 0, ρ 1, ρ 2, ρ 3, ρ 4, ρ 5, ρ 6, ρ 7, ρ 8, ρ 9, ρ 10, ρ 11, ρ 12, ρ 13, ρ 14, ρ 15, ρ 16, ρ 17, ρ 18] (γ 0) 0 [ρ 0, ρ 1, ρ 2, ρ 3, ρ 4, ρ 5, ρ 6, ρ 7, ρ 8, ρ 9, ρ 10, ρ 11, ρ 12, ρ 13, ρ 14, ρ 15, ρ 16, ρ 17, ρ 18, 1, ρ 20, ρ 21 + 1, ρ 39 + 1, ρ 33, ρ 34, ρ 25, ρ 37, ρ 38, ρ 36, ρ 41] (γ 8)
  have hD : en41 (γ 0) (0, [ρ 0, ρ 19, ρ 20, ρ 21], γ 1) = .inl (0, [ρ 0, 1, ρ 20, ρ 21 + 1], γ 8) := by
    unfold en41
    refine (if_pos (show (0 : Nat) = 0 by decide)).trans ?_
    refine (zLet_eq (show _ = γ 1 from rfl)).trans ?_
    refine (zLet_eq (show _ = ρ 0 from rfl)).trans ?_
    refine (zLet_eq (show _ = ρ 19 from rfl)).trans ?_
    refine (zLet_eq (show _ = ρ 20 from rfl)).trans ?_
    refine (zLet_eq (show _ = ρ 21 from rfl)).trans ?_
    refine (zLet_eq m1).trans ?_
    refine (zLet_eq m5).trans ?_
    refine (zLet_eq m6).trans ?_
    refine (zLet_eq m7).trans ?_
    refine (zLet_eq m10).trans ?_
    refine (zLet_eq m11).trans ?_
    refine (zLet_eq m17).trans ?_
    refine (if_neg w_0).trans ?_
    refine (zLet_eq (show fn7 [] (γ 1) = (0, 0, γ 2) from l0.symm)).trans ?_
    refine (zLet_eq (show _ = γ 2 from rfl)).trans ?_
    refine (zLet_eq m27).trans ?_
    refine (if_pos w_1).trans ?_
    refine (zLet_eq (show fn20 [1] (γ 2) = (0, 1, γ 3) from l1.symm)).trans ?_
    refine (zLet_eq (show _ = γ 3 from rfl)).trans ?_
    refine (if_pos zQ1_).trans ?_
    refine (zLet_eq m32).trans ?_
    refine (zLet_eq m33).trans ?_
    refine (zLet_eq c4.symm).trans ?_
    refine (zLet_eq c5.symm).trans ?_
    refine (if_pos wl_0).trans ?_
    refine (if_pos wl_0).trans ?_
    refine (zLet_eq (show fn7 [] (γ 5) = (0, 0, γ 6) from l4.symm)).trans ?_
    refine (zLet_eq (show _ = γ 6 from rfl)).trans ?_
    refine (zLet_eq m37).trans ?_
    refine (zLet_eq (show fn6 [ρ 39] (γ 6) = (0, ρ 40, γ 7) from l5.symm)).trans ?_
    refine (zLet_eq (show _ = γ 7 from rfl)).trans ?_
    refine (if_pos w_2).trans ?_
    refine (zLet_eq (show _ = ρ 40 from rfl)).trans ?_
    refine (if_neg w_3).trans ?_
    refine (zLet_eq c8.symm).trans ?_
    rfl
  exact zGoo_ato hJ hD
theorem vn41a0_9 {S : Nat → zSpc} (hS6 : ∀ x g o v gz, S 6 x g o v gz → sn6 x g o v gz) (hS7 : ∀ x g o v gz, S 7 x g o v gz → sn7 x g o v gz) (hS8 : ∀ x g o v gz, S 8 x g o v gz → sn8 x g o v gz) (hS20 : ∀ x g o v gz, S 20 x g o v gz → sn20 x g o v gz) (hS21 : ∀ x g o v gz, S 21 x g o v gz → sn21 x g o v gz) (hS24 : ∀ x g o v gz, S 24 x g o v gz → sn24 x g o v gz) (hS25 : ∀ x g o v gz, S 25 x g o v gz → sn25 x g o v gz) (hS33 : ∀ x g o v gz, S 33 x g o v gz → sn33 x g o v gz) (hS39 : ∀ x g o v gz, S 39 x g o v gz → sn39 x g o v gz) {a : List Int} {g : rHp} : ∀ (ρ : Nat → Int) (γ : Nat → rHp), jn41 a g 0 (zAg (zNA a41_ 0) ρ) (γ 1) → zO 19 S a g q41a0_9 ρ γ → zGl (fun i vs g1 => jn41 a g i vs g1) (sn41 a g) q41a0_9 ρ γ := by
  intro ρ γ hJ h
  obtain ⟨ha, hg, hr, hf, hm, hc, hl⟩ := h
  have ha : a = [ρ 0, ρ 1, ρ 2, ρ 3, ρ 4, ρ 5, ρ 6, ρ 7, ρ 8, ρ 9, ρ 10, ρ 11, ρ 12, ρ 13, ρ 14, ρ 15, ρ 16, ρ 17, ρ 18] := ha
  subst ha
  subst hg
  have hJ : jn41 [ρ 0, ρ 1, ρ 2, ρ 3, ρ 4, ρ 5, ρ 6, ρ 7, ρ 8, ρ 9, ρ 10, ρ 11, ρ 12, ρ 13, ρ 14, ρ 15, ρ 16, ρ 17, ρ 18] (γ 0) 0 [ρ 0, ρ 1, ρ 2, ρ 3, ρ 4, ρ 5, ρ 6, ρ 7, ρ 8, ρ 9, ρ 10, ρ 11, ρ 12, ρ 13, ρ 14, ρ 15, ρ 16, ρ 17, ρ 18, ρ 19, ρ 20, ρ 21, ρ 22, ρ 23, ρ 24, ρ 25, ρ 26, ρ 27, ρ 28, ρ 29] (γ 1) := hJ
  obtain ⟨-, -, -, -, -, -, -, -, -, -, -, -, -, -, -, -, -, -, -, r19, -, r21, -, -, -, -, -, -, -, -, -, -, -, -, -, -, r36, -⟩ := hr
  have r19 : (1 : Int) ≤ ρ 19 ∧ ρ 19 ≤ 1 := r19
  have r21 : (0 : Int) ≤ ρ 21 ∧ ρ 21 ≤ 3 := r21
  have r36 : (0 : Int) ≤ ρ 36 ∧ ρ 36 ≤ 2 := r36
  obtain ⟨f0, -⟩ := hf
  have f0 : (0 : Int) ≤ ρ 39 + -ρ 2 := f0
  obtain ⟨w_0, w_1, w_2⟩ : (¬ (ρ 19 = 0)) ∧ (ρ 21 ≠ 4) ∧ (¬ (0 ≤ -ρ 39 + ρ 2 + (-1))) := ⟨by omega, by omega, by omega⟩
  obtain ⟨-, m1, -, -, -, m5, m6, m7, -, -, m10, m11, -, -, -, -, -, m17, -, -, -, -, -, -, -, -, -, m27, -, -, -, -, m32, m33, -, -, -, m37, -⟩ := hm
  have m1 : γ 0 15 0 34 = ρ 2 := m1
  have m5 : γ 0 15 0 37 = ρ 6 := m5
  have m6 : γ 0 15 0 38 = ρ 7 := m6
  have m7 : γ 0 15 0 14 = ρ 8 := m7
  have m10 : γ 0 15 0 44 = ρ 11 := m10
  have m11 : γ 0 73 0 (ρ 11) = ρ 12 := m11
  have m17 : γ 0 15 0 45 = ρ 18 := m17
  have m27 : γ 2 15 0 35 = ρ 30 := m27
  have m32 : γ 3 15 0 39 = ρ 35 := m32
  have m33 : γ 3 15 0 40 = ρ 36 := m33
  have m37 : γ 6 15 0 35 = ρ 39 := m37
  obtain ⟨⟨⟨⟨-, c4⟩, c5⟩, -⟩, -⟩ := hc
  have c4 : γ 4 = rUp (γ 3) 80 0 (ρ 21 + (4 * ρ 12 + 32 * ρ 11)) (ρ 36) := c4
  have c5 : γ 5 = rUp (γ 4) 81 0 (ρ 21 + (4 * ρ 12 + 32 * ρ 11)) (ρ 35) := c5
  obtain ⟨l0, l1, l2, l3, l4, l5, -⟩ := hl
  have l0 : sn7 [ρ 22, ρ 2] (γ 1) 0 0 (γ 2) := hS7 _ _ _ _ _ l0
  have l1 : sn20 [1, ρ 30, ρ 2, ρ 23, ρ 24, ρ 31, ρ 28, ρ 16, ρ 26, ρ 27, ρ 11] (γ 2) 0 1 (γ 3) := hS20 _ _ _ _ _ l1
  have l2 : ρ 36 ≠ 1 := l2
  have l3 : ρ 36 ≠ 1 := l3
  have l4 : sn7 [ρ 32, ρ 2] (γ 5) 0 0 (γ 6) := hS7 _ _ _ _ _ l4
  have l5 : sn6 [ρ 39, ρ 2] (γ 6) 0 (-1) (γ 7) := hS6 _ _ _ _ _ l5
  have wl_0 : ρ 36 ≠ 1 := by omega
  show jn41 [ρ 0, ρ 1, ρ 2, ρ 3, ρ 4, ρ 5, ρ 6, ρ 7, ρ 8, ρ 9, ρ 10, ρ 11, ρ 12, ρ 13, ρ 14, ρ 15, ρ 16, ρ 17, ρ 18] (γ 0) 0 [ρ 0, ρ 1, ρ 2, ρ 3, ρ 4, ρ 5, ρ 6, ρ 7, ρ 8, ρ 9, ρ 10, ρ 11, ρ 12, ρ 13, ρ 14, ρ 15, ρ 16, ρ 17, ρ 18, 0, ρ 20, ρ 21 + 1, ρ 39, ρ 33, ρ 34, ρ 25, ρ 37, ρ 38, ρ 36, ρ 40] (γ 7)
  have hD : en41 (γ 0) (0, [ρ 0, ρ 19, ρ 20, ρ 21], γ 1) = .inl (0, [ρ 0, 0, ρ 20, ρ 21 + 1], γ 7) := by
    unfold en41
    refine (if_pos (show (0 : Nat) = 0 by decide)).trans ?_
    refine (zLet_eq (show _ = γ 1 from rfl)).trans ?_
    refine (zLet_eq (show _ = ρ 0 from rfl)).trans ?_
    refine (zLet_eq (show _ = ρ 19 from rfl)).trans ?_
    refine (zLet_eq (show _ = ρ 20 from rfl)).trans ?_
    refine (zLet_eq (show _ = ρ 21 from rfl)).trans ?_
    refine (zLet_eq m1).trans ?_
    refine (zLet_eq m5).trans ?_
    refine (zLet_eq m6).trans ?_
    refine (zLet_eq m7).trans ?_
    refine (zLet_eq m10).trans ?_
    refine (zLet_eq m11).trans ?_
    refine (zLet_eq m17).trans ?_
    refine (if_neg w_0).trans ?_
    refine (zLet_eq (show fn7 [] (γ 1) = (0, 0, γ 2) from l0.symm)).trans ?_
    refine (zLet_eq (show _ = γ 2 from rfl)).trans ?_
    refine (zLet_eq m27).trans ?_
    refine (if_pos w_1).trans ?_
    refine (zLet_eq (show fn20 [1] (γ 2) = (0, 1, γ 3) from l1.symm)).trans ?_
    refine (zLet_eq (show _ = γ 3 from rfl)).trans ?_
    refine (if_pos zQ1_).trans ?_
    refine (zLet_eq m32).trans ?_
    refine (zLet_eq m33).trans ?_
    refine (zLet_eq c4.symm).trans ?_
    refine (zLet_eq c5.symm).trans ?_
    refine (if_pos wl_0).trans ?_
    refine (if_pos wl_0).trans ?_
    refine (zLet_eq (show fn7 [] (γ 5) = (0, 0, γ 6) from l4.symm)).trans ?_
    refine (zLet_eq (show _ = γ 6 from rfl)).trans ?_
    refine (zLet_eq m37).trans ?_
    refine (zLet_eq (show fn6 [ρ 39] (γ 6) = (0, (-1), γ 7) from l5.symm)).trans ?_
    refine (zLet_eq (show _ = γ 7 from rfl)).trans ?_
    refine (if_neg w_2).trans ?_
    rfl
  exact zGoo_ato hJ hD
theorem vn41a0_10 {S : Nat → zSpc} (hS6 : ∀ x g o v gz, S 6 x g o v gz → sn6 x g o v gz) (hS7 : ∀ x g o v gz, S 7 x g o v gz → sn7 x g o v gz) (hS8 : ∀ x g o v gz, S 8 x g o v gz → sn8 x g o v gz) (hS20 : ∀ x g o v gz, S 20 x g o v gz → sn20 x g o v gz) (hS21 : ∀ x g o v gz, S 21 x g o v gz → sn21 x g o v gz) (hS24 : ∀ x g o v gz, S 24 x g o v gz → sn24 x g o v gz) (hS25 : ∀ x g o v gz, S 25 x g o v gz → sn25 x g o v gz) (hS33 : ∀ x g o v gz, S 33 x g o v gz → sn33 x g o v gz) (hS39 : ∀ x g o v gz, S 39 x g o v gz → sn39 x g o v gz) {a : List Int} {g : rHp} : ∀ (ρ : Nat → Int) (γ : Nat → rHp), jn41 a g 0 (zAg (zNA a41_ 0) ρ) (γ 1) → zO 19 S a g q41a0_10 ρ γ → zGl (fun i vs g1 => jn41 a g i vs g1) (sn41 a g) q41a0_10 ρ γ := by
  intro ρ γ hJ h
  obtain ⟨ha, hg, hr, hf, hm, hc, hl⟩ := h
  have ha : a = [ρ 0, ρ 1, ρ 2, ρ 3, ρ 4, ρ 5, ρ 6, ρ 7, ρ 8, ρ 9, ρ 10, ρ 11, ρ 12, ρ 13, ρ 14, ρ 15, ρ 16, ρ 17, ρ 18] := ha
  subst ha
  subst hg
  have hJ : jn41 [ρ 0, ρ 1, ρ 2, ρ 3, ρ 4, ρ 5, ρ 6, ρ 7, ρ 8, ρ 9, ρ 10, ρ 11, ρ 12, ρ 13, ρ 14, ρ 15, ρ 16, ρ 17, ρ 18] (γ 0) 0 [ρ 0, ρ 1, ρ 2, ρ 3, ρ 4, ρ 5, ρ 6, ρ 7, ρ 8, ρ 9, ρ 10, ρ 11, ρ 12, ρ 13, ρ 14, ρ 15, ρ 16, ρ 17, ρ 18, ρ 19, ρ 20, ρ 21, ρ 22, ρ 23, ρ 24, ρ 25, ρ 26, ρ 27, ρ 28, ρ 29] (γ 1) := hJ
  obtain ⟨-, -, -, -, -, -, -, -, -, -, -, -, -, -, -, -, -, -, -, r19, -, r21, -, -, -, -, -, -, -, -, -, -, -, -, -, -, r36, -, -, -, -, -, -, r43, -⟩ := hr
  have r19 : (1 : Int) ≤ ρ 19 ∧ ρ 19 ≤ 1 := r19
  have r21 : (0 : Int) ≤ ρ 21 ∧ ρ 21 ≤ 3 := r21
  have r36 : (1 : Int) ≤ ρ 36 ∧ ρ 36 ≤ 1 := r36
  have r43 : ((-128) : Int) ≤ ρ 43 ∧ ρ 43 ≤ 127 := r43
  obtain ⟨f0, -⟩ := hf
  have f0 : (0 : Int) ≤ -ρ 42 + ρ 2 + (-1) := f0
  obtain ⟨w_0, w_1, w_2, w_3⟩ : (¬ (ρ 19 = 0)) ∧ (ρ 21 ≠ 4) ∧ (¬ (ρ 36 ≠ 1)) ∧ (0 ≤ -ρ 42 + ρ 2 + (-1)) := ⟨by omega, by omega, by omega, by omega⟩
  obtain ⟨-, m1, -, -, -, m5, m6, m7, -, -, m10, m11, -, -, -, -, -, m17, -, -, -, -, -, -, -, -, -, m27, -, -, -, -, m32, m33, -, -, -, m37, -⟩ := hm
  have m1 : γ 0 15 0 34 = ρ 2 := m1
  have m5 : γ 0 15 0 37 = ρ 6 := m5
  have m6 : γ 0 15 0 38 = ρ 7 := m6
  have m7 : γ 0 15 0 14 = ρ 8 := m7
  have m10 : γ 0 15 0 44 = ρ 11 := m10
  have m11 : γ 0 73 0 (ρ 11) = ρ 12 := m11
  have m17 : γ 0 15 0 45 = ρ 18 := m17
  have m27 : γ 2 15 0 35 = ρ 30 := m27
  have m32 : γ 3 15 0 39 = ρ 35 := m32
  have m33 : γ 3 15 0 40 = ρ 36 := m33
  have m37 : γ 6 15 0 35 = ρ 42 := m37
  obtain ⟨⟨⟨⟨-, c4⟩, c5⟩, -⟩, -⟩ := hc
  have c4 : γ 4 = rUp (γ 3) 80 0 (ρ 21 + (4 * ρ 12 + 32 * ρ 11)) (ρ 36) := c4
  have c5 : γ 5 = rUp (γ 4) 81 0 (ρ 21 + (4 * ρ 12 + 32 * ρ 11)) (ρ 35) := c5
  obtain ⟨l0, l1, l2, l3, l4, l5, l6, l7, l8, -⟩ := hl
  have l0 : sn7 [ρ 22, ρ 2] (γ 1) 0 0 (γ 2) := hS7 _ _ _ _ _ l0
  have l1 : sn20 [1, ρ 30, ρ 2, ρ 23, ρ 24, ρ 31, ρ 28, ρ 16, ρ 26, ρ 27, ρ 11] (γ 2) 0 1 (γ 3) := hS20 _ _ _ _ _ l1
  have l2 : ρ 36 ≠ 1 := l2
  have l3 : zOpP (.l2i) (γ 0) (γ 1) [ρ 35] (ρ 39) := l3
  have l4 : zOpP (.ishl) (γ 0) (γ 1) [1, ρ 39] (ρ 40) := l4
  have l5 : zOpP (.ior) (γ 0) (γ 1) [ρ 20, ρ 40] (ρ 41) := l5
  have l6 : sn7 [ρ 32, ρ 2] (γ 5) 0 0 (γ 6) := hS7 _ _ _ _ _ l6
  have l7 : sn6 [ρ 42, ρ 2] (γ 6) 0 (ρ 43) (γ 7) := hS6 _ _ _ _ _ l7
  have l8 : ρ 43 ≠ 44 := l8
  obtain ⟨wl_0, wl_1⟩ : (ρ 36 ≠ 1) ∧ (ρ 43 ≠ 44) := ⟨by omega, by omega⟩
  show jn41 [ρ 0, ρ 1, ρ 2, ρ 3, ρ 4, ρ 5, ρ 6, ρ 7, ρ 8, ρ 9, ρ 10, ρ 11, ρ 12, ρ 13, ρ 14, ρ 15, ρ 16, ρ 17, ρ 18] (γ 0) 0 [ρ 0, ρ 1, ρ 2, ρ 3, ρ 4, ρ 5, ρ 6, ρ 7, ρ 8, ρ 9, ρ 10, ρ 11, ρ 12, ρ 13, ρ 14, ρ 15, ρ 16, ρ 17, ρ 18, 0, ρ 41, ρ 21 + 1, ρ 42, ρ 33, ρ 34, ρ 25, ρ 37, ρ 38, ρ 36, ρ 44] (γ 7)
  have hD : en41 (γ 0) (0, [ρ 0, ρ 19, ρ 20, ρ 21], γ 1) = .inl (0, [ρ 0, 0, ρ 41, ρ 21 + 1], γ 7) := by
    unfold en41
    refine (if_pos (show (0 : Nat) = 0 by decide)).trans ?_
    refine (zLet_eq (show _ = γ 1 from rfl)).trans ?_
    refine (zLet_eq (show _ = ρ 0 from rfl)).trans ?_
    refine (zLet_eq (show _ = ρ 19 from rfl)).trans ?_
    refine (zLet_eq (show _ = ρ 20 from rfl)).trans ?_
    refine (zLet_eq (show _ = ρ 21 from rfl)).trans ?_
    refine (zLet_eq m1).trans ?_
    refine (zLet_eq m5).trans ?_
    refine (zLet_eq m6).trans ?_
    refine (zLet_eq m7).trans ?_
    refine (zLet_eq m10).trans ?_
    refine (zLet_eq m11).trans ?_
    refine (zLet_eq m17).trans ?_
    refine (if_neg w_0).trans ?_
    refine (zLet_eq (show fn7 [] (γ 1) = (0, 0, γ 2) from l0.symm)).trans ?_
    refine (zLet_eq (show _ = γ 2 from rfl)).trans ?_
    refine (zLet_eq m27).trans ?_
    refine (if_pos w_1).trans ?_
    refine (zLet_eq (show fn20 [1] (γ 2) = (0, 1, γ 3) from l1.symm)).trans ?_
    refine (zLet_eq (show _ = γ 3 from rfl)).trans ?_
    refine (if_pos zQ1_).trans ?_
    refine (zLet_eq m32).trans ?_
    refine (zLet_eq m33).trans ?_
    refine (zLet_eq c4.symm).trans ?_
    refine (zLet_eq c5.symm).trans ?_
    refine (if_pos wl_0).trans ?_
    refine (if_neg w_2).trans ?_
    refine (zLet_eq (zF1_ok l3)).trans ?_
    refine (zLet_eq (zF2_ok l4)).trans ?_
    refine (zLet_eq (zF2_ok l5)).trans ?_
    refine (zLet_eq (show fn7 [] (γ 5) = (0, 0, γ 6) from l6.symm)).trans ?_
    refine (zLet_eq (show _ = γ 6 from rfl)).trans ?_
    refine (zLet_eq m37).trans ?_
    refine (zLet_eq (show fn6 [ρ 42] (γ 6) = (0, ρ 43, γ 7) from l7.symm)).trans ?_
    refine (zLet_eq (show _ = γ 7 from rfl)).trans ?_
    refine (if_pos w_3).trans ?_
    refine (zLet_eq (show _ = ρ 43 from rfl)).trans ?_
    refine (if_pos wl_1).trans ?_
    rfl
  exact zGoo_ato hJ hD
theorem vn41a0_11 {S : Nat → zSpc} (hS6 : ∀ x g o v gz, S 6 x g o v gz → sn6 x g o v gz) (hS7 : ∀ x g o v gz, S 7 x g o v gz → sn7 x g o v gz) (hS8 : ∀ x g o v gz, S 8 x g o v gz → sn8 x g o v gz) (hS20 : ∀ x g o v gz, S 20 x g o v gz → sn20 x g o v gz) (hS21 : ∀ x g o v gz, S 21 x g o v gz → sn21 x g o v gz) (hS24 : ∀ x g o v gz, S 24 x g o v gz → sn24 x g o v gz) (hS25 : ∀ x g o v gz, S 25 x g o v gz → sn25 x g o v gz) (hS33 : ∀ x g o v gz, S 33 x g o v gz → sn33 x g o v gz) (hS39 : ∀ x g o v gz, S 39 x g o v gz → sn39 x g o v gz) {a : List Int} {g : rHp} : ∀ (ρ : Nat → Int) (γ : Nat → rHp), jn41 a g 0 (zAg (zNA a41_ 0) ρ) (γ 1) → zO 19 S a g q41a0_11 ρ γ → zGl (fun i vs g1 => jn41 a g i vs g1) (sn41 a g) q41a0_11 ρ γ := by
  intro ρ γ hJ h
  obtain ⟨ha, hg, hr, hf, hm, hc, hl⟩ := h
  have ha : a = [ρ 0, ρ 1, ρ 2, ρ 3, ρ 4, ρ 5, ρ 6, ρ 7, ρ 8, ρ 9, ρ 10, ρ 11, ρ 12, ρ 13, ρ 14, ρ 15, ρ 16, ρ 17, ρ 18] := ha
  subst ha
  subst hg
  have hJ : jn41 [ρ 0, ρ 1, ρ 2, ρ 3, ρ 4, ρ 5, ρ 6, ρ 7, ρ 8, ρ 9, ρ 10, ρ 11, ρ 12, ρ 13, ρ 14, ρ 15, ρ 16, ρ 17, ρ 18] (γ 0) 0 [ρ 0, ρ 1, ρ 2, ρ 3, ρ 4, ρ 5, ρ 6, ρ 7, ρ 8, ρ 9, ρ 10, ρ 11, ρ 12, ρ 13, ρ 14, ρ 15, ρ 16, ρ 17, ρ 18, ρ 19, ρ 20, ρ 21, ρ 22, ρ 23, ρ 24, ρ 25, ρ 26, ρ 27, ρ 28, ρ 29] (γ 1) := hJ
  obtain ⟨-, -, -, -, -, -, -, -, -, -, -, -, -, -, -, -, -, -, -, r19, -, r21, -, -, -, -, -, -, -, -, -, -, -, -, -, -, r36, -, -, -, -, -, -, r43, -⟩ := hr
  have r19 : (1 : Int) ≤ ρ 19 ∧ ρ 19 ≤ 1 := r19
  have r21 : (0 : Int) ≤ ρ 21 ∧ ρ 21 ≤ 3 := r21
  have r36 : (1 : Int) ≤ ρ 36 ∧ ρ 36 ≤ 1 := r36
  have r43 : (44 : Int) ≤ ρ 43 ∧ ρ 43 ≤ 44 := r43
  obtain ⟨f0, -⟩ := hf
  have f0 : (0 : Int) ≤ -ρ 42 + ρ 2 + (-1) := f0
  obtain ⟨w_0, w_1, w_2, w_3, w_4⟩ : (¬ (ρ 19 = 0)) ∧ (ρ 21 ≠ 4) ∧ (¬ (ρ 36 ≠ 1)) ∧ (0 ≤ -ρ 42 + ρ 2 + (-1)) ∧ (¬ (ρ 43 ≠ 44)) := ⟨by omega, by omega, by omega, by omega, by omega⟩
  obtain ⟨-, m1, -, -, -, m5, m6, m7, -, -, m10, m11, -, -, -, -, -, m17, -, -, -, -, -, -, -, -, -, m27, -, -, -, -, m32, m33, -, -, -, m37, -⟩ := hm
  have m1 : γ 0 15 0 34 = ρ 2 := m1
  have m5 : γ 0 15 0 37 = ρ 6 := m5
  have m6 : γ 0 15 0 38 = ρ 7 := m6
  have m7 : γ 0 15 0 14 = ρ 8 := m7
  have m10 : γ 0 15 0 44 = ρ 11 := m10
  have m11 : γ 0 73 0 (ρ 11) = ρ 12 := m11
  have m17 : γ 0 15 0 45 = ρ 18 := m17
  have m27 : γ 2 15 0 35 = ρ 30 := m27
  have m32 : γ 3 15 0 39 = ρ 35 := m32
  have m33 : γ 3 15 0 40 = ρ 36 := m33
  have m37 : γ 6 15 0 35 = ρ 42 := m37
  obtain ⟨⟨⟨⟨⟨-, c4⟩, c5⟩, -⟩, -⟩, c8⟩ := hc
  have c4 : γ 4 = rUp (γ 3) 80 0 (ρ 21 + (4 * ρ 12 + 32 * ρ 11)) (ρ 36) := c4
  have c5 : γ 5 = rUp (γ 4) 81 0 (ρ 21 + (4 * ρ 12 + 32 * ρ 11)) (ρ 35) := c5
  have c8 : γ 8 = rUp (γ 7) 15 0 35 (ρ 42 + 1) := c8
  obtain ⟨l0, l1, l2, l3, l4, l5, l6, l7, -⟩ := hl
  have l0 : sn7 [ρ 22, ρ 2] (γ 1) 0 0 (γ 2) := hS7 _ _ _ _ _ l0
  have l1 : sn20 [1, ρ 30, ρ 2, ρ 23, ρ 24, ρ 31, ρ 28, ρ 16, ρ 26, ρ 27, ρ 11] (γ 2) 0 1 (γ 3) := hS20 _ _ _ _ _ l1
  have l2 : ρ 36 ≠ 1 := l2
  have l3 : zOpP (.l2i) (γ 0) (γ 1) [ρ 35] (ρ 39) := l3
  have l4 : zOpP (.ishl) (γ 0) (γ 1) [1, ρ 39] (ρ 40) := l4
  have l5 : zOpP (.ior) (γ 0) (γ 1) [ρ 20, ρ 40] (ρ 41) := l5
  have l6 : sn7 [ρ 32, ρ 2] (γ 5) 0 0 (γ 6) := hS7 _ _ _ _ _ l6
  have l7 : sn6 [ρ 42, ρ 2] (γ 6) 0 (ρ 43) (γ 7) := hS6 _ _ _ _ _ l7
  have wl_0 : ρ 36 ≠ 1 := by omega
  show jn41 [ρ 0, ρ 1, ρ 2, ρ 3, ρ 4, ρ 5, ρ 6, ρ 7, ρ 8, ρ 9, ρ 10, ρ 11, ρ 12, ρ 13, ρ 14, ρ 15, ρ 16, ρ 17, ρ 18] (γ 0) 0 [ρ 0, ρ 1, ρ 2, ρ 3, ρ 4, ρ 5, ρ 6, ρ 7, ρ 8, ρ 9, ρ 10, ρ 11, ρ 12, ρ 13, ρ 14, ρ 15, ρ 16, ρ 17, ρ 18, 1, ρ 41, ρ 21 + 1, ρ 42 + 1, ρ 33, ρ 34, ρ 25, ρ 37, ρ 38, ρ 36, ρ 44] (γ 8)
  have hD : en41 (γ 0) (0, [ρ 0, ρ 19, ρ 20, ρ 21], γ 1) = .inl (0, [ρ 0, 1, ρ 41, ρ 21 + 1], γ 8) := by
    unfold en41
    refine (if_pos (show (0 : Nat) = 0 by decide)).trans ?_
    refine (zLet_eq (show _ = γ 1 from rfl)).trans ?_
    refine (zLet_eq (show _ = ρ 0 from rfl)).trans ?_
    refine (zLet_eq (show _ = ρ 19 from rfl)).trans ?_
    refine (zLet_eq (show _ = ρ 20 from rfl)).trans ?_
    refine (zLet_eq (show _ = ρ 21 from rfl)).trans ?_
    refine (zLet_eq m1).trans ?_
    refine (zLet_eq m5).trans ?_
    refine (zLet_eq m6).trans ?_
    refine (zLet_eq m7).trans ?_
    refine (zLet_eq m10).trans ?_
    refine (zLet_eq m11).trans ?_
    refine (zLet_eq m17).trans ?_
    refine (if_neg w_0).trans ?_
    refine (zLet_eq (show fn7 [] (γ 1) = (0, 0, γ 2) from l0.symm)).trans ?_
    refine (zLet_eq (show _ = γ 2 from rfl)).trans ?_
    refine (zLet_eq m27).trans ?_
    refine (if_pos w_1).trans ?_
    refine (zLet_eq (show fn20 [1] (γ 2) = (0, 1, γ 3) from l1.symm)).trans ?_
    refine (zLet_eq (show _ = γ 3 from rfl)).trans ?_
    refine (if_pos zQ1_).trans ?_
    refine (zLet_eq m32).trans ?_
    refine (zLet_eq m33).trans ?_
    refine (zLet_eq c4.symm).trans ?_
    refine (zLet_eq c5.symm).trans ?_
    refine (if_pos wl_0).trans ?_
    refine (if_neg w_2).trans ?_
    refine (zLet_eq (zF1_ok l3)).trans ?_
    refine (zLet_eq (zF2_ok l4)).trans ?_
    refine (zLet_eq (zF2_ok l5)).trans ?_
    refine (zLet_eq (show fn7 [] (γ 5) = (0, 0, γ 6) from l6.symm)).trans ?_
    refine (zLet_eq (show _ = γ 6 from rfl)).trans ?_
    refine (zLet_eq m37).trans ?_
    refine (zLet_eq (show fn6 [ρ 42] (γ 6) = (0, ρ 43, γ 7) from l7.symm)).trans ?_
    refine (zLet_eq (show _ = γ 7 from rfl)).trans ?_
    refine (if_pos w_3).trans ?_
    refine (zLet_eq (show _ = ρ 43 from rfl)).trans ?_
    refine (if_neg w_4).trans ?_
    refine (zLet_eq c8.symm).trans ?_
    rfl
  exact zGoo_ato hJ hD
theorem vn41a0_12 {S : Nat → zSpc} (hS6 : ∀ x g o v gz, S 6 x g o v gz → sn6 x g o v gz) (hS7 : ∀ x g o v gz, S 7 x g o v gz → sn7 x g o v gz) (hS8 : ∀ x g o v gz, S 8 x g o v gz → sn8 x g o v gz) (hS20 : ∀ x g o v gz, S 20 x g o v gz → sn20 x g o v gz) (hS21 : ∀ x g o v gz, S 21 x g o v gz → sn21 x g o v gz) (hS24 : ∀ x g o v gz, S 24 x g o v gz → sn24 x g o v gz) (hS25 : ∀ x g o v gz, S 25 x g o v gz → sn25 x g o v gz) (hS33 : ∀ x g o v gz, S 33 x g o v gz → sn33 x g o v gz) (hS39 : ∀ x g o v gz, S 39 x g o v gz → sn39 x g o v gz) {a : List Int} {g : rHp} : ∀ (ρ : Nat → Int) (γ : Nat → rHp), jn41 a g 0 (zAg (zNA a41_ 0) ρ) (γ 1) → zO 19 S a g q41a0_12 ρ γ → zGl (fun i vs g1 => jn41 a g i vs g1) (sn41 a g) q41a0_12 ρ γ := by
  intro ρ γ hJ h
  obtain ⟨ha, hg, hr, hf, hm, hc, hl⟩ := h
  have ha : a = [ρ 0, ρ 1, ρ 2, ρ 3, ρ 4, ρ 5, ρ 6, ρ 7, ρ 8, ρ 9, ρ 10, ρ 11, ρ 12, ρ 13, ρ 14, ρ 15, ρ 16, ρ 17, ρ 18] := ha
  subst ha
  subst hg
  have hJ : jn41 [ρ 0, ρ 1, ρ 2, ρ 3, ρ 4, ρ 5, ρ 6, ρ 7, ρ 8, ρ 9, ρ 10, ρ 11, ρ 12, ρ 13, ρ 14, ρ 15, ρ 16, ρ 17, ρ 18] (γ 0) 0 [ρ 0, ρ 1, ρ 2, ρ 3, ρ 4, ρ 5, ρ 6, ρ 7, ρ 8, ρ 9, ρ 10, ρ 11, ρ 12, ρ 13, ρ 14, ρ 15, ρ 16, ρ 17, ρ 18, ρ 19, ρ 20, ρ 21, ρ 22, ρ 23, ρ 24, ρ 25, ρ 26, ρ 27, ρ 28, ρ 29] (γ 1) := hJ
  obtain ⟨-, -, -, -, -, -, -, -, -, -, -, -, -, -, -, -, -, -, -, r19, -, r21, -, -, -, -, -, -, -, -, -, -, -, -, -, -, r36, -⟩ := hr
  have r19 : (1 : Int) ≤ ρ 19 ∧ ρ 19 ≤ 1 := r19
  have r21 : (0 : Int) ≤ ρ 21 ∧ ρ 21 ≤ 3 := r21
  have r36 : (1 : Int) ≤ ρ 36 ∧ ρ 36 ≤ 1 := r36
  obtain ⟨f0, -⟩ := hf
  have f0 : (0 : Int) ≤ ρ 42 + -ρ 2 := f0
  obtain ⟨w_0, w_1, w_2, w_3⟩ : (¬ (ρ 19 = 0)) ∧ (ρ 21 ≠ 4) ∧ (¬ (ρ 36 ≠ 1)) ∧ (¬ (0 ≤ -ρ 42 + ρ 2 + (-1))) := ⟨by omega, by omega, by omega, by omega⟩
  obtain ⟨-, m1, -, -, -, m5, m6, m7, -, -, m10, m11, -, -, -, -, -, m17, -, -, -, -, -, -, -, -, -, m27, -, -, -, -, m32, m33, -, -, -, m37, -⟩ := hm
  have m1 : γ 0 15 0 34 = ρ 2 := m1
  have m5 : γ 0 15 0 37 = ρ 6 := m5
  have m6 : γ 0 15 0 38 = ρ 7 := m6
  have m7 : γ 0 15 0 14 = ρ 8 := m7
  have m10 : γ 0 15 0 44 = ρ 11 := m10
  have m11 : γ 0 73 0 (ρ 11) = ρ 12 := m11
  have m17 : γ 0 15 0 45 = ρ 18 := m17
  have m27 : γ 2 15 0 35 = ρ 30 := m27
  have m32 : γ 3 15 0 39 = ρ 35 := m32
  have m33 : γ 3 15 0 40 = ρ 36 := m33
  have m37 : γ 6 15 0 35 = ρ 42 := m37
  obtain ⟨⟨⟨⟨-, c4⟩, c5⟩, -⟩, -⟩ := hc
  have c4 : γ 4 = rUp (γ 3) 80 0 (ρ 21 + (4 * ρ 12 + 32 * ρ 11)) (ρ 36) := c4
  have c5 : γ 5 = rUp (γ 4) 81 0 (ρ 21 + (4 * ρ 12 + 32 * ρ 11)) (ρ 35) := c5
  obtain ⟨l0, l1, l2, l3, l4, l5, l6, l7, -⟩ := hl
  have l0 : sn7 [ρ 22, ρ 2] (γ 1) 0 0 (γ 2) := hS7 _ _ _ _ _ l0
  have l1 : sn20 [1, ρ 30, ρ 2, ρ 23, ρ 24, ρ 31, ρ 28, ρ 16, ρ 26, ρ 27, ρ 11] (γ 2) 0 1 (γ 3) := hS20 _ _ _ _ _ l1
  have l2 : ρ 36 ≠ 1 := l2
  have l3 : zOpP (.l2i) (γ 0) (γ 1) [ρ 35] (ρ 39) := l3
  have l4 : zOpP (.ishl) (γ 0) (γ 1) [1, ρ 39] (ρ 40) := l4
  have l5 : zOpP (.ior) (γ 0) (γ 1) [ρ 20, ρ 40] (ρ 41) := l5
  have l6 : sn7 [ρ 32, ρ 2] (γ 5) 0 0 (γ 6) := hS7 _ _ _ _ _ l6
  have l7 : sn6 [ρ 42, ρ 2] (γ 6) 0 (-1) (γ 7) := hS6 _ _ _ _ _ l7
  have wl_0 : ρ 36 ≠ 1 := by omega
  show jn41 [ρ 0, ρ 1, ρ 2, ρ 3, ρ 4, ρ 5, ρ 6, ρ 7, ρ 8, ρ 9, ρ 10, ρ 11, ρ 12, ρ 13, ρ 14, ρ 15, ρ 16, ρ 17, ρ 18] (γ 0) 0 [ρ 0, ρ 1, ρ 2, ρ 3, ρ 4, ρ 5, ρ 6, ρ 7, ρ 8, ρ 9, ρ 10, ρ 11, ρ 12, ρ 13, ρ 14, ρ 15, ρ 16, ρ 17, ρ 18, 0, ρ 41, ρ 21 + 1, ρ 42, ρ 33, ρ 34, ρ 25, ρ 37, ρ 38, ρ 36, ρ 43] (γ 7)
  have hD : en41 (γ 0) (0, [ρ 0, ρ 19, ρ 20, ρ 21], γ 1) = .inl (0, [ρ 0, 0, ρ 41, ρ 21 + 1], γ 7) := by
    unfold en41
    refine (if_pos (show (0 : Nat) = 0 by decide)).trans ?_
    refine (zLet_eq (show _ = γ 1 from rfl)).trans ?_
    refine (zLet_eq (show _ = ρ 0 from rfl)).trans ?_
    refine (zLet_eq (show _ = ρ 19 from rfl)).trans ?_
    refine (zLet_eq (show _ = ρ 20 from rfl)).trans ?_
    refine (zLet_eq (show _ = ρ 21 from rfl)).trans ?_
    refine (zLet_eq m1).trans ?_
    refine (zLet_eq m5).trans ?_
    refine (zLet_eq m6).trans ?_
    refine (zLet_eq m7).trans ?_
    refine (zLet_eq m10).trans ?_
    refine (zLet_eq m11).trans ?_
    refine (zLet_eq m17).trans ?_
    refine (if_neg w_0).trans ?_
    refine (zLet_eq (show fn7 [] (γ 1) = (0, 0, γ 2) from l0.symm)).trans ?_
    refine (zLet_eq (show _ = γ 2 from rfl)).trans ?_
    refine (zLet_eq m27).trans ?_
    refine (if_pos w_1).trans ?_
    refine (zLet_eq (show fn20 [1] (γ 2) = (0, 1, γ 3) from l1.symm)).trans ?_
    refine (zLet_eq (show _ = γ 3 from rfl)).trans ?_
    refine (if_pos zQ1_).trans ?_
    refine (zLet_eq m32).trans ?_
    refine (zLet_eq m33).trans ?_
    refine (zLet_eq c4.symm).trans ?_
    refine (zLet_eq c5.symm).trans ?_
    refine (if_pos wl_0).trans ?_
    refine (if_neg w_2).trans ?_
    refine (zLet_eq (zF1_ok l3)).trans ?_
    refine (zLet_eq (zF2_ok l4)).trans ?_
    refine (zLet_eq (zF2_ok l5)).trans ?_
    refine (zLet_eq (show fn7 [] (γ 5) = (0, 0, γ 6) from l6.symm)).trans ?_
    refine (zLet_eq (show _ = γ 6 from rfl)).trans ?_
    refine (zLet_eq m37).trans ?_
    refine (zLet_eq (show fn6 [ρ 42] (γ 6) = (0, (-1), γ 7) from l7.symm)).trans ?_
    refine (zLet_eq (show _ = γ 7 from rfl)).trans ?_
    refine (if_neg w_3).trans ?_
    rfl
  exact zGoo_ato hJ hD
theorem vn41a0_13 {S : Nat → zSpc} (hS6 : ∀ x g o v gz, S 6 x g o v gz → sn6 x g o v gz) (hS7 : ∀ x g o v gz, S 7 x g o v gz → sn7 x g o v gz) (hS8 : ∀ x g o v gz, S 8 x g o v gz → sn8 x g o v gz) (hS20 : ∀ x g o v gz, S 20 x g o v gz → sn20 x g o v gz) (hS21 : ∀ x g o v gz, S 21 x g o v gz → sn21 x g o v gz) (hS24 : ∀ x g o v gz, S 24 x g o v gz → sn24 x g o v gz) (hS25 : ∀ x g o v gz, S 25 x g o v gz → sn25 x g o v gz) (hS33 : ∀ x g o v gz, S 33 x g o v gz → sn33 x g o v gz) (hS39 : ∀ x g o v gz, S 39 x g o v gz → sn39 x g o v gz) {a : List Int} {g : rHp} : ∀ (ρ : Nat → Int) (γ : Nat → rHp), jn41 a g 0 (zAg (zNA a41_ 0) ρ) (γ 1) → zO 19 S a g q41a0_13 ρ γ → zGl (fun i vs g1 => jn41 a g i vs g1) (sn41 a g) q41a0_13 ρ γ := by
  intro ρ γ hJ h
  obtain ⟨ha, hg, hr, hf, hm, hc, hl⟩ := h
  have ha : a = [ρ 0, ρ 1, ρ 2, ρ 3, ρ 4, ρ 5, ρ 6, ρ 7, ρ 8, ρ 9, ρ 10, ρ 11, ρ 12, ρ 13, ρ 14, ρ 15, ρ 16, ρ 17, ρ 18] := ha
  subst ha
  subst hg
  have hJ : jn41 [ρ 0, ρ 1, ρ 2, ρ 3, ρ 4, ρ 5, ρ 6, ρ 7, ρ 8, ρ 9, ρ 10, ρ 11, ρ 12, ρ 13, ρ 14, ρ 15, ρ 16, ρ 17, ρ 18] (γ 0) 0 [ρ 0, ρ 1, ρ 2, ρ 3, ρ 4, ρ 5, ρ 6, ρ 7, ρ 8, ρ 9, ρ 10, ρ 11, ρ 12, ρ 13, ρ 14, ρ 15, ρ 16, ρ 17, ρ 18, ρ 19, ρ 20, ρ 21, ρ 22, ρ 23, ρ 24, ρ 25, ρ 26, ρ 27, ρ 28, ρ 29] (γ 1) := hJ
  obtain ⟨r0, -, -, -, -, -, -, -, -, -, -, -, -, -, -, -, -, -, -, r19, -, r21, -, -, -, -, -, -, -, -, -, -, -, -, -, -, r36, -, -, -, -, -, -, r43, -⟩ := hr
  have r0 : (0 : Int) ≤ ρ 0 ∧ ρ 0 ≤ 0 := r0
  have r19 : (1 : Int) ≤ ρ 19 ∧ ρ 19 ≤ 1 := r19
  have r21 : (0 : Int) ≤ ρ 21 ∧ ρ 21 ≤ 3 := r21
  have r36 : (1 : Int) ≤ ρ 36 ∧ ρ 36 ≤ 1 := r36
  have r43 : ((-128) : Int) ≤ ρ 43 ∧ ρ 43 ≤ 127 := r43
  obtain ⟨f0, -⟩ := hf
  have f0 : (0 : Int) ≤ -ρ 42 + ρ 2 + (-1) := f0
  obtain ⟨w_0, w_1, w_2, w_3, w_4⟩ : (¬ (ρ 19 = 0)) ∧ (ρ 21 ≠ 4) ∧ (¬ (ρ 36 ≠ 1)) ∧ (ρ 0 = 0) ∧ (0 ≤ -ρ 42 + ρ 2 + (-1)) := ⟨by omega, by omega, by omega, by omega, by omega⟩
  obtain ⟨-, m1, -, -, -, m5, m6, m7, -, -, m10, m11, -, -, -, -, -, m17, -, -, -, -, -, -, -, -, -, m27, -, -, -, -, m32, m33, -, -, -, m37, -⟩ := hm
  have m1 : γ 0 15 0 34 = ρ 2 := m1
  have m5 : γ 0 15 0 37 = ρ 6 := m5
  have m6 : γ 0 15 0 38 = ρ 7 := m6
  have m7 : γ 0 15 0 14 = ρ 8 := m7
  have m10 : γ 0 15 0 44 = ρ 11 := m10
  have m11 : γ 0 73 0 (ρ 11) = ρ 12 := m11
  have m17 : γ 0 15 0 45 = ρ 18 := m17
  have m27 : γ 2 15 0 35 = ρ 30 := m27
  have m32 : γ 3 15 0 39 = ρ 35 := m32
  have m33 : γ 3 15 0 40 = ρ 36 := m33
  have m37 : γ 6 15 0 35 = ρ 42 := m37
  obtain ⟨⟨⟨⟨-, c4⟩, c5⟩, -⟩, -⟩ := hc
  have c4 : γ 4 = rUp (γ 3) 80 0 (ρ 21 + (4 * ρ 12 + 32 * ρ 11)) (ρ 36) := c4
  have c5 : γ 5 = rUp (γ 4) 81 0 (ρ 21 + (4 * ρ 12 + 32 * ρ 11)) (ρ 35) := c5
  obtain ⟨l0, l1, l2, l3, l4, l5, l6, l7, -⟩ := hl
  have l0 : sn7 [ρ 22, ρ 2] (γ 1) 0 0 (γ 2) := hS7 _ _ _ _ _ l0
  have l1 : sn20 [1, ρ 30, ρ 2, ρ 23, ρ 24, ρ 31, ρ 28, ρ 16, ρ 26, ρ 27, ρ 11] (γ 2) 0 1 (γ 3) := hS20 _ _ _ _ _ l1
  have l2 : zOpP (.l2i) (γ 0) (γ 1) [ρ 35] (ρ 39) := l2
  have l3 : zOpP (.ishl) (γ 0) (γ 1) [1, ρ 39] (ρ 40) := l3
  have l4 : zOpP (.ior) (γ 0) (γ 1) [ρ 20, ρ 40] (ρ 41) := l4
  have l5 : sn7 [ρ 32, ρ 2] (γ 5) 0 0 (γ 6) := hS7 _ _ _ _ _ l5
  have l6 : sn6 [ρ 42, ρ 2] (γ 6) 0 (ρ 43) (γ 7) := hS6 _ _ _ _ _ l6
  have l7 : ρ 43 ≠ 44 := l7
  have wl_0 : ρ 43 ≠ 44 := by omega
  show jn41 [ρ 0, ρ 1, ρ 2, ρ 3, ρ 4, ρ 5, ρ 6, ρ 7, ρ 8, ρ 9, ρ 10, ρ 11, ρ 12, ρ 13, ρ 14, ρ 15, ρ 16, ρ 17, ρ 18] (γ 0) 0 [ρ 0, ρ 1, ρ 2, ρ 3, ρ 4, ρ 5, ρ 6, ρ 7, ρ 8, ρ 9, ρ 10, ρ 11, ρ 12, ρ 13, ρ 14, ρ 15, ρ 16, ρ 17, ρ 18, 0, ρ 41, ρ 21 + 1, ρ 42, ρ 33, ρ 34, ρ 25, ρ 37, ρ 38, ρ 36, ρ 44] (γ 7)
  have hD : en41 (γ 0) (0, [ρ 0, ρ 19, ρ 20, ρ 21], γ 1) = .inl (0, [ρ 0, 0, ρ 41, ρ 21 + 1], γ 7) := by
    unfold en41
    refine (if_pos (show (0 : Nat) = 0 by decide)).trans ?_
    refine (zLet_eq (show _ = γ 1 from rfl)).trans ?_
    refine (zLet_eq (show _ = ρ 0 from rfl)).trans ?_
    refine (zLet_eq (show _ = ρ 19 from rfl)).trans ?_
    refine (zLet_eq (show _ = ρ 20 from rfl)).trans ?_
    refine (zLet_eq (show _ = ρ 21 from rfl)).trans ?_
    refine (zLet_eq m1).trans ?_
    refine (zLet_eq m5).trans ?_
    refine (zLet_eq m6).trans ?_
    refine (zLet_eq m7).trans ?_
    refine (zLet_eq m10).trans ?_
    refine (zLet_eq m11).trans ?_
    refine (zLet_eq m17).trans ?_
    refine (if_neg w_0).trans ?_
    refine (zLet_eq (show fn7 [] (γ 1) = (0, 0, γ 2) from l0.symm)).trans ?_
    refine (zLet_eq (show _ = γ 2 from rfl)).trans ?_
    refine (zLet_eq m27).trans ?_
    refine (if_pos w_1).trans ?_
    refine (zLet_eq (show fn20 [1] (γ 2) = (0, 1, γ 3) from l1.symm)).trans ?_
    refine (zLet_eq (show _ = γ 3 from rfl)).trans ?_
    refine (if_pos zQ1_).trans ?_
    refine (zLet_eq m32).trans ?_
    refine (zLet_eq m33).trans ?_
    refine (zLet_eq c4.symm).trans ?_
    refine (zLet_eq c5.symm).trans ?_
    refine (if_neg w_2).trans ?_
    refine (if_pos w_3).trans ?_
    refine (zLet_eq (zF1_ok l2)).trans ?_
    refine (zLet_eq (zF2_ok l3)).trans ?_
    refine (zLet_eq (zF2_ok l4)).trans ?_
    refine (zLet_eq (show fn7 [] (γ 5) = (0, 0, γ 6) from l5.symm)).trans ?_
    refine (zLet_eq (show _ = γ 6 from rfl)).trans ?_
    refine (zLet_eq m37).trans ?_
    refine (zLet_eq (show fn6 [ρ 42] (γ 6) = (0, ρ 43, γ 7) from l6.symm)).trans ?_
    refine (zLet_eq (show _ = γ 7 from rfl)).trans ?_
    refine (if_pos w_4).trans ?_
    refine (zLet_eq (show _ = ρ 43 from rfl)).trans ?_
    refine (if_pos wl_0).trans ?_
    rfl
  exact zGoo_ato hJ hD
theorem vn41a0_14 {S : Nat → zSpc} (hS6 : ∀ x g o v gz, S 6 x g o v gz → sn6 x g o v gz) (hS7 : ∀ x g o v gz, S 7 x g o v gz → sn7 x g o v gz) (hS8 : ∀ x g o v gz, S 8 x g o v gz → sn8 x g o v gz) (hS20 : ∀ x g o v gz, S 20 x g o v gz → sn20 x g o v gz) (hS21 : ∀ x g o v gz, S 21 x g o v gz → sn21 x g o v gz) (hS24 : ∀ x g o v gz, S 24 x g o v gz → sn24 x g o v gz) (hS25 : ∀ x g o v gz, S 25 x g o v gz → sn25 x g o v gz) (hS33 : ∀ x g o v gz, S 33 x g o v gz → sn33 x g o v gz) (hS39 : ∀ x g o v gz, S 39 x g o v gz → sn39 x g o v gz) {a : List Int} {g : rHp} : ∀ (ρ : Nat → Int) (γ : Nat → rHp), jn41 a g 0 (zAg (zNA a41_ 0) ρ) (γ 1) → zO 19 S a g q41a0_14 ρ γ → zGl (fun i vs g1 => jn41 a g i vs g1) (sn41 a g) q41a0_14 ρ γ := by
  intro ρ γ hJ h
  obtain ⟨ha, hg, hr, hf, hm, hc, hl⟩ := h
  have ha : a = [ρ 0, ρ 1, ρ 2, ρ 3, ρ 4, ρ 5, ρ 6, ρ 7, ρ 8, ρ 9, ρ 10, ρ 11, ρ 12, ρ 13, ρ 14, ρ 15, ρ 16, ρ 17, ρ 18] := ha
  subst ha
  subst hg
  have hJ : jn41 [ρ 0, ρ 1, ρ 2, ρ 3, ρ 4, ρ 5, ρ 6, ρ 7, ρ 8, ρ 9, ρ 10, ρ 11, ρ 12, ρ 13, ρ 14, ρ 15, ρ 16, ρ 17, ρ 18] (γ 0) 0 [ρ 0, ρ 1, ρ 2, ρ 3, ρ 4, ρ 5, ρ 6, ρ 7, ρ 8, ρ 9, ρ 10, ρ 11, ρ 12, ρ 13, ρ 14, ρ 15, ρ 16, ρ 17, ρ 18, ρ 19, ρ 20, ρ 21, ρ 22, ρ 23, ρ 24, ρ 25, ρ 26, ρ 27, ρ 28, ρ 29] (γ 1) := hJ
  obtain ⟨r0, -, -, -, -, -, -, -, -, -, -, -, -, -, -, -, -, -, -, r19, -, r21, -, -, -, -, -, -, -, -, -, -, -, -, -, -, r36, -, -, -, -, -, -, r43, -⟩ := hr
  have r0 : (0 : Int) ≤ ρ 0 ∧ ρ 0 ≤ 0 := r0
  have r19 : (1 : Int) ≤ ρ 19 ∧ ρ 19 ≤ 1 := r19
  have r21 : (0 : Int) ≤ ρ 21 ∧ ρ 21 ≤ 3 := r21
  have r36 : (1 : Int) ≤ ρ 36 ∧ ρ 36 ≤ 1 := r36
  have r43 : (44 : Int) ≤ ρ 43 ∧ ρ 43 ≤ 44 := r43
  obtain ⟨f0, -⟩ := hf
  have f0 : (0 : Int) ≤ -ρ 42 + ρ 2 + (-1) := f0
  obtain ⟨w_0, w_1, w_2, w_3, w_4, w_5⟩ : (¬ (ρ 19 = 0)) ∧ (ρ 21 ≠ 4) ∧ (¬ (ρ 36 ≠ 1)) ∧ (ρ 0 = 0) ∧ (0 ≤ -ρ 42 + ρ 2 + (-1)) ∧ (¬ (ρ 43 ≠ 44)) := ⟨by omega, by omega, by omega, by omega, by omega, by omega⟩
  obtain ⟨-, m1, -, -, -, m5, m6, m7, -, -, m10, m11, -, -, -, -, -, m17, -, -, -, -, -, -, -, -, -, m27, -, -, -, -, m32, m33, -, -, -, m37, -⟩ := hm
  have m1 : γ 0 15 0 34 = ρ 2 := m1
  have m5 : γ 0 15 0 37 = ρ 6 := m5
  have m6 : γ 0 15 0 38 = ρ 7 := m6
  have m7 : γ 0 15 0 14 = ρ 8 := m7
  have m10 : γ 0 15 0 44 = ρ 11 := m10
  have m11 : γ 0 73 0 (ρ 11) = ρ 12 := m11
  have m17 : γ 0 15 0 45 = ρ 18 := m17
  have m27 : γ 2 15 0 35 = ρ 30 := m27
  have m32 : γ 3 15 0 39 = ρ 35 := m32
  have m33 : γ 3 15 0 40 = ρ 36 := m33
  have m37 : γ 6 15 0 35 = ρ 42 := m37
  obtain ⟨⟨⟨⟨⟨-, c4⟩, c5⟩, -⟩, -⟩, c8⟩ := hc
  have c4 : γ 4 = rUp (γ 3) 80 0 (ρ 21 + (4 * ρ 12 + 32 * ρ 11)) (ρ 36) := c4
  have c5 : γ 5 = rUp (γ 4) 81 0 (ρ 21 + (4 * ρ 12 + 32 * ρ 11)) (ρ 35) := c5
  have c8 : γ 8 = rUp (γ 7) 15 0 35 (ρ 42 + 1) := c8
  obtain ⟨l0, l1, l2, l3, l4, l5, l6, -⟩ := hl
  have l0 : sn7 [ρ 22, ρ 2] (γ 1) 0 0 (γ 2) := hS7 _ _ _ _ _ l0
  have l1 : sn20 [1, ρ 30, ρ 2, ρ 23, ρ 24, ρ 31, ρ 28, ρ 16, ρ 26, ρ 27, ρ 11] (γ 2) 0 1 (γ 3) := hS20 _ _ _ _ _ l1
  have l2 : zOpP (.l2i) (γ 0) (γ 1) [ρ 35] (ρ 39) := l2
  have l3 : zOpP (.ishl) (γ 0) (γ 1) [1, ρ 39] (ρ 40) := l3
  have l4 : zOpP (.ior) (γ 0) (γ 1) [ρ 20, ρ 40] (ρ 41) := l4
  have l5 : sn7 [ρ 32, ρ 2] (γ 5) 0 0 (γ 6) := hS7 _ _ _ _ _ l5
  have l6 : sn6 [ρ 42, ρ 2] (γ 6) 0 (ρ 43) (γ 7) := hS6 _ _ _ _ _ l6
  show jn41 [ρ 0, ρ 1, ρ 2, ρ 3, ρ 4, ρ 5, ρ 6, ρ 7, ρ 8, ρ 9, ρ 10, ρ 11, ρ 12, ρ 13, ρ 14, ρ 15, ρ 16, ρ 17, ρ 18] (γ 0) 0 [ρ 0, ρ 1, ρ 2, ρ 3, ρ 4, ρ 5, ρ 6, ρ 7, ρ 8, ρ 9, ρ 10, ρ 11, ρ 12, ρ 13, ρ 14, ρ 15, ρ 16, ρ 17, ρ 18, 1, ρ 41, ρ 21 + 1, ρ 42 + 1, ρ 33, ρ 34, ρ 25, ρ 37, ρ 38, ρ 36, ρ 44] (γ 8)
  have hD : en41 (γ 0) (0, [ρ 0, ρ 19, ρ 20, ρ 21], γ 1) = .inl (0, [ρ 0, 1, ρ 41, ρ 21 + 1], γ 8) := by
    unfold en41
    refine (if_pos (show (0 : Nat) = 0 by decide)).trans ?_
    refine (zLet_eq (show _ = γ 1 from rfl)).trans ?_
    refine (zLet_eq (show _ = ρ 0 from rfl)).trans ?_
    refine (zLet_eq (show _ = ρ 19 from rfl)).trans ?_
    refine (zLet_eq (show _ = ρ 20 from rfl)).trans ?_
    refine (zLet_eq (show _ = ρ 21 from rfl)).trans ?_
    refine (zLet_eq m1).trans ?_
    refine (zLet_eq m5).trans ?_
    refine (zLet_eq m6).trans ?_
    refine (zLet_eq m7).trans ?_
    refine (zLet_eq m10).trans ?_
    refine (zLet_eq m11).trans ?_
    refine (zLet_eq m17).trans ?_
    refine (if_neg w_0).trans ?_
    refine (zLet_eq (show fn7 [] (γ 1) = (0, 0, γ 2) from l0.symm)).trans ?_
    refine (zLet_eq (show _ = γ 2 from rfl)).trans ?_
    refine (zLet_eq m27).trans ?_
    refine (if_pos w_1).trans ?_
    refine (zLet_eq (show fn20 [1] (γ 2) = (0, 1, γ 3) from l1.symm)).trans ?_
    refine (zLet_eq (show _ = γ 3 from rfl)).trans ?_
    refine (if_pos zQ1_).trans ?_
    refine (zLet_eq m32).trans ?_
    refine (zLet_eq m33).trans ?_
    refine (zLet_eq c4.symm).trans ?_
    refine (zLet_eq c5.symm).trans ?_
    refine (if_neg w_2).trans ?_
    refine (if_pos w_3).trans ?_
    refine (zLet_eq (zF1_ok l2)).trans ?_
    refine (zLet_eq (zF2_ok l3)).trans ?_
    refine (zLet_eq (zF2_ok l4)).trans ?_
    refine (zLet_eq (show fn7 [] (γ 5) = (0, 0, γ 6) from l5.symm)).trans ?_
    refine (zLet_eq (show _ = γ 6 from rfl)).trans ?_
    refine (zLet_eq m37).trans ?_
    refine (zLet_eq (show fn6 [ρ 42] (γ 6) = (0, ρ 43, γ 7) from l6.symm)).trans ?_
    refine (zLet_eq (show _ = γ 7 from rfl)).trans ?_
    refine (if_pos w_4).trans ?_
    refine (zLet_eq (show _ = ρ 43 from rfl)).trans ?_
    refine (if_neg w_5).trans ?_
    refine (zLet_eq c8.symm).trans ?_
    rfl
  exact zGoo_ato hJ hD
theorem vn41a0_15 {S : Nat → zSpc} (hS6 : ∀ x g o v gz, S 6 x g o v gz → sn6 x g o v gz) (hS7 : ∀ x g o v gz, S 7 x g o v gz → sn7 x g o v gz) (hS8 : ∀ x g o v gz, S 8 x g o v gz → sn8 x g o v gz) (hS20 : ∀ x g o v gz, S 20 x g o v gz → sn20 x g o v gz) (hS21 : ∀ x g o v gz, S 21 x g o v gz → sn21 x g o v gz) (hS24 : ∀ x g o v gz, S 24 x g o v gz → sn24 x g o v gz) (hS25 : ∀ x g o v gz, S 25 x g o v gz → sn25 x g o v gz) (hS33 : ∀ x g o v gz, S 33 x g o v gz → sn33 x g o v gz) (hS39 : ∀ x g o v gz, S 39 x g o v gz → sn39 x g o v gz) {a : List Int} {g : rHp} : ∀ (ρ : Nat → Int) (γ : Nat → rHp), jn41 a g 0 (zAg (zNA a41_ 0) ρ) (γ 1) → zO 19 S a g q41a0_15 ρ γ → zGl (fun i vs g1 => jn41 a g i vs g1) (sn41 a g) q41a0_15 ρ γ := by
  intro ρ γ hJ h
  obtain ⟨ha, hg, hr, hf, hm, hc, hl⟩ := h
  have ha : a = [ρ 0, ρ 1, ρ 2, ρ 3, ρ 4, ρ 5, ρ 6, ρ 7, ρ 8, ρ 9, ρ 10, ρ 11, ρ 12, ρ 13, ρ 14, ρ 15, ρ 16, ρ 17, ρ 18] := ha
  subst ha
  subst hg
  have hJ : jn41 [ρ 0, ρ 1, ρ 2, ρ 3, ρ 4, ρ 5, ρ 6, ρ 7, ρ 8, ρ 9, ρ 10, ρ 11, ρ 12, ρ 13, ρ 14, ρ 15, ρ 16, ρ 17, ρ 18] (γ 0) 0 [ρ 0, ρ 1, ρ 2, ρ 3, ρ 4, ρ 5, ρ 6, ρ 7, ρ 8, ρ 9, ρ 10, ρ 11, ρ 12, ρ 13, ρ 14, ρ 15, ρ 16, ρ 17, ρ 18, ρ 19, ρ 20, ρ 21, ρ 22, ρ 23, ρ 24, ρ 25, ρ 26, ρ 27, ρ 28, ρ 29] (γ 1) := hJ
  obtain ⟨r0, -, -, -, -, -, -, -, -, -, -, -, -, -, -, -, -, -, -, r19, -, r21, -, -, -, -, -, -, -, -, -, -, -, -, -, -, r36, -⟩ := hr
  have r0 : (0 : Int) ≤ ρ 0 ∧ ρ 0 ≤ 0 := r0
  have r19 : (1 : Int) ≤ ρ 19 ∧ ρ 19 ≤ 1 := r19
  have r21 : (0 : Int) ≤ ρ 21 ∧ ρ 21 ≤ 3 := r21
  have r36 : (1 : Int) ≤ ρ 36 ∧ ρ 36 ≤ 1 := r36
  obtain ⟨f0, -⟩ := hf
  have f0 : (0 : Int) ≤ ρ 42 + -ρ 2 := f0
  obtain ⟨w_0, w_1, w_2, w_3, w_4⟩ : (¬ (ρ 19 = 0)) ∧ (ρ 21 ≠ 4) ∧ (¬ (ρ 36 ≠ 1)) ∧ (ρ 0 = 0) ∧ (¬ (0 ≤ -ρ 42 + ρ 2 + (-1))) := ⟨by omega, by omega, by omega, by omega, by omega⟩
  obtain ⟨-, m1, -, -, -, m5, m6, m7, -, -, m10, m11, -, -, -, -, -, m17, -, -, -, -, -, -, -, -, -, m27, -, -, -, -, m32, m33, -, -, -, m37, -⟩ := hm
  have m1 : γ 0 15 0 34 = ρ 2 := m1
  have m5 : γ 0 15 0 37 = ρ 6 := m5
  have m6 : γ 0 15 0 38 = ρ 7 := m6
  have m7 : γ 0 15 0 14 = ρ 8 := m7
  have m10 : γ 0 15 0 44 = ρ 11 := m10
  have m11 : γ 0 73 0 (ρ 11) = ρ 12 := m11
  have m17 : γ 0 15 0 45 = ρ 18 := m17
  have m27 : γ 2 15 0 35 = ρ 30 := m27
  have m32 : γ 3 15 0 39 = ρ 35 := m32
  have m33 : γ 3 15 0 40 = ρ 36 := m33
  have m37 : γ 6 15 0 35 = ρ 42 := m37
  obtain ⟨⟨⟨⟨-, c4⟩, c5⟩, -⟩, -⟩ := hc
  have c4 : γ 4 = rUp (γ 3) 80 0 (ρ 21 + (4 * ρ 12 + 32 * ρ 11)) (ρ 36) := c4
  have c5 : γ 5 = rUp (γ 4) 81 0 (ρ 21 + (4 * ρ 12 + 32 * ρ 11)) (ρ 35) := c5
  obtain ⟨l0, l1, l2, l3, l4, l5, l6, -⟩ := hl
  have l0 : sn7 [ρ 22, ρ 2] (γ 1) 0 0 (γ 2) := hS7 _ _ _ _ _ l0
  have l1 : sn20 [1, ρ 30, ρ 2, ρ 23, ρ 24, ρ 31, ρ 28, ρ 16, ρ 26, ρ 27, ρ 11] (γ 2) 0 1 (γ 3) := hS20 _ _ _ _ _ l1
  have l2 : zOpP (.l2i) (γ 0) (γ 1) [ρ 35] (ρ 39) := l2
  have l3 : zOpP (.ishl) (γ 0) (γ 1) [1, ρ 39] (ρ 40) := l3
  have l4 : zOpP (.ior) (γ 0) (γ 1) [ρ 20, ρ 40] (ρ 41) := l4
  have l5 : sn7 [ρ 32, ρ 2] (γ 5) 0 0 (γ 6) := hS7 _ _ _ _ _ l5
  have l6 : sn6 [ρ 42, ρ 2] (γ 6) 0 (-1) (γ 7) := hS6 _ _ _ _ _ l6
  show jn41 [ρ 0, ρ 1, ρ 2, ρ 3, ρ 4, ρ 5, ρ 6, ρ 7, ρ 8, ρ 9, ρ 10, ρ 11, ρ 12, ρ 13, ρ 14, ρ 15, ρ 16, ρ 17, ρ 18] (γ 0) 0 [ρ 0, ρ 1, ρ 2, ρ 3, ρ 4, ρ 5, ρ 6, ρ 7, ρ 8, ρ 9, ρ 10, ρ 11, ρ 12, ρ 13, ρ 14, ρ 15, ρ 16, ρ 17, ρ 18, 0, ρ 41, ρ 21 + 1, ρ 42, ρ 33, ρ 34, ρ 25, ρ 37, ρ 38, ρ 36, ρ 43] (γ 7)
  have hD : en41 (γ 0) (0, [ρ 0, ρ 19, ρ 20, ρ 21], γ 1) = .inl (0, [ρ 0, 0, ρ 41, ρ 21 + 1], γ 7) := by
    unfold en41
    refine (if_pos (show (0 : Nat) = 0 by decide)).trans ?_
    refine (zLet_eq (show _ = γ 1 from rfl)).trans ?_
    refine (zLet_eq (show _ = ρ 0 from rfl)).trans ?_
    refine (zLet_eq (show _ = ρ 19 from rfl)).trans ?_
    refine (zLet_eq (show _ = ρ 20 from rfl)).trans ?_
    refine (zLet_eq (show _ = ρ 21 from rfl)).trans ?_
    refine (zLet_eq m1).trans ?_
    refine (zLet_eq m5).trans ?_
    refine (zLet_eq m6).trans ?_
    refine (zLet_eq m7).trans ?_
    refine (zLet_eq m10).trans ?_
    refine (zLet_eq m11).trans ?_
    refine (zLet_eq m17).trans ?_
    refine (if_neg w_0).trans ?_
    refine (zLet_eq (show fn7 [] (γ 1) = (0, 0, γ 2) from l0.symm)).trans ?_
    refine (zLet_eq (show _ = γ 2 from rfl)).trans ?_
    refine (zLet_eq m27).trans ?_
    refine (if_pos w_1).trans ?_
    refine (zLet_eq (show fn20 [1] (γ 2) = (0, 1, γ 3) from l1.symm)).trans ?_
    refine (zLet_eq (show _ = γ 3 from rfl)).trans ?_
    refine (if_pos zQ1_).trans ?_
    refine (zLet_eq m32).trans ?_
    refine (zLet_eq m33).trans ?_
    refine (zLet_eq c4.symm).trans ?_
    refine (zLet_eq c5.symm).trans ?_
    refine (if_neg w_2).trans ?_
    refine (if_pos w_3).trans ?_
    refine (zLet_eq (zF1_ok l2)).trans ?_
    refine (zLet_eq (zF2_ok l3)).trans ?_
    refine (zLet_eq (zF2_ok l4)).trans ?_
    refine (zLet_eq (show fn7 [] (γ 5) = (0, 0, γ 6) from l5.symm)).trans ?_
    refine (zLet_eq (show _ = γ 6 from rfl)).trans ?_
    refine (zLet_eq m37).trans ?_
    refine (zLet_eq (show fn6 [ρ 42] (γ 6) = (0, (-1), γ 7) from l6.symm)).trans ?_
    refine (zLet_eq (show _ = γ 7 from rfl)).trans ?_
    refine (if_neg w_4).trans ?_
    rfl
  exact zGoo_ato hJ hD
theorem vn41a0_16 {S : Nat → zSpc} (hS6 : ∀ x g o v gz, S 6 x g o v gz → sn6 x g o v gz) (hS7 : ∀ x g o v gz, S 7 x g o v gz → sn7 x g o v gz) (hS8 : ∀ x g o v gz, S 8 x g o v gz → sn8 x g o v gz) (hS20 : ∀ x g o v gz, S 20 x g o v gz → sn20 x g o v gz) (hS21 : ∀ x g o v gz, S 21 x g o v gz → sn21 x g o v gz) (hS24 : ∀ x g o v gz, S 24 x g o v gz → sn24 x g o v gz) (hS25 : ∀ x g o v gz, S 25 x g o v gz → sn25 x g o v gz) (hS33 : ∀ x g o v gz, S 33 x g o v gz → sn33 x g o v gz) (hS39 : ∀ x g o v gz, S 39 x g o v gz → sn39 x g o v gz) {a : List Int} {g : rHp} : ∀ (ρ : Nat → Int) (γ : Nat → rHp), jn41 a g 0 (zAg (zNA a41_ 0) ρ) (γ 1) → zO 19 S a g q41a0_16 ρ γ → zGl (fun i vs g1 => jn41 a g i vs g1) (sn41 a g) q41a0_16 ρ γ := by
  intro ρ γ hJ h
  obtain ⟨ha, hg, hr, hf, hm, hc, hl⟩ := h
  have ha : a = [ρ 0, ρ 1, ρ 2, ρ 3, ρ 4, ρ 5, ρ 6, ρ 7, ρ 8, ρ 9, ρ 10, ρ 11, ρ 12, ρ 13, ρ 14, ρ 15, ρ 16, ρ 17, ρ 18] := ha
  subst ha
  subst hg
  have hJ : jn41 [ρ 0, ρ 1, ρ 2, ρ 3, ρ 4, ρ 5, ρ 6, ρ 7, ρ 8, ρ 9, ρ 10, ρ 11, ρ 12, ρ 13, ρ 14, ρ 15, ρ 16, ρ 17, ρ 18] (γ 0) 0 [ρ 0, ρ 1, ρ 2, ρ 3, ρ 4, ρ 5, ρ 6, ρ 7, ρ 8, ρ 9, ρ 10, ρ 11, ρ 12, ρ 13, ρ 14, ρ 15, ρ 16, ρ 17, ρ 18, ρ 19, ρ 20, ρ 21, ρ 22, ρ 23, ρ 24, ρ 25, ρ 26, ρ 27, ρ 28, ρ 29] (γ 1) := hJ
  obtain ⟨r0, -, -, -, -, -, -, -, -, -, -, -, -, -, -, -, -, -, -, r19, -, r21, -, -, -, -, -, -, -, -, -, -, -, -, -, -, r36, -, -, -, -, -, r42, -⟩ := hr
  have r0 : (1 : Int) ≤ ρ 0 ∧ ρ 0 ≤ 1 := r0
  have r19 : (1 : Int) ≤ ρ 19 ∧ ρ 19 ≤ 1 := r19
  have r21 : (0 : Int) ≤ ρ 21 ∧ ρ 21 ≤ 3 := r21
  have r36 : (1 : Int) ≤ ρ 36 ∧ ρ 36 ≤ 1 := r36
  have r42 : ((-128) : Int) ≤ ρ 42 ∧ ρ 42 ≤ 127 := r42
  obtain ⟨f0, -⟩ := hf
  have f0 : (0 : Int) ≤ -ρ 41 + ρ 2 + (-1) := f0
  obtain ⟨w_0, w_1, w_2, w_3, w_4⟩ : (¬ (ρ 19 = 0)) ∧ (ρ 21 ≠ 4) ∧ (¬ (ρ 36 ≠ 1)) ∧ (¬ (ρ 0 = 0)) ∧ (0 ≤ -ρ 41 + ρ 2 + (-1)) := ⟨by omega, by omega, by omega, by omega, by omega⟩
  obtain ⟨-, m1, -, -, -, m5, m6, m7, -, -, m10, m11, -, -, -, -, -, m17, -, -, -, -, -, -, -, -, -, m27, -, -, -, -, m32, m33, -, -, -, -, m38, -⟩ := hm
  have m1 : γ 0 15 0 34 = ρ 2 := m1
  have m5 : γ 0 15 0 37 = ρ 6 := m5
  have m6 : γ 0 15 0 38 = ρ 7 := m6
  have m7 : γ 0 15 0 14 = ρ 8 := m7
  have m10 : γ 0 15 0 44 = ρ 11 := m10
  have m11 : γ 0 73 0 (ρ 11) = ρ 12 := m11
  have m17 : γ 0 15 0 45 = ρ 18 := m17
  have m27 : γ 2 15 0 35 = ρ 30 := m27
  have m32 : γ 3 15 0 39 = ρ 35 := m32
  have m33 : γ 3 15 0 40 = ρ 36 := m33
  have m38 : γ 7 15 0 35 = ρ 41 := m38
  obtain ⟨⟨⟨⟨⟨-, c4⟩, c5⟩, -⟩, -⟩, -⟩ := hc
  have c4 : γ 4 = rUp (γ 3) 80 0 (ρ 21 + (4 * ρ 12 + 32 * ρ 11)) (ρ 36) := c4
  have c5 : γ 5 = rUp (γ 4) 81 0 (ρ 21 + (4 * ρ 12 + 32 * ρ 11)) (ρ 35) := c5
  obtain ⟨l0, l1, l2, l3, l4, l5, l6, l7, -⟩ := hl
  have l0 : sn7 [ρ 22, ρ 2] (γ 1) 0 0 (γ 2) := hS7 _ _ _ _ _ l0
  have l1 : sn20 [1, ρ 30, ρ 2, ρ 23, ρ 24, ρ 31, ρ 28, ρ 16, ρ 26, ρ 27, ρ 11] (γ 2) 0 1 (γ 3) := hS20 _ _ _ _ _ l1
  have l2 : sn25 [ρ 30, ρ 35, 1, ρ 25, ρ 18] (γ 5) 0 0 (γ 6) := hS25 _ _ _ _ _ l2
  have l3 : zOpP (.ishl) (γ 0) (γ 1) [1, ρ 35] (ρ 39) := l3
  have l4 : zOpP (.ior) (γ 0) (γ 1) [ρ 20, ρ 39] (ρ 40) := l4
  have l5 : sn7 [ρ 32, ρ 2] (γ 6) 0 0 (γ 7) := hS7 _ _ _ _ _ l5
  have l6 : sn6 [ρ 41, ρ 2] (γ 7) 0 (ρ 42) (γ 8) := hS6 _ _ _ _ _ l6
  have l7 : ρ 42 ≠ 44 := l7
  have wl_0 : ρ 42 ≠ 44 := by omega
  show jn41 [ρ 0, ρ 1, ρ 2, ρ 3, ρ 4, ρ 5, ρ 6, ρ 7, ρ 8, ρ 9, ρ 10, ρ 11, ρ 12, ρ 13, ρ 14, ρ 15, ρ 16, ρ 17, ρ 18] (γ 0) 0 [ρ 0, ρ 1, ρ 2, ρ 3, ρ 4, ρ 5, ρ 6, ρ 7, ρ 8, ρ 9, ρ 10, ρ 11, ρ 12, ρ 13, ρ 14, ρ 15, ρ 16, ρ 17, ρ 18, 0, ρ 40, ρ 21 + 1, ρ 41, ρ 33, ρ 34, ρ 25 + 1, ρ 37, ρ 38, ρ 36, ρ 43] (γ 8)
  have hD : en41 (γ 0) (0, [ρ 0, ρ 19, ρ 20, ρ 21], γ 1) = .inl (0, [ρ 0, 0, ρ 40, ρ 21 + 1], γ 8) := by
    unfold en41
    refine (if_pos (show (0 : Nat) = 0 by decide)).trans ?_
    refine (zLet_eq (show _ = γ 1 from rfl)).trans ?_
    refine (zLet_eq (show _ = ρ 0 from rfl)).trans ?_
    refine (zLet_eq (show _ = ρ 19 from rfl)).trans ?_
    refine (zLet_eq (show _ = ρ 20 from rfl)).trans ?_
    refine (zLet_eq (show _ = ρ 21 from rfl)).trans ?_
    refine (zLet_eq m1).trans ?_
    refine (zLet_eq m5).trans ?_
    refine (zLet_eq m6).trans ?_
    refine (zLet_eq m7).trans ?_
    refine (zLet_eq m10).trans ?_
    refine (zLet_eq m11).trans ?_
    refine (zLet_eq m17).trans ?_
    refine (if_neg w_0).trans ?_
    refine (zLet_eq (show fn7 [] (γ 1) = (0, 0, γ 2) from l0.symm)).trans ?_
    refine (zLet_eq (show _ = γ 2 from rfl)).trans ?_
    refine (zLet_eq m27).trans ?_
    refine (if_pos w_1).trans ?_
    refine (zLet_eq (show fn20 [1] (γ 2) = (0, 1, γ 3) from l1.symm)).trans ?_
    refine (zLet_eq (show _ = γ 3 from rfl)).trans ?_
    refine (if_pos zQ1_).trans ?_
    refine (zLet_eq m32).trans ?_
    refine (zLet_eq m33).trans ?_
    refine (zLet_eq c4.symm).trans ?_
    refine (zLet_eq c5.symm).trans ?_
    refine (if_neg w_2).trans ?_
    refine (if_neg w_3).trans ?_
    refine (zLet_eq (show fn25 [ρ 30, ρ 35, 1] (γ 5) = (0, 0, γ 6) from l2.symm)).trans ?_
    refine (zLet_eq (show _ = γ 6 from rfl)).trans ?_
    refine (zLet_eq (zF2_ok l3)).trans ?_
    refine (zLet_eq (zF2_ok l4)).trans ?_
    refine (zLet_eq (show fn7 [] (γ 6) = (0, 0, γ 7) from l5.symm)).trans ?_
    refine (zLet_eq (show _ = γ 7 from rfl)).trans ?_
    refine (zLet_eq m38).trans ?_
    refine (zLet_eq (show fn6 [ρ 41] (γ 7) = (0, ρ 42, γ 8) from l6.symm)).trans ?_
    refine (zLet_eq (show _ = γ 8 from rfl)).trans ?_
    refine (if_pos w_4).trans ?_
    refine (zLet_eq (show _ = ρ 42 from rfl)).trans ?_
    refine (if_pos wl_0).trans ?_
    rfl
  exact zGoo_ato hJ hD
theorem vn41a0_17 {S : Nat → zSpc} (hS6 : ∀ x g o v gz, S 6 x g o v gz → sn6 x g o v gz) (hS7 : ∀ x g o v gz, S 7 x g o v gz → sn7 x g o v gz) (hS8 : ∀ x g o v gz, S 8 x g o v gz → sn8 x g o v gz) (hS20 : ∀ x g o v gz, S 20 x g o v gz → sn20 x g o v gz) (hS21 : ∀ x g o v gz, S 21 x g o v gz → sn21 x g o v gz) (hS24 : ∀ x g o v gz, S 24 x g o v gz → sn24 x g o v gz) (hS25 : ∀ x g o v gz, S 25 x g o v gz → sn25 x g o v gz) (hS33 : ∀ x g o v gz, S 33 x g o v gz → sn33 x g o v gz) (hS39 : ∀ x g o v gz, S 39 x g o v gz → sn39 x g o v gz) {a : List Int} {g : rHp} : ∀ (ρ : Nat → Int) (γ : Nat → rHp), jn41 a g 0 (zAg (zNA a41_ 0) ρ) (γ 1) → zO 19 S a g q41a0_17 ρ γ → zGl (fun i vs g1 => jn41 a g i vs g1) (sn41 a g) q41a0_17 ρ γ := by
  intro ρ γ hJ h
  obtain ⟨ha, hg, hr, hf, hm, hc, hl⟩ := h
  have ha : a = [ρ 0, ρ 1, ρ 2, ρ 3, ρ 4, ρ 5, ρ 6, ρ 7, ρ 8, ρ 9, ρ 10, ρ 11, ρ 12, ρ 13, ρ 14, ρ 15, ρ 16, ρ 17, ρ 18] := ha
  subst ha
  subst hg
  have hJ : jn41 [ρ 0, ρ 1, ρ 2, ρ 3, ρ 4, ρ 5, ρ 6, ρ 7, ρ 8, ρ 9, ρ 10, ρ 11, ρ 12, ρ 13, ρ 14, ρ 15, ρ 16, ρ 17, ρ 18] (γ 0) 0 [ρ 0, ρ 1, ρ 2, ρ 3, ρ 4, ρ 5, ρ 6, ρ 7, ρ 8, ρ 9, ρ 10, ρ 11, ρ 12, ρ 13, ρ 14, ρ 15, ρ 16, ρ 17, ρ 18, ρ 19, ρ 20, ρ 21, ρ 22, ρ 23, ρ 24, ρ 25, ρ 26, ρ 27, ρ 28, ρ 29] (γ 1) := hJ
  obtain ⟨r0, -, -, -, -, -, -, -, -, -, -, -, -, -, -, -, -, -, -, r19, -, r21, -, -, -, -, -, -, -, -, -, -, -, -, -, -, r36, -, -, -, -, -, r42, -⟩ := hr
  have r0 : (1 : Int) ≤ ρ 0 ∧ ρ 0 ≤ 1 := r0
  have r19 : (1 : Int) ≤ ρ 19 ∧ ρ 19 ≤ 1 := r19
  have r21 : (0 : Int) ≤ ρ 21 ∧ ρ 21 ≤ 3 := r21
  have r36 : (1 : Int) ≤ ρ 36 ∧ ρ 36 ≤ 1 := r36
  have r42 : (44 : Int) ≤ ρ 42 ∧ ρ 42 ≤ 44 := r42
  obtain ⟨f0, -⟩ := hf
  have f0 : (0 : Int) ≤ -ρ 41 + ρ 2 + (-1) := f0
  obtain ⟨w_0, w_1, w_2, w_3, w_4, w_5⟩ : (¬ (ρ 19 = 0)) ∧ (ρ 21 ≠ 4) ∧ (¬ (ρ 36 ≠ 1)) ∧ (¬ (ρ 0 = 0)) ∧ (0 ≤ -ρ 41 + ρ 2 + (-1)) ∧ (¬ (ρ 42 ≠ 44)) := ⟨by omega, by omega, by omega, by omega, by omega, by omega⟩
  obtain ⟨-, m1, -, -, -, m5, m6, m7, -, -, m10, m11, -, -, -, -, -, m17, -, -, -, -, -, -, -, -, -, m27, -, -, -, -, m32, m33, -, -, -, -, m38, -⟩ := hm
  have m1 : γ 0 15 0 34 = ρ 2 := m1
  have m5 : γ 0 15 0 37 = ρ 6 := m5
  have m6 : γ 0 15 0 38 = ρ 7 := m6
  have m7 : γ 0 15 0 14 = ρ 8 := m7
  have m10 : γ 0 15 0 44 = ρ 11 := m10
  have m11 : γ 0 73 0 (ρ 11) = ρ 12 := m11
  have m17 : γ 0 15 0 45 = ρ 18 := m17
  have m27 : γ 2 15 0 35 = ρ 30 := m27
  have m32 : γ 3 15 0 39 = ρ 35 := m32
  have m33 : γ 3 15 0 40 = ρ 36 := m33
  have m38 : γ 7 15 0 35 = ρ 41 := m38
  obtain ⟨⟨⟨⟨⟨⟨-, c4⟩, c5⟩, -⟩, -⟩, -⟩, c9⟩ := hc
  have c4 : γ 4 = rUp (γ 3) 80 0 (ρ 21 + (4 * ρ 12 + 32 * ρ 11)) (ρ 36) := c4
  have c5 : γ 5 = rUp (γ 4) 81 0 (ρ 21 + (4 * ρ 12 + 32 * ρ 11)) (ρ 35) := c5
  have c9 : γ 9 = rUp (γ 8) 15 0 35 (ρ 41 + 1) := c9
  obtain ⟨l0, l1, l2, l3, l4, l5, l6, -⟩ := hl
  have l0 : sn7 [ρ 22, ρ 2] (γ 1) 0 0 (γ 2) := hS7 _ _ _ _ _ l0
  have l1 : sn20 [1, ρ 30, ρ 2, ρ 23, ρ 24, ρ 31, ρ 28, ρ 16, ρ 26, ρ 27, ρ 11] (γ 2) 0 1 (γ 3) := hS20 _ _ _ _ _ l1
  have l2 : sn25 [ρ 30, ρ 35, 1, ρ 25, ρ 18] (γ 5) 0 0 (γ 6) := hS25 _ _ _ _ _ l2
  have l3 : zOpP (.ishl) (γ 0) (γ 1) [1, ρ 35] (ρ 39) := l3
  have l4 : zOpP (.ior) (γ 0) (γ 1) [ρ 20, ρ 39] (ρ 40) := l4
  have l5 : sn7 [ρ 32, ρ 2] (γ 6) 0 0 (γ 7) := hS7 _ _ _ _ _ l5
  have l6 : sn6 [ρ 41, ρ 2] (γ 7) 0 (ρ 42) (γ 8) := hS6 _ _ _ _ _ l6
  show jn41 [ρ 0, ρ 1, ρ 2, ρ 3, ρ 4, ρ 5, ρ 6, ρ 7, ρ 8, ρ 9, ρ 10, ρ 11, ρ 12, ρ 13, ρ 14, ρ 15, ρ 16, ρ 17, ρ 18] (γ 0) 0 [ρ 0, ρ 1, ρ 2, ρ 3, ρ 4, ρ 5, ρ 6, ρ 7, ρ 8, ρ 9, ρ 10, ρ 11, ρ 12, ρ 13, ρ 14, ρ 15, ρ 16, ρ 17, ρ 18, 1, ρ 40, ρ 21 + 1, ρ 41 + 1, ρ 33, ρ 34, ρ 25 + 1, ρ 37, ρ 38, ρ 36, ρ 43] (γ 9)
  have hD : en41 (γ 0) (0, [ρ 0, ρ 19, ρ 20, ρ 21], γ 1) = .inl (0, [ρ 0, 1, ρ 40, ρ 21 + 1], γ 9) := by
    unfold en41
    refine (if_pos (show (0 : Nat) = 0 by decide)).trans ?_
    refine (zLet_eq (show _ = γ 1 from rfl)).trans ?_
    refine (zLet_eq (show _ = ρ 0 from rfl)).trans ?_
    refine (zLet_eq (show _ = ρ 19 from rfl)).trans ?_
    refine (zLet_eq (show _ = ρ 20 from rfl)).trans ?_
    refine (zLet_eq (show _ = ρ 21 from rfl)).trans ?_
    refine (zLet_eq m1).trans ?_
    refine (zLet_eq m5).trans ?_
    refine (zLet_eq m6).trans ?_
    refine (zLet_eq m7).trans ?_
    refine (zLet_eq m10).trans ?_
    refine (zLet_eq m11).trans ?_
    refine (zLet_eq m17).trans ?_
    refine (if_neg w_0).trans ?_
    refine (zLet_eq (show fn7 [] (γ 1) = (0, 0, γ 2) from l0.symm)).trans ?_
    refine (zLet_eq (show _ = γ 2 from rfl)).trans ?_
    refine (zLet_eq m27).trans ?_
    refine (if_pos w_1).trans ?_
    refine (zLet_eq (show fn20 [1] (γ 2) = (0, 1, γ 3) from l1.symm)).trans ?_
    refine (zLet_eq (show _ = γ 3 from rfl)).trans ?_
    refine (if_pos zQ1_).trans ?_
    refine (zLet_eq m32).trans ?_
    refine (zLet_eq m33).trans ?_
    refine (zLet_eq c4.symm).trans ?_
    refine (zLet_eq c5.symm).trans ?_
    refine (if_neg w_2).trans ?_
    refine (if_neg w_3).trans ?_
    refine (zLet_eq (show fn25 [ρ 30, ρ 35, 1] (γ 5) = (0, 0, γ 6) from l2.symm)).trans ?_
    refine (zLet_eq (show _ = γ 6 from rfl)).trans ?_
    refine (zLet_eq (zF2_ok l3)).trans ?_
    refine (zLet_eq (zF2_ok l4)).trans ?_
    refine (zLet_eq (show fn7 [] (γ 6) = (0, 0, γ 7) from l5.symm)).trans ?_
    refine (zLet_eq (show _ = γ 7 from rfl)).trans ?_
    refine (zLet_eq m38).trans ?_
    refine (zLet_eq (show fn6 [ρ 41] (γ 7) = (0, ρ 42, γ 8) from l6.symm)).trans ?_
    refine (zLet_eq (show _ = γ 8 from rfl)).trans ?_
    refine (if_pos w_4).trans ?_
    refine (zLet_eq (show _ = ρ 42 from rfl)).trans ?_
    refine (if_neg w_5).trans ?_
    refine (zLet_eq c9.symm).trans ?_
    rfl
  exact zGoo_ato hJ hD
theorem vn41a0_18 {S : Nat → zSpc} (hS6 : ∀ x g o v gz, S 6 x g o v gz → sn6 x g o v gz) (hS7 : ∀ x g o v gz, S 7 x g o v gz → sn7 x g o v gz) (hS8 : ∀ x g o v gz, S 8 x g o v gz → sn8 x g o v gz) (hS20 : ∀ x g o v gz, S 20 x g o v gz → sn20 x g o v gz) (hS21 : ∀ x g o v gz, S 21 x g o v gz → sn21 x g o v gz) (hS24 : ∀ x g o v gz, S 24 x g o v gz → sn24 x g o v gz) (hS25 : ∀ x g o v gz, S 25 x g o v gz → sn25 x g o v gz) (hS33 : ∀ x g o v gz, S 33 x g o v gz → sn33 x g o v gz) (hS39 : ∀ x g o v gz, S 39 x g o v gz → sn39 x g o v gz) {a : List Int} {g : rHp} : ∀ (ρ : Nat → Int) (γ : Nat → rHp), jn41 a g 0 (zAg (zNA a41_ 0) ρ) (γ 1) → zO 19 S a g q41a0_18 ρ γ → zGl (fun i vs g1 => jn41 a g i vs g1) (sn41 a g) q41a0_18 ρ γ := by
  intro ρ γ hJ h
  obtain ⟨ha, hg, hr, hf, hm, hc, hl⟩ := h
  have ha : a = [ρ 0, ρ 1, ρ 2, ρ 3, ρ 4, ρ 5, ρ 6, ρ 7, ρ 8, ρ 9, ρ 10, ρ 11, ρ 12, ρ 13, ρ 14, ρ 15, ρ 16, ρ 17, ρ 18] := ha
  subst ha
  subst hg
  have hJ : jn41 [ρ 0, ρ 1, ρ 2, ρ 3, ρ 4, ρ 5, ρ 6, ρ 7, ρ 8, ρ 9, ρ 10, ρ 11, ρ 12, ρ 13, ρ 14, ρ 15, ρ 16, ρ 17, ρ 18] (γ 0) 0 [ρ 0, ρ 1, ρ 2, ρ 3, ρ 4, ρ 5, ρ 6, ρ 7, ρ 8, ρ 9, ρ 10, ρ 11, ρ 12, ρ 13, ρ 14, ρ 15, ρ 16, ρ 17, ρ 18, ρ 19, ρ 20, ρ 21, ρ 22, ρ 23, ρ 24, ρ 25, ρ 26, ρ 27, ρ 28, ρ 29] (γ 1) := hJ
  obtain ⟨r0, -, -, -, -, -, -, -, -, -, -, -, -, -, -, -, -, -, -, r19, -, r21, -, -, -, -, -, -, -, -, -, -, -, -, -, -, r36, -⟩ := hr
  have r0 : (1 : Int) ≤ ρ 0 ∧ ρ 0 ≤ 1 := r0
  have r19 : (1 : Int) ≤ ρ 19 ∧ ρ 19 ≤ 1 := r19
  have r21 : (0 : Int) ≤ ρ 21 ∧ ρ 21 ≤ 3 := r21
  have r36 : (1 : Int) ≤ ρ 36 ∧ ρ 36 ≤ 1 := r36
  obtain ⟨f0, -⟩ := hf
  have f0 : (0 : Int) ≤ ρ 41 + -ρ 2 := f0
  obtain ⟨w_0, w_1, w_2, w_3, w_4⟩ : (¬ (ρ 19 = 0)) ∧ (ρ 21 ≠ 4) ∧ (¬ (ρ 36 ≠ 1)) ∧ (¬ (ρ 0 = 0)) ∧ (¬ (0 ≤ -ρ 41 + ρ 2 + (-1))) := ⟨by omega, by omega, by omega, by omega, by omega⟩
  obtain ⟨-, m1, -, -, -, m5, m6, m7, -, -, m10, m11, -, -, -, -, -, m17, -, -, -, -, -, -, -, -, -, m27, -, -, -, -, m32, m33, -, -, -, -, m38, -⟩ := hm
  have m1 : γ 0 15 0 34 = ρ 2 := m1
  have m5 : γ 0 15 0 37 = ρ 6 := m5
  have m6 : γ 0 15 0 38 = ρ 7 := m6
  have m7 : γ 0 15 0 14 = ρ 8 := m7
  have m10 : γ 0 15 0 44 = ρ 11 := m10
  have m11 : γ 0 73 0 (ρ 11) = ρ 12 := m11
  have m17 : γ 0 15 0 45 = ρ 18 := m17
  have m27 : γ 2 15 0 35 = ρ 30 := m27
  have m32 : γ 3 15 0 39 = ρ 35 := m32
  have m33 : γ 3 15 0 40 = ρ 36 := m33
  have m38 : γ 7 15 0 35 = ρ 41 := m38
  obtain ⟨⟨⟨⟨⟨-, c4⟩, c5⟩, -⟩, -⟩, -⟩ := hc
  have c4 : γ 4 = rUp (γ 3) 80 0 (ρ 21 + (4 * ρ 12 + 32 * ρ 11)) (ρ 36) := c4
  have c5 : γ 5 = rUp (γ 4) 81 0 (ρ 21 + (4 * ρ 12 + 32 * ρ 11)) (ρ 35) := c5
  obtain ⟨l0, l1, l2, l3, l4, l5, l6, -⟩ := hl
  have l0 : sn7 [ρ 22, ρ 2] (γ 1) 0 0 (γ 2) := hS7 _ _ _ _ _ l0
  have l1 : sn20 [1, ρ 30, ρ 2, ρ 23, ρ 24, ρ 31, ρ 28, ρ 16, ρ 26, ρ 27, ρ 11] (γ 2) 0 1 (γ 3) := hS20 _ _ _ _ _ l1
  have l2 : sn25 [ρ 30, ρ 35, 1, ρ 25, ρ 18] (γ 5) 0 0 (γ 6) := hS25 _ _ _ _ _ l2
  have l3 : zOpP (.ishl) (γ 0) (γ 1) [1, ρ 35] (ρ 39) := l3
  have l4 : zOpP (.ior) (γ 0) (γ 1) [ρ 20, ρ 39] (ρ 40) := l4
  have l5 : sn7 [ρ 32, ρ 2] (γ 6) 0 0 (γ 7) := hS7 _ _ _ _ _ l5
  have l6 : sn6 [ρ 41, ρ 2] (γ 7) 0 (-1) (γ 8) := hS6 _ _ _ _ _ l6
  show jn41 [ρ 0, ρ 1, ρ 2, ρ 3, ρ 4, ρ 5, ρ 6, ρ 7, ρ 8, ρ 9, ρ 10, ρ 11, ρ 12, ρ 13, ρ 14, ρ 15, ρ 16, ρ 17, ρ 18] (γ 0) 0 [ρ 0, ρ 1, ρ 2, ρ 3, ρ 4, ρ 5, ρ 6, ρ 7, ρ 8, ρ 9, ρ 10, ρ 11, ρ 12, ρ 13, ρ 14, ρ 15, ρ 16, ρ 17, ρ 18, 0, ρ 40, ρ 21 + 1, ρ 41, ρ 33, ρ 34, ρ 25 + 1, ρ 37, ρ 38, ρ 36, ρ 42] (γ 8)
  have hD : en41 (γ 0) (0, [ρ 0, ρ 19, ρ 20, ρ 21], γ 1) = .inl (0, [ρ 0, 0, ρ 40, ρ 21 + 1], γ 8) := by
    unfold en41
    refine (if_pos (show (0 : Nat) = 0 by decide)).trans ?_
    refine (zLet_eq (show _ = γ 1 from rfl)).trans ?_
    refine (zLet_eq (show _ = ρ 0 from rfl)).trans ?_
    refine (zLet_eq (show _ = ρ 19 from rfl)).trans ?_
    refine (zLet_eq (show _ = ρ 20 from rfl)).trans ?_
    refine (zLet_eq (show _ = ρ 21 from rfl)).trans ?_
    refine (zLet_eq m1).trans ?_
    refine (zLet_eq m5).trans ?_
    refine (zLet_eq m6).trans ?_
    refine (zLet_eq m7).trans ?_
    refine (zLet_eq m10).trans ?_
    refine (zLet_eq m11).trans ?_
    refine (zLet_eq m17).trans ?_
    refine (if_neg w_0).trans ?_
    refine (zLet_eq (show fn7 [] (γ 1) = (0, 0, γ 2) from l0.symm)).trans ?_
    refine (zLet_eq (show _ = γ 2 from rfl)).trans ?_
    refine (zLet_eq m27).trans ?_
    refine (if_pos w_1).trans ?_
    refine (zLet_eq (show fn20 [1] (γ 2) = (0, 1, γ 3) from l1.symm)).trans ?_
    refine (zLet_eq (show _ = γ 3 from rfl)).trans ?_
    refine (if_pos zQ1_).trans ?_
    refine (zLet_eq m32).trans ?_
    refine (zLet_eq m33).trans ?_
    refine (zLet_eq c4.symm).trans ?_
    refine (zLet_eq c5.symm).trans ?_
    refine (if_neg w_2).trans ?_
    refine (if_neg w_3).trans ?_
    refine (zLet_eq (show fn25 [ρ 30, ρ 35, 1] (γ 5) = (0, 0, γ 6) from l2.symm)).trans ?_
    refine (zLet_eq (show _ = γ 6 from rfl)).trans ?_
    refine (zLet_eq (zF2_ok l3)).trans ?_
    refine (zLet_eq (zF2_ok l4)).trans ?_
    refine (zLet_eq (show fn7 [] (γ 6) = (0, 0, γ 7) from l5.symm)).trans ?_
    refine (zLet_eq (show _ = γ 7 from rfl)).trans ?_
    refine (zLet_eq m38).trans ?_
    refine (zLet_eq (show fn6 [ρ 41] (γ 7) = (0, (-1), γ 8) from l6.symm)).trans ?_
    refine (zLet_eq (show _ = γ 8 from rfl)).trans ?_
    refine (if_neg w_4).trans ?_
    rfl
  exact zGoo_ato hJ hD
theorem vn41a0_19 {S : Nat → zSpc} (hS6 : ∀ x g o v gz, S 6 x g o v gz → sn6 x g o v gz) (hS7 : ∀ x g o v gz, S 7 x g o v gz → sn7 x g o v gz) (hS8 : ∀ x g o v gz, S 8 x g o v gz → sn8 x g o v gz) (hS20 : ∀ x g o v gz, S 20 x g o v gz → sn20 x g o v gz) (hS21 : ∀ x g o v gz, S 21 x g o v gz → sn21 x g o v gz) (hS24 : ∀ x g o v gz, S 24 x g o v gz → sn24 x g o v gz) (hS25 : ∀ x g o v gz, S 25 x g o v gz → sn25 x g o v gz) (hS33 : ∀ x g o v gz, S 33 x g o v gz → sn33 x g o v gz) (hS39 : ∀ x g o v gz, S 39 x g o v gz → sn39 x g o v gz) {a : List Int} {g : rHp} : ∀ (ρ : Nat → Int) (γ : Nat → rHp), jn41 a g 0 (zAg (zNA a41_ 0) ρ) (γ 1) → zO 19 S a g q41a0_19 ρ γ → zGl (fun i vs g1 => jn41 a g i vs g1) (sn41 a g) q41a0_19 ρ γ := by
  intro ρ γ hJ h
  obtain ⟨ha, hg, hr, hf, hm, hc, hl⟩ := h
  have ha : a = [ρ 0, ρ 1, ρ 2, ρ 3, ρ 4, ρ 5, ρ 6, ρ 7, ρ 8, ρ 9, ρ 10, ρ 11, ρ 12, ρ 13, ρ 14, ρ 15, ρ 16, ρ 17, ρ 18] := ha
  subst ha
  subst hg
  have hJ : jn41 [ρ 0, ρ 1, ρ 2, ρ 3, ρ 4, ρ 5, ρ 6, ρ 7, ρ 8, ρ 9, ρ 10, ρ 11, ρ 12, ρ 13, ρ 14, ρ 15, ρ 16, ρ 17, ρ 18] (γ 0) 0 [ρ 0, ρ 1, ρ 2, ρ 3, ρ 4, ρ 5, ρ 6, ρ 7, ρ 8, ρ 9, ρ 10, ρ 11, ρ 12, ρ 13, ρ 14, ρ 15, ρ 16, ρ 17, ρ 18, ρ 19, ρ 20, ρ 21, ρ 22, ρ 23, ρ 24, ρ 25, ρ 26, ρ 27, ρ 28, ρ 29] (γ 1) := hJ
  obtain ⟨-, -, -, -, -, -, -, -, -, -, -, -, -, -, -, -, -, -, -, r19, -, r21, -⟩ := hr
  have r19 : (1 : Int) ≤ ρ 19 ∧ ρ 19 ≤ 1 := r19
  have r21 : (4 : Int) ≤ ρ 21 ∧ ρ 21 ≤ 4 := r21
  obtain ⟨w_0, w_1⟩ : (¬ (ρ 19 = 0)) ∧ (¬ (ρ 21 ≠ 4)) := ⟨by omega, by omega⟩
  obtain ⟨-, m1, -, -, -, m5, m6, m7, -, -, m10, m11, -, -, -, -, -, m17, -, -, -, -, -, -, -, -, -, m27, -⟩ := hm
  have m1 : γ 0 15 0 34 = ρ 2 := m1
  have m5 : γ 0 15 0 37 = ρ 6 := m5
  have m6 : γ 0 15 0 38 = ρ 7 := m6
  have m7 : γ 0 15 0 14 = ρ 8 := m7
  have m10 : γ 0 15 0 44 = ρ 11 := m10
  have m11 : γ 0 73 0 (ρ 11) = ρ 12 := m11
  have m17 : γ 0 15 0 45 = ρ 18 := m17
  have m27 : γ 2 15 0 35 = ρ 30 := m27
  obtain ⟨l0, l1, -⟩ := hl
  have l0 : sn7 [ρ 22, ρ 2] (γ 1) 0 0 (γ 2) := hS7 _ _ _ _ _ l0
  have l1 : sn8 [ρ 30, ρ 2, ρ 16] (γ 2) 0 0 (γ 3) := hS8 _ _ _ _ _ l1
  show sn41 [ρ 0, ρ 1, ρ 2, ρ 3, ρ 4, ρ 5, ρ 6, ρ 7, ρ 8, ρ 9, ρ 10, ρ 11, ρ 12, ρ 13, ρ 14, ρ 15, ρ 16, ρ 17, ρ 18] (γ 0) 0 0 (γ 3)
  have hD : en41 (γ 0) (0, [ρ 0, ρ 19, ρ 20, ρ 21], γ 1) = .inr (0, 0, γ 3) := by
    unfold en41
    refine (if_pos (show (0 : Nat) = 0 by decide)).trans ?_
    refine (zLet_eq (show _ = γ 1 from rfl)).trans ?_
    refine (zLet_eq (show _ = ρ 0 from rfl)).trans ?_
    refine (zLet_eq (show _ = ρ 19 from rfl)).trans ?_
    refine (zLet_eq (show _ = ρ 20 from rfl)).trans ?_
    refine (zLet_eq (show _ = ρ 21 from rfl)).trans ?_
    refine (zLet_eq m1).trans ?_
    refine (zLet_eq m5).trans ?_
    refine (zLet_eq m6).trans ?_
    refine (zLet_eq m7).trans ?_
    refine (zLet_eq m10).trans ?_
    refine (zLet_eq m11).trans ?_
    refine (zLet_eq m17).trans ?_
    refine (if_neg w_0).trans ?_
    refine (zLet_eq (show fn7 [] (γ 1) = (0, 0, γ 2) from l0.symm)).trans ?_
    refine (zLet_eq (show _ = γ 2 from rfl)).trans ?_
    refine (zLet_eq m27).trans ?_
    refine (if_neg w_1).trans ?_
    refine (zLet_eq (show fn8 [ρ 30] (γ 2) = (0, 0, γ 3) from l1.symm)).trans ?_
    refine (zLet_eq (show _ = γ 3 from rfl)).trans ?_
    rfl
  exact zGoo_aend hJ hD
theorem yn41 {S : Nat → zSpc} (hS6 : ∀ x g o v gz, S 6 x g o v gz → sn6 x g o v gz) (hS7 : ∀ x g o v gz, S 7 x g o v gz → sn7 x g o v gz) (hS8 : ∀ x g o v gz, S 8 x g o v gz → sn8 x g o v gz) (hS20 : ∀ x g o v gz, S 20 x g o v gz → sn20 x g o v gz) (hS21 : ∀ x g o v gz, S 21 x g o v gz → sn21 x g o v gz) (hS24 : ∀ x g o v gz, S 24 x g o v gz → sn24 x g o v gz) (hS25 : ∀ x g o v gz, S 25 x g o v gz → sn25 x g o v gz) (hS33 : ∀ x g o v gz, S 33 x g o v gz → sn33 x g o v gz) (hS39 : ∀ x g o v gz, S 39 x g o v gz → sn39 x g o v gz) : ∀ x g o v gz, zSem uW uT w41_.2.2.2.1 w41_.2.2.1.1.length S q41 (fun i => q41a.getD i []) (zNA a41_) x g o v gz → sn41 x g o v gz := by
  intro a g o v gz h
  exact zSem_all (l0 := q41) (las := q41a) (S := S) (J := (fun i vs g1 => jn41 a g i vs g1)) (P := sn41 a g) (fun _ => (show zAll _ [q41_0] from (zAll_c (vn41_0 hS6 hS7 hS8 hS20 hS21 hS24 hS25 hS33 hS39) zAll_n))) (fun _ => (show zAllI _ 0 [q41a0] from ⟨(show zAll _ [q41a0_0, q41a0_1, q41a0_2, q41a0_3, q41a0_4, q41a0_5, q41a0_6, q41a0_7, q41a0_8, q41a0_9, q41a0_10, q41a0_11, q41a0_12, q41a0_13, q41a0_14, q41a0_15, q41a0_16, q41a0_17, q41a0_18, q41a0_19] from (zAll_c (vn41a0_0 hS6 hS7 hS8 hS20 hS21 hS24 hS25 hS33 hS39) (zAll_c (vn41a0_1 hS6 hS7 hS8 hS20 hS21 hS24 hS25 hS33 hS39) (zAll_c (vn41a0_2 hS6 hS7 hS8 hS20 hS21 hS24 hS25 hS33 hS39) (zAll_c (vn41a0_3 hS6 hS7 hS8 hS20 hS21 hS24 hS25 hS33 hS39) (zAll_c (vn41a0_4 hS6 hS7 hS8 hS20 hS21 hS24 hS25 hS33 hS39) (zAll_c (vn41a0_5 hS6 hS7 hS8 hS20 hS21 hS24 hS25 hS33 hS39) (zAll_c (vn41a0_6 hS6 hS7 hS8 hS20 hS21 hS24 hS25 hS33 hS39) (zAll_c (vn41a0_7 hS6 hS7 hS8 hS20 hS21 hS24 hS25 hS33 hS39) (zAll_c (vn41a0_8 hS6 hS7 hS8 hS20 hS21 hS24 hS25 hS33 hS39) (zAll_c (vn41a0_9 hS6 hS7 hS8 hS20 hS21 hS24 hS25 hS33 hS39) (zAll_c (vn41a0_10 hS6 hS7 hS8 hS20 hS21 hS24 hS25 hS33 hS39) (zAll_c (vn41a0_11 hS6 hS7 hS8 hS20 hS21 hS24 hS25 hS33 hS39) (zAll_c (vn41a0_12 hS6 hS7 hS8 hS20 hS21 hS24 hS25 hS33 hS39) (zAll_c (vn41a0_13 hS6 hS7 hS8 hS20 hS21 hS24 hS25 hS33 hS39) (zAll_c (vn41a0_14 hS6 hS7 hS8 hS20 hS21 hS24 hS25 hS33 hS39) (zAll_c (vn41a0_15 hS6 hS7 hS8 hS20 hS21 hS24 hS25 hS33 hS39) (zAll_c (vn41a0_16 hS6 hS7 hS8 hS20 hS21 hS24 hS25 hS33 hS39) (zAll_c (vn41a0_17 hS6 hS7 hS8 hS20 hS21 hS24 hS25 hS33 hS39) (zAll_c (vn41a0_18 hS6 hS7 hS8 hS20 hS21 hS24 hS25 hS33 hS39) (zAll_c (vn41a0_19 hS6 hS7 hS8 hS20 hS21 hS24 hS25 hS33 hS39) zAll_n))))))))))))))))))))), trivial⟩)) h
