/-! ===== the runs are the functions ===== -/
theorem vn36_0 {S : Nat → zSpc} (hS6 : ∀ x g o v gz, S 6 x g o v gz → sn6 x g o v gz) (hS7 : ∀ x g o v gz, S 7 x g o v gz → sn7 x g o v gz) (hS8 : ∀ x g o v gz, S 8 x g o v gz → sn8 x g o v gz) (hS20 : ∀ x g o v gz, S 20 x g o v gz → sn20 x g o v gz) (hS21 : ∀ x g o v gz, S 21 x g o v gz → sn21 x g o v gz) (hS22 : ∀ x g o v gz, S 22 x g o v gz → sn22 x g o v gz) (hS24 : ∀ x g o v gz, S 24 x g o v gz → sn24 x g o v gz) (hS25 : ∀ x g o v gz, S 25 x g o v gz → sn25 x g o v gz) (hS33 : ∀ x g o v gz, S 33 x g o v gz → sn33 x g o v gz) {a : List Int} {g : rHp} : ∀ (ρ : Nat → Int) (γ : Nat → rHp), zO 17 S a g q36_0 ρ γ → zGl (fun i vs g1 => jn36 a g i vs g1) (sn36 a g) q36_0 ρ γ := by
  intro ρ γ h
  obtain ⟨ha, hg, hr, hf, hm, hc, hl⟩ := h
  have ha : a = [ρ 0, ρ 1, ρ 2, ρ 3, ρ 4, ρ 5, ρ 6, ρ 7, ρ 8, ρ 9, ρ 10, ρ 11, ρ 12, ρ 13, ρ 14, ρ 15, ρ 16] := ha
  subst ha
  subst hg
  obtain ⟨m0, -⟩ := hm
  have m0 : γ 0 15 0 35 = ρ 2 := m0
  obtain ⟨-, c2⟩ := hc
  have c2 : γ 2 = rUp (γ 1) 15 0 35 (ρ 2 + 1) := c2
  obtain ⟨l0, -⟩ := hl
  have l0 : sn33 [ρ 9, ρ 10] (γ 0) 0 (ρ 10 + 8 * ρ 9) (γ 1) := hS33 _ _ _ _ _ l0
  show jn36 [ρ 0, ρ 1, ρ 2, ρ 3, ρ 4, ρ 5, ρ 6, ρ 7, ρ 8, ρ 9, ρ 10, ρ 11, ρ 12, ρ 13, ρ 14, ρ 15, ρ 16] (γ 0) 0 [ρ 0, ρ 1, ρ 2, ρ 3, ρ 4, ρ 5, ρ 6, ρ 7, ρ 8, ρ 9, ρ 10, ρ 11, ρ 12, ρ 13, ρ 14, ρ 15, ρ 16, 1, 0, 0, ρ 2 + 1, ρ 4, ρ 5, ρ 6, ρ 7, ρ 8, ρ 15, ρ 12] (γ 2)
  have hD : dn36 [ρ 0, ρ 1] (γ 0) = .inl (0, [ρ 0, ρ 1, 1, 0, 0], γ 2) := by
    unfold dn36
    refine (zLet_eq (show _ = ρ 0 from rfl)).trans ?_
    refine (zLet_eq (show _ = ρ 1 from rfl)).trans ?_
    refine (zLet_eq m0).trans ?_
    refine (zLet_eq (show fn33 [] (γ 0) = (0, ρ 10 + 8 * ρ 9, γ 1) from l0.symm)).trans ?_
    refine (zLet_eq (show _ = γ 1 from rfl)).trans ?_
    refine (zLet_eq c2.symm).trans ?_
    rfl
  exact zGoo_to hD
theorem vn36a0_0 {S : Nat → zSpc} (hS6 : ∀ x g o v gz, S 6 x g o v gz → sn6 x g o v gz) (hS7 : ∀ x g o v gz, S 7 x g o v gz → sn7 x g o v gz) (hS8 : ∀ x g o v gz, S 8 x g o v gz → sn8 x g o v gz) (hS20 : ∀ x g o v gz, S 20 x g o v gz → sn20 x g o v gz) (hS21 : ∀ x g o v gz, S 21 x g o v gz → sn21 x g o v gz) (hS22 : ∀ x g o v gz, S 22 x g o v gz → sn22 x g o v gz) (hS24 : ∀ x g o v gz, S 24 x g o v gz → sn24 x g o v gz) (hS25 : ∀ x g o v gz, S 25 x g o v gz → sn25 x g o v gz) (hS33 : ∀ x g o v gz, S 33 x g o v gz → sn33 x g o v gz) {a : List Int} {g : rHp} : ∀ (ρ : Nat → Int) (γ : Nat → rHp), jn36 a g 0 (zAg (zNA a36_ 0) ρ) (γ 1) → zO 17 S a g q36a0_0 ρ γ → zGl (fun i vs g1 => jn36 a g i vs g1) (sn36 a g) q36a0_0 ρ γ := by
  intro ρ γ hJ h
  obtain ⟨ha, hg, hr, hf, hm, hc, hl⟩ := h
  have ha : a = [ρ 0, ρ 1, ρ 2, ρ 3, ρ 4, ρ 5, ρ 6, ρ 7, ρ 8, ρ 9, ρ 10, ρ 11, ρ 12, ρ 13, ρ 14, ρ 15, ρ 16] := ha
  subst ha
  subst hg
  have hJ : jn36 [ρ 0, ρ 1, ρ 2, ρ 3, ρ 4, ρ 5, ρ 6, ρ 7, ρ 8, ρ 9, ρ 10, ρ 11, ρ 12, ρ 13, ρ 14, ρ 15, ρ 16] (γ 0) 0 [ρ 0, ρ 1, ρ 2, ρ 3, ρ 4, ρ 5, ρ 6, ρ 7, ρ 8, ρ 9, ρ 10, ρ 11, ρ 12, ρ 13, ρ 14, ρ 15, ρ 16, ρ 17, ρ 18, ρ 19, ρ 20, ρ 21, ρ 22, ρ 23, ρ 24, ρ 25, ρ 26, ρ 27] (γ 1) := hJ
  obtain ⟨-, -, -, -, -, -, -, -, -, -, -, -, -, -, -, -, -, r17, -⟩ := hr
  have r17 : (0 : Int) ≤ ρ 17 ∧ ρ 17 ≤ 0 := r17
  have w_0 : ρ 17 = 0 := by omega
  obtain ⟨-, m1, -, -, -, m5, m6, m7, m8, -, -, m11, -, -, m14, -⟩ := hm
  have m1 : γ 0 15 0 34 = ρ 3 := m1
  have m5 : γ 0 15 0 37 = ρ 7 := m5
  have m6 : γ 0 15 0 38 = ρ 8 := m6
  have m7 : γ 0 15 0 44 = ρ 9 := m7
  have m8 : γ 0 73 0 (ρ 9) = ρ 10 := m8
  have m11 : γ 0 15 0 14 = ρ 13 := m11
  have m14 : γ 0 15 0 45 = ρ 16 := m14
  obtain ⟨l0, -⟩ := hl
  have l0 : sn24 [41, ρ 20, ρ 3, ρ 14] (γ 1) 0 0 (γ 2) := hS24 _ _ _ _ _ l0
  show sn36 [ρ 0, ρ 1, ρ 2, ρ 3, ρ 4, ρ 5, ρ 6, ρ 7, ρ 8, ρ 9, ρ 10, ρ 11, ρ 12, ρ 13, ρ 14, ρ 15, ρ 16] (γ 0) 0 0 (γ 2)
  have hD : en36 (γ 0) (0, [ρ 0, ρ 1, ρ 17, ρ 18, ρ 19], γ 1) = .inr (0, 0, γ 2) := by
    unfold en36
    refine (if_pos (show (0 : Nat) = 0 by decide)).trans ?_
    refine (zLet_eq (show _ = γ 1 from rfl)).trans ?_
    refine (zLet_eq (show _ = ρ 0 from rfl)).trans ?_
    refine (zLet_eq (show _ = ρ 1 from rfl)).trans ?_
    refine (zLet_eq (show _ = ρ 17 from rfl)).trans ?_
    refine (zLet_eq (show _ = ρ 18 from rfl)).trans ?_
    refine (zLet_eq (show _ = ρ 19 from rfl)).trans ?_
    refine (zLet_eq m1).trans ?_
    refine (zLet_eq m5).trans ?_
    refine (zLet_eq m6).trans ?_
    refine (zLet_eq m7).trans ?_
    refine (zLet_eq m8).trans ?_
    refine (zLet_eq m11).trans ?_
    refine (zLet_eq m14).trans ?_
    refine (if_pos w_0).trans ?_
    refine (zLet_eq (show fn24 [41] (γ 1) = (0, 0, γ 2) from l0.symm)).trans ?_
    refine (zLet_eq (show _ = γ 2 from rfl)).trans ?_
    refine (if_neg zQ0_).trans ?_
    rfl
  exact zGoo_aend hJ hD
theorem vn36a0_1 {S : Nat → zSpc} (hS6 : ∀ x g o v gz, S 6 x g o v gz → sn6 x g o v gz) (hS7 : ∀ x g o v gz, S 7 x g o v gz → sn7 x g o v gz) (hS8 : ∀ x g o v gz, S 8 x g o v gz → sn8 x g o v gz) (hS20 : ∀ x g o v gz, S 20 x g o v gz → sn20 x g o v gz) (hS21 : ∀ x g o v gz, S 21 x g o v gz → sn21 x g o v gz) (hS22 : ∀ x g o v gz, S 22 x g o v gz → sn22 x g o v gz) (hS24 : ∀ x g o v gz, S 24 x g o v gz → sn24 x g o v gz) (hS25 : ∀ x g o v gz, S 25 x g o v gz → sn25 x g o v gz) (hS33 : ∀ x g o v gz, S 33 x g o v gz → sn33 x g o v gz) {a : List Int} {g : rHp} : ∀ (ρ : Nat → Int) (γ : Nat → rHp), jn36 a g 0 (zAg (zNA a36_ 0) ρ) (γ 1) → zO 17 S a g q36a0_1 ρ γ → zGl (fun i vs g1 => jn36 a g i vs g1) (sn36 a g) q36a0_1 ρ γ := by
  intro ρ γ hJ h
  obtain ⟨ha, hg, hr, hf, hm, hc, hl⟩ := h
  have ha : a = [ρ 0, ρ 1, ρ 2, ρ 3, ρ 4, ρ 5, ρ 6, ρ 7, ρ 8, ρ 9, ρ 10, ρ 11, ρ 12, ρ 13, ρ 14, ρ 15, ρ 16] := ha
  subst ha
  subst hg
  have hJ : jn36 [ρ 0, ρ 1, ρ 2, ρ 3, ρ 4, ρ 5, ρ 6, ρ 7, ρ 8, ρ 9, ρ 10, ρ 11, ρ 12, ρ 13, ρ 14, ρ 15, ρ 16] (γ 0) 0 [ρ 0, ρ 1, ρ 2, ρ 3, ρ 4, ρ 5, ρ 6, ρ 7, ρ 8, ρ 9, ρ 10, ρ 11, ρ 12, ρ 13, ρ 14, ρ 15, ρ 16, ρ 17, ρ 18, ρ 19, ρ 20, ρ 21, ρ 22, ρ 23, ρ 24, ρ 25, ρ 26, ρ 27] (γ 1) := hJ
  obtain ⟨r0, -, -, -, -, -, -, -, -, -, -, -, -, -, -, -, -, r17, -, -, -, -, -, -, -, -, -, -, -, r29, -⟩ := hr
  have r0 : (0 : Int) ≤ ρ 0 ∧ ρ 0 ≤ 0 := r0
  have r17 : (0 : Int) ≤ ρ 17 ∧ ρ 17 ≤ 0 := r17
  have r29 : (0 : Int) ≤ ρ 29 ∧ ρ 29 ≤ 19 := r29
  obtain ⟨w_0, w_1, w_2⟩ : (ρ 17 = 0) ∧ (ρ 29 ≥ 0) ∧ (ρ 0 = 0) := ⟨by omega, by omega, by omega⟩
  obtain ⟨-, m1, -, -, -, m5, m6, m7, m8, -, -, m11, -, -, m14, -⟩ := hm
  have m1 : γ 0 15 0 34 = ρ 3 := m1
  have m5 : γ 0 15 0 37 = ρ 7 := m5
  have m6 : γ 0 15 0 38 = ρ 8 := m6
  have m7 : γ 0 15 0 44 = ρ 9 := m7
  have m8 : γ 0 73 0 (ρ 9) = ρ 10 := m8
  have m11 : γ 0 15 0 14 = ρ 13 := m11
  have m14 : γ 0 15 0 45 = ρ 16 := m14
  obtain ⟨⟨⟨⟨-, c4⟩, c5⟩, c6⟩, c7⟩ := hc
  have c4 : γ 4 = rUp (γ 3) 77 0 (ρ 10 + 8 * ρ 9) 0 := c4
  have c5 : γ 5 = rUp (γ 4) 78 0 (ρ 10 + 8 * ρ 9) (ρ 29) := c5
  have c6 : γ 6 = rUp (γ 5) 79 0 (ρ 10 + 8 * ρ 9) (ρ 16) := c6
  have c7 : γ 7 = rUp (γ 6) 15 0 45 (ρ 30) := c7
  obtain ⟨l0, l1, l2, -⟩ := hl
  have l0 : sn24 [41, ρ 20, ρ 3, ρ 14] (γ 1) 0 1 (γ 2) := hS24 _ _ _ _ _ l0
  have l1 : sn21 [ρ 7, ρ 8, ρ 19, ρ 13] (γ 2) 0 (ρ 29) (γ 3) := hS21 _ _ _ _ _ l1
  have l2 : zOpP (.ior) (γ 0) (γ 1) [ρ 16, ρ 18] (ρ 30) := l2
  show sn36 [ρ 0, ρ 1, ρ 2, ρ 3, ρ 4, ρ 5, ρ 6, ρ 7, ρ 8, ρ 9, ρ 10, ρ 11, ρ 12, ρ 13, ρ 14, ρ 15, ρ 16] (γ 0) 0 1 (γ 7)
  have hD : en36 (γ 0) (0, [ρ 0, ρ 1, ρ 17, ρ 18, ρ 19], γ 1) = .inr (0, 1, γ 7) := by
    unfold en36
    refine (if_pos (show (0 : Nat) = 0 by decide)).trans ?_
    refine (zLet_eq (show _ = γ 1 from rfl)).trans ?_
    refine (zLet_eq (show _ = ρ 0 from rfl)).trans ?_
    refine (zLet_eq (show _ = ρ 1 from rfl)).trans ?_
    refine (zLet_eq (show _ = ρ 17 from rfl)).trans ?_
    refine (zLet_eq (show _ = ρ 18 from rfl)).trans ?_
    refine (zLet_eq (show _ = ρ 19 from rfl)).trans ?_
    refine (zLet_eq m1).trans ?_
    refine (zLet_eq m5).trans ?_
    refine (zLet_eq m6).trans ?_
    refine (zLet_eq m7).trans ?_
    refine (zLet_eq m8).trans ?_
    refine (zLet_eq m11).trans ?_
    refine (zLet_eq m14).trans ?_
    refine (if_pos w_0).trans ?_
    refine (zLet_eq (show fn24 [41] (γ 1) = (0, 1, γ 2) from l0.symm)).trans ?_
    refine (zLet_eq (show _ = γ 2 from rfl)).trans ?_
    refine (if_pos zQ1_).trans ?_
    refine (zLet_eq (show fn21 [ρ 7, ρ 8, ρ 19] (γ 2) = (0, ρ 29, γ 3) from l1.symm)).trans ?_
    refine (zLet_eq (show _ = γ 3 from rfl)).trans ?_
    refine (zLet_eq (show _ = ρ 29 from rfl)).trans ?_
    refine (if_pos w_1).trans ?_
    refine (if_pos w_2).trans ?_
    refine (zLet_eq c4.symm).trans ?_
    refine (zLet_eq c5.symm).trans ?_
    refine (zLet_eq c6.symm).trans ?_
    refine (zLet_eq (zF2_ok l2)).trans ?_
    refine (zLet_eq c7.symm).trans ?_
    rfl
  exact zGoo_aend hJ hD
theorem vn36a0_2 {S : Nat → zSpc} (hS6 : ∀ x g o v gz, S 6 x g o v gz → sn6 x g o v gz) (hS7 : ∀ x g o v gz, S 7 x g o v gz → sn7 x g o v gz) (hS8 : ∀ x g o v gz, S 8 x g o v gz → sn8 x g o v gz) (hS20 : ∀ x g o v gz, S 20 x g o v gz → sn20 x g o v gz) (hS21 : ∀ x g o v gz, S 21 x g o v gz → sn21 x g o v gz) (hS22 : ∀ x g o v gz, S 22 x g o v gz → sn22 x g o v gz) (hS24 : ∀ x g o v gz, S 24 x g o v gz → sn24 x g o v gz) (hS25 : ∀ x g o v gz, S 25 x g o v gz → sn25 x g o v gz) (hS33 : ∀ x g o v gz, S 33 x g o v gz → sn33 x g o v gz) {a : List Int} {g : rHp} : ∀ (ρ : Nat → Int) (γ : Nat → rHp), jn36 a g 0 (zAg (zNA a36_ 0) ρ) (γ 1) → zO 17 S a g q36a0_2 ρ γ → zGl (fun i vs g1 => jn36 a g i vs g1) (sn36 a g) q36a0_2 ρ γ := by
  intro ρ γ hJ h
  obtain ⟨ha, hg, hr, hf, hm, hc, hl⟩ := h
  have ha : a = [ρ 0, ρ 1, ρ 2, ρ 3, ρ 4, ρ 5, ρ 6, ρ 7, ρ 8, ρ 9, ρ 10, ρ 11, ρ 12, ρ 13, ρ 14, ρ 15, ρ 16] := ha
  subst ha
  subst hg
  have hJ : jn36 [ρ 0, ρ 1, ρ 2, ρ 3, ρ 4, ρ 5, ρ 6, ρ 7, ρ 8, ρ 9, ρ 10, ρ 11, ρ 12, ρ 13, ρ 14, ρ 15, ρ 16] (γ 0) 0 [ρ 0, ρ 1, ρ 2, ρ 3, ρ 4, ρ 5, ρ 6, ρ 7, ρ 8, ρ 9, ρ 10, ρ 11, ρ 12, ρ 13, ρ 14, ρ 15, ρ 16, ρ 17, ρ 18, ρ 19, ρ 20, ρ 21, ρ 22, ρ 23, ρ 24, ρ 25, ρ 26, ρ 27] (γ 1) := hJ
  obtain ⟨r0, -, -, -, -, -, -, -, -, -, -, -, -, -, -, -, -, r17, -, -, -, -, -, -, -, -, -, -, -, r29, -⟩ := hr
  have r0 : (1 : Int) ≤ ρ 0 ∧ ρ 0 ≤ 1 := r0
  have r17 : (0 : Int) ≤ ρ 17 ∧ ρ 17 ≤ 0 := r17
  have r29 : (0 : Int) ≤ ρ 29 ∧ ρ 29 ≤ 19 := r29
  obtain ⟨w_0, w_1, w_2⟩ : (ρ 17 = 0) ∧ (ρ 29 ≥ 0) ∧ (¬ (ρ 0 = 0)) := ⟨by omega, by omega, by omega⟩
  obtain ⟨-, m1, -, -, -, m5, m6, m7, m8, -, -, m11, -, -, m14, -⟩ := hm
  have m1 : γ 0 15 0 34 = ρ 3 := m1
  have m5 : γ 0 15 0 37 = ρ 7 := m5
  have m6 : γ 0 15 0 38 = ρ 8 := m6
  have m7 : γ 0 15 0 44 = ρ 9 := m7
  have m8 : γ 0 73 0 (ρ 9) = ρ 10 := m8
  have m11 : γ 0 15 0 14 = ρ 13 := m11
  have m14 : γ 0 15 0 45 = ρ 16 := m14
  obtain ⟨⟨⟨-, c4⟩, c5⟩, c6⟩ := hc
  have c4 : γ 4 = rUp (γ 3) 77 0 (ρ 10 + 8 * ρ 9) 1 := c4
  have c5 : γ 5 = rUp (γ 4) 78 0 (ρ 10 + 8 * ρ 9) (ρ 29) := c5
  have c6 : γ 6 = rUp (γ 5) 79 0 (ρ 10 + 8 * ρ 9) (ρ 16) := c6
  obtain ⟨l0, l1, -⟩ := hl
  have l0 : sn24 [41, ρ 20, ρ 3, ρ 14] (γ 1) 0 1 (γ 2) := hS24 _ _ _ _ _ l0
  have l1 : sn21 [ρ 7, ρ 8, ρ 19, ρ 13] (γ 2) 0 (ρ 29) (γ 3) := hS21 _ _ _ _ _ l1
  show sn36 [ρ 0, ρ 1, ρ 2, ρ 3, ρ 4, ρ 5, ρ 6, ρ 7, ρ 8, ρ 9, ρ 10, ρ 11, ρ 12, ρ 13, ρ 14, ρ 15, ρ 16] (γ 0) 0 1 (γ 6)
  have hD : en36 (γ 0) (0, [ρ 0, ρ 1, ρ 17, ρ 18, ρ 19], γ 1) = .inr (0, 1, γ 6) := by
    unfold en36
    refine (if_pos (show (0 : Nat) = 0 by decide)).trans ?_
    refine (zLet_eq (show _ = γ 1 from rfl)).trans ?_
    refine (zLet_eq (show _ = ρ 0 from rfl)).trans ?_
    refine (zLet_eq (show _ = ρ 1 from rfl)).trans ?_
    refine (zLet_eq (show _ = ρ 17 from rfl)).trans ?_
    refine (zLet_eq (show _ = ρ 18 from rfl)).trans ?_
    refine (zLet_eq (show _ = ρ 19 from rfl)).trans ?_
    refine (zLet_eq m1).trans ?_
    refine (zLet_eq m5).trans ?_
    refine (zLet_eq m6).trans ?_
    refine (zLet_eq m7).trans ?_
    refine (zLet_eq m8).trans ?_
    refine (zLet_eq m11).trans ?_
    refine (zLet_eq m14).trans ?_
    refine (if_pos w_0).trans ?_
    refine (zLet_eq (show fn24 [41] (γ 1) = (0, 1, γ 2) from l0.symm)).trans ?_
    refine (zLet_eq (show _ = γ 2 from rfl)).trans ?_
    refine (if_pos zQ1_).trans ?_
    refine (zLet_eq (show fn21 [ρ 7, ρ 8, ρ 19] (γ 2) = (0, ρ 29, γ 3) from l1.symm)).trans ?_
    refine (zLet_eq (show _ = γ 3 from rfl)).trans ?_
    refine (zLet_eq (show _ = ρ 29 from rfl)).trans ?_
    refine (if_pos w_1).trans ?_
    refine (if_neg w_2).trans ?_
    refine (zLet_eq c4.symm).trans ?_
    refine (zLet_eq c5.symm).trans ?_
    refine (zLet_eq c6.symm).trans ?_
    rfl
  exact zGoo_aend hJ hD
theorem vn36a0_3 {S : Nat → zSpc} (hS6 : ∀ x g o v gz, S 6 x g o v gz → sn6 x g o v gz) (hS7 : ∀ x g o v gz, S 7 x g o v gz → sn7 x g o v gz) (hS8 : ∀ x g o v gz, S 8 x g o v gz → sn8 x g o v gz) (hS20 : ∀ x g o v gz, S 20 x g o v gz → sn20 x g o v gz) (hS21 : ∀ x g o v gz, S 21 x g o v gz → sn21 x g o v gz) (hS22 : ∀ x g o v gz, S 22 x g o v gz → sn22 x g o v gz) (hS24 : ∀ x g o v gz, S 24 x g o v gz → sn24 x g o v gz) (hS25 : ∀ x g o v gz, S 25 x g o v gz → sn25 x g o v gz) (hS33 : ∀ x g o v gz, S 33 x g o v gz → sn33 x g o v gz) {a : List Int} {g : rHp} : ∀ (ρ : Nat → Int) (γ : Nat → rHp), jn36 a g 0 (zAg (zNA a36_ 0) ρ) (γ 1) → zO 17 S a g q36a0_3 ρ γ → zGl (fun i vs g1 => jn36 a g i vs g1) (sn36 a g) q36a0_3 ρ γ := by
  intro ρ γ hJ h
  obtain ⟨ha, hg, hr, hf, hm, hc, hl⟩ := h
  have ha : a = [ρ 0, ρ 1, ρ 2, ρ 3, ρ 4, ρ 5, ρ 6, ρ 7, ρ 8, ρ 9, ρ 10, ρ 11, ρ 12, ρ 13, ρ 14, ρ 15, ρ 16] := ha
  subst ha
  subst hg
  have hJ : jn36 [ρ 0, ρ 1, ρ 2, ρ 3, ρ 4, ρ 5, ρ 6, ρ 7, ρ 8, ρ 9, ρ 10, ρ 11, ρ 12, ρ 13, ρ 14, ρ 15, ρ 16] (γ 0) 0 [ρ 0, ρ 1, ρ 2, ρ 3, ρ 4, ρ 5, ρ 6, ρ 7, ρ 8, ρ 9, ρ 10, ρ 11, ρ 12, ρ 13, ρ 14, ρ 15, ρ 16, ρ 17, ρ 18, ρ 19, ρ 20, ρ 21, ρ 22, ρ 23, ρ 24, ρ 25, ρ 26, ρ 27] (γ 1) := hJ
  obtain ⟨-, r1, -, -, -, -, -, -, -, -, -, -, -, -, -, -, -, r17, -, -, -, -, -, -, -, -, -, -, -, r29, -⟩ := hr
  have r1 : (0 : Int) ≤ ρ 1 ∧ ρ 1 ≤ 0 := r1
  have r17 : (0 : Int) ≤ ρ 17 ∧ ρ 17 ≤ 0 := r17
  have r29 : ((-1) : Int) ≤ ρ 29 ∧ ρ 29 ≤ (-1) := r29
  obtain ⟨w_0, w_1, w_2⟩ : (ρ 17 = 0) ∧ (¬ (ρ 29 ≥ 0)) ∧ (ρ 1 = 0) := ⟨by omega, by omega, by omega⟩
  obtain ⟨-, m1, -, -, -, m5, m6, m7, m8, -, -, m11, -, -, m14, -⟩ := hm
  have m1 : γ 0 15 0 34 = ρ 3 := m1
  have m5 : γ 0 15 0 37 = ρ 7 := m5
  have m6 : γ 0 15 0 38 = ρ 8 := m6
  have m7 : γ 0 15 0 44 = ρ 9 := m7
  have m8 : γ 0 73 0 (ρ 9) = ρ 10 := m8
  have m11 : γ 0 15 0 14 = ρ 13 := m11
  have m14 : γ 0 15 0 45 = ρ 16 := m14
  obtain ⟨l0, l1, l2, -⟩ := hl
  have l0 : sn24 [41, ρ 20, ρ 3, ρ 14] (γ 1) 0 1 (γ 2) := hS24 _ _ _ _ _ l0
  have l1 : sn21 [ρ 7, ρ 8, ρ 19, ρ 13] (γ 2) 0 (ρ 29) (γ 3) := hS21 _ _ _ _ _ l1
  have l2 : sn8 [ρ 7, ρ 3, ρ 14] (γ 3) 0 0 (γ 4) := hS8 _ _ _ _ _ l2
  show sn36 [ρ 0, ρ 1, ρ 2, ρ 3, ρ 4, ρ 5, ρ 6, ρ 7, ρ 8, ρ 9, ρ 10, ρ 11, ρ 12, ρ 13, ρ 14, ρ 15, ρ 16] (γ 0) 0 0 (γ 4)
  have hD : en36 (γ 0) (0, [ρ 0, ρ 1, ρ 17, ρ 18, ρ 19], γ 1) = .inr (0, 0, γ 4) := by
    unfold en36
    refine (if_pos (show (0 : Nat) = 0 by decide)).trans ?_
    refine (zLet_eq (show _ = γ 1 from rfl)).trans ?_
    refine (zLet_eq (show _ = ρ 0 from rfl)).trans ?_
    refine (zLet_eq (show _ = ρ 1 from rfl)).trans ?_
    refine (zLet_eq (show _ = ρ 17 from rfl)).trans ?_
    refine (zLet_eq (show _ = ρ 18 from rfl)).trans ?_
    refine (zLet_eq (show _ = ρ 19 from rfl)).trans ?_
    refine (zLet_eq m1).trans ?_
    refine (zLet_eq m5).trans ?_
    refine (zLet_eq m6).trans ?_
    refine (zLet_eq m7).trans ?_
    refine (zLet_eq m8).trans ?_
    refine (zLet_eq m11).trans ?_
    refine (zLet_eq m14).trans ?_
    refine (if_pos w_0).trans ?_
    refine (zLet_eq (show fn24 [41] (γ 1) = (0, 1, γ 2) from l0.symm)).trans ?_
    refine (zLet_eq (show _ = γ 2 from rfl)).trans ?_
    refine (if_pos zQ1_).trans ?_
    refine (zLet_eq (show fn21 [ρ 7, ρ 8, ρ 19] (γ 2) = (0, ρ 29, γ 3) from l1.symm)).trans ?_
    refine (zLet_eq (show _ = γ 3 from rfl)).trans ?_
    refine (zLet_eq (show _ = ρ 29 from rfl)).trans ?_
    refine (if_neg w_1).trans ?_
    refine (if_pos w_2).trans ?_
    refine (zLet_eq (show fn8 [ρ 7] (γ 3) = (0, 0, γ 4) from l2.symm)).trans ?_
    refine (zLet_eq (show _ = γ 4 from rfl)).trans ?_
    rfl
  exact zGoo_aend hJ hD
theorem vn36a0_4 {S : Nat → zSpc} (hS6 : ∀ x g o v gz, S 6 x g o v gz → sn6 x g o v gz) (hS7 : ∀ x g o v gz, S 7 x g o v gz → sn7 x g o v gz) (hS8 : ∀ x g o v gz, S 8 x g o v gz → sn8 x g o v gz) (hS20 : ∀ x g o v gz, S 20 x g o v gz → sn20 x g o v gz) (hS21 : ∀ x g o v gz, S 21 x g o v gz → sn21 x g o v gz) (hS22 : ∀ x g o v gz, S 22 x g o v gz → sn22 x g o v gz) (hS24 : ∀ x g o v gz, S 24 x g o v gz → sn24 x g o v gz) (hS25 : ∀ x g o v gz, S 25 x g o v gz → sn25 x g o v gz) (hS33 : ∀ x g o v gz, S 33 x g o v gz → sn33 x g o v gz) {a : List Int} {g : rHp} : ∀ (ρ : Nat → Int) (γ : Nat → rHp), jn36 a g 0 (zAg (zNA a36_ 0) ρ) (γ 1) → zO 17 S a g q36a0_4 ρ γ → zGl (fun i vs g1 => jn36 a g i vs g1) (sn36 a g) q36a0_4 ρ γ := by
  intro ρ γ hJ h
  obtain ⟨ha, hg, hr, hf, hm, hc, hl⟩ := h
  have ha : a = [ρ 0, ρ 1, ρ 2, ρ 3, ρ 4, ρ 5, ρ 6, ρ 7, ρ 8, ρ 9, ρ 10, ρ 11, ρ 12, ρ 13, ρ 14, ρ 15, ρ 16] := ha
  subst ha
  subst hg
  have hJ : jn36 [ρ 0, ρ 1, ρ 2, ρ 3, ρ 4, ρ 5, ρ 6, ρ 7, ρ 8, ρ 9, ρ 10, ρ 11, ρ 12, ρ 13, ρ 14, ρ 15, ρ 16] (γ 0) 0 [ρ 0, ρ 1, ρ 2, ρ 3, ρ 4, ρ 5, ρ 6, ρ 7, ρ 8, ρ 9, ρ 10, ρ 11, ρ 12, ρ 13, ρ 14, ρ 15, ρ 16, ρ 17, ρ 18, ρ 19, ρ 20, ρ 21, ρ 22, ρ 23, ρ 24, ρ 25, ρ 26, ρ 27] (γ 1) := hJ
  obtain ⟨r0, r1, -, -, -, -, -, -, -, -, -, -, -, r13, -, -, -, r17, -, -, -, -, -, -, -, -, -, -, -, r29, -⟩ := hr
  have r0 : (0 : Int) ≤ ρ 0 ∧ ρ 0 ≤ 0 := r0
  have r1 : (1 : Int) ≤ ρ 1 ∧ ρ 1 ≤ 1 := r1
  have r13 : (0 : Int) ≤ ρ 13 ∧ ρ 13 ≤ 19 := r13
  have r17 : (0 : Int) ≤ ρ 17 ∧ ρ 17 ≤ 0 := r17
  have r29 : ((-1) : Int) ≤ ρ 29 ∧ ρ 29 ≤ (-1) := r29
  obtain ⟨w_0, w_1, w_2, w_3, w_4⟩ : (ρ 17 = 0) ∧ (¬ (ρ 29 ≥ 0)) ∧ (¬ (ρ 1 = 0)) ∧ (ρ 13 ≠ 20) ∧ (ρ 0 = 0) := ⟨by omega, by omega, by omega, by omega, by omega⟩
  obtain ⟨-, m1, -, -, -, m5, m6, m7, m8, -, -, m11, -, -, m14, -⟩ := hm
  have m1 : γ 0 15 0 34 = ρ 3 := m1
  have m5 : γ 0 15 0 37 = ρ 7 := m5
  have m6 : γ 0 15 0 38 = ρ 8 := m6
  have m7 : γ 0 15 0 44 = ρ 9 := m7
  have m8 : γ 0 73 0 (ρ 9) = ρ 10 := m8
  have m11 : γ 0 15 0 14 = ρ 13 := m11
  have m14 : γ 0 15 0 45 = ρ 16 := m14
  obtain ⟨⟨⟨⟨-, c5⟩, c6⟩, c7⟩, c8⟩ := hc
  have c5 : γ 5 = rUp (γ 4) 77 0 (ρ 10 + 8 * ρ 9) 0 := c5
  have c6 : γ 6 = rUp (γ 5) 78 0 (ρ 10 + 8 * ρ 9) (ρ 13) := c6
  have c7 : γ 7 = rUp (γ 6) 79 0 (ρ 10 + 8 * ρ 9) (ρ 16) := c7
  have c8 : γ 8 = rUp (γ 7) 15 0 45 (ρ 30) := c8
  obtain ⟨l0, l1, l2, l3, -⟩ := hl
  have l0 : sn24 [41, ρ 20, ρ 3, ρ 14] (γ 1) 0 1 (γ 2) := hS24 _ _ _ _ _ l0
  have l1 : sn21 [ρ 7, ρ 8, ρ 19, ρ 13] (γ 2) 0 (ρ 29) (γ 3) := hS21 _ _ _ _ _ l1
  have l2 : sn22 [ρ 7, ρ 8, ρ 19, ρ 13] (γ 3) 0 (ρ 13) (γ 4) := hS22 _ _ _ _ _ l2
  have l3 : zOpP (.ior) (γ 0) (γ 1) [ρ 16, ρ 18] (ρ 30) := l3
  show sn36 [ρ 0, ρ 1, ρ 2, ρ 3, ρ 4, ρ 5, ρ 6, ρ 7, ρ 8, ρ 9, ρ 10, ρ 11, ρ 12, ρ 13, ρ 14, ρ 15, ρ 16] (γ 0) 0 1 (γ 8)
  have hD : en36 (γ 0) (0, [ρ 0, ρ 1, ρ 17, ρ 18, ρ 19], γ 1) = .inr (0, 1, γ 8) := by
    unfold en36
    refine (if_pos (show (0 : Nat) = 0 by decide)).trans ?_
    refine (zLet_eq (show _ = γ 1 from rfl)).trans ?_
    refine (zLet_eq (show _ = ρ 0 from rfl)).trans ?_
    refine (zLet_eq (show _ = ρ 1 from rfl)).trans ?_
    refine (zLet_eq (show _ = ρ 17 from rfl)).trans ?_
    refine (zLet_eq (show _ = ρ 18 from rfl)).trans ?_
    refine (zLet_eq (show _ = ρ 19 from rfl)).trans ?_
    refine (zLet_eq m1).trans ?_
    refine (zLet_eq m5).trans ?_
    refine (zLet_eq m6).trans ?_
    refine (zLet_eq m7).trans ?_
    refine (zLet_eq m8).trans ?_
    refine (zLet_eq m11).trans ?_
    refine (zLet_eq m14).trans ?_
    refine (if_pos w_0).trans ?_
    refine (zLet_eq (show fn24 [41] (γ 1) = (0, 1, γ 2) from l0.symm)).trans ?_
    refine (zLet_eq (show _ = γ 2 from rfl)).trans ?_
    refine (if_pos zQ1_).trans ?_
    refine (zLet_eq (show fn21 [ρ 7, ρ 8, ρ 19] (γ 2) = (0, ρ 29, γ 3) from l1.symm)).trans ?_
    refine (zLet_eq (show _ = γ 3 from rfl)).trans ?_
    refine (zLet_eq (show _ = ρ 29 from rfl)).trans ?_
    refine (if_neg w_1).trans ?_
    refine (if_neg w_2).trans ?_
    refine (if_pos w_3).trans ?_
    refine (zLet_eq (show fn22 [ρ 7, ρ 8, ρ 19] (γ 3) = (0, ρ 13, γ 4) from l2.symm)).trans ?_
    refine (zLet_eq (show _ = γ 4 from rfl)).trans ?_
    refine (if_pos w_4).trans ?_
    refine (zLet_eq c5.symm).trans ?_
    refine (zLet_eq c6.symm).trans ?_
    refine (zLet_eq c7.symm).trans ?_
    refine (zLet_eq (zF2_ok l3)).trans ?_
    refine (zLet_eq c8.symm).trans ?_
    rfl
  exact zGoo_aend hJ hD
theorem vn36a0_5 {S : Nat → zSpc} (hS6 : ∀ x g o v gz, S 6 x g o v gz → sn6 x g o v gz) (hS7 : ∀ x g o v gz, S 7 x g o v gz → sn7 x g o v gz) (hS8 : ∀ x g o v gz, S 8 x g o v gz → sn8 x g o v gz) (hS20 : ∀ x g o v gz, S 20 x g o v gz → sn20 x g o v gz) (hS21 : ∀ x g o v gz, S 21 x g o v gz → sn21 x g o v gz) (hS22 : ∀ x g o v gz, S 22 x g o v gz → sn22 x g o v gz) (hS24 : ∀ x g o v gz, S 24 x g o v gz → sn24 x g o v gz) (hS25 : ∀ x g o v gz, S 25 x g o v gz → sn25 x g o v gz) (hS33 : ∀ x g o v gz, S 33 x g o v gz → sn33 x g o v gz) {a : List Int} {g : rHp} : ∀ (ρ : Nat → Int) (γ : Nat → rHp), jn36 a g 0 (zAg (zNA a36_ 0) ρ) (γ 1) → zO 17 S a g q36a0_5 ρ γ → zGl (fun i vs g1 => jn36 a g i vs g1) (sn36 a g) q36a0_5 ρ γ := by
  intro ρ γ hJ h
  obtain ⟨ha, hg, hr, hf, hm, hc, hl⟩ := h
  have ha : a = [ρ 0, ρ 1, ρ 2, ρ 3, ρ 4, ρ 5, ρ 6, ρ 7, ρ 8, ρ 9, ρ 10, ρ 11, ρ 12, ρ 13, ρ 14, ρ 15, ρ 16] := ha
  subst ha
  subst hg
  have hJ : jn36 [ρ 0, ρ 1, ρ 2, ρ 3, ρ 4, ρ 5, ρ 6, ρ 7, ρ 8, ρ 9, ρ 10, ρ 11, ρ 12, ρ 13, ρ 14, ρ 15, ρ 16] (γ 0) 0 [ρ 0, ρ 1, ρ 2, ρ 3, ρ 4, ρ 5, ρ 6, ρ 7, ρ 8, ρ 9, ρ 10, ρ 11, ρ 12, ρ 13, ρ 14, ρ 15, ρ 16, ρ 17, ρ 18, ρ 19, ρ 20, ρ 21, ρ 22, ρ 23, ρ 24, ρ 25, ρ 26, ρ 27] (γ 1) := hJ
  obtain ⟨r0, r1, -, -, -, -, -, -, -, -, -, -, -, r13, -, -, -, r17, -, -, -, -, -, -, -, -, -, -, -, r29, -⟩ := hr
  have r0 : (1 : Int) ≤ ρ 0 ∧ ρ 0 ≤ 1 := r0
  have r1 : (1 : Int) ≤ ρ 1 ∧ ρ 1 ≤ 1 := r1
  have r13 : (0 : Int) ≤ ρ 13 ∧ ρ 13 ≤ 19 := r13
  have r17 : (0 : Int) ≤ ρ 17 ∧ ρ 17 ≤ 0 := r17
  have r29 : ((-1) : Int) ≤ ρ 29 ∧ ρ 29 ≤ (-1) := r29
  obtain ⟨w_0, w_1, w_2, w_3, w_4⟩ : (ρ 17 = 0) ∧ (¬ (ρ 29 ≥ 0)) ∧ (¬ (ρ 1 = 0)) ∧ (ρ 13 ≠ 20) ∧ (¬ (ρ 0 = 0)) := ⟨by omega, by omega, by omega, by omega, by omega⟩
  obtain ⟨-, m1, -, -, -, m5, m6, m7, m8, -, -, m11, -, -, m14, -⟩ := hm
  have m1 : γ 0 15 0 34 = ρ 3 := m1
  have m5 : γ 0 15 0 37 = ρ 7 := m5
  have m6 : γ 0 15 0 38 = ρ 8 := m6
  have m7 : γ 0 15 0 44 = ρ 9 := m7
  have m8 : γ 0 73 0 (ρ 9) = ρ 10 := m8
  have m11 : γ 0 15 0 14 = ρ 13 := m11
  have m14 : γ 0 15 0 45 = ρ 16 := m14
  obtain ⟨⟨⟨-, c5⟩, c6⟩, c7⟩ := hc
  have c5 : γ 5 = rUp (γ 4) 77 0 (ρ 10 + 8 * ρ 9) 1 := c5
  have c6 : γ 6 = rUp (γ 5) 78 0 (ρ 10 + 8 * ρ 9) (ρ 13) := c6
  have c7 : γ 7 = rUp (γ 6) 79 0 (ρ 10 + 8 * ρ 9) (ρ 16) := c7
  obtain ⟨l0, l1, l2, -⟩ := hl
  have l0 : sn24 [41, ρ 20, ρ 3, ρ 14] (γ 1) 0 1 (γ 2) := hS24 _ _ _ _ _ l0
  have l1 : sn21 [ρ 7, ρ 8, ρ 19, ρ 13] (γ 2) 0 (ρ 29) (γ 3) := hS21 _ _ _ _ _ l1
  have l2 : sn22 [ρ 7, ρ 8, ρ 19, ρ 13] (γ 3) 0 (ρ 13) (γ 4) := hS22 _ _ _ _ _ l2
  show sn36 [ρ 0, ρ 1, ρ 2, ρ 3, ρ 4, ρ 5, ρ 6, ρ 7, ρ 8, ρ 9, ρ 10, ρ 11, ρ 12, ρ 13, ρ 14, ρ 15, ρ 16] (γ 0) 0 1 (γ 7)
  have hD : en36 (γ 0) (0, [ρ 0, ρ 1, ρ 17, ρ 18, ρ 19], γ 1) = .inr (0, 1, γ 7) := by
    unfold en36
    refine (if_pos (show (0 : Nat) = 0 by decide)).trans ?_
    refine (zLet_eq (show _ = γ 1 from rfl)).trans ?_
    refine (zLet_eq (show _ = ρ 0 from rfl)).trans ?_
    refine (zLet_eq (show _ = ρ 1 from rfl)).trans ?_
    refine (zLet_eq (show _ = ρ 17 from rfl)).trans ?_
    refine (zLet_eq (show _ = ρ 18 from rfl)).trans ?_
    refine (zLet_eq (show _ = ρ 19 from rfl)).trans ?_
    refine (zLet_eq m1).trans ?_
    refine (zLet_eq m5).trans ?_
    refine (zLet_eq m6).trans ?_
    refine (zLet_eq m7).trans ?_
    refine (zLet_eq m8).trans ?_
    refine (zLet_eq m11).trans ?_
    refine (zLet_eq m14).trans ?_
    refine (if_pos w_0).trans ?_
    refine (zLet_eq (show fn24 [41] (γ 1) = (0, 1, γ 2) from l0.symm)).trans ?_
    refine (zLet_eq (show _ = γ 2 from rfl)).trans ?_
    refine (if_pos zQ1_).trans ?_
    refine (zLet_eq (show fn21 [ρ 7, ρ 8, ρ 19] (γ 2) = (0, ρ 29, γ 3) from l1.symm)).trans ?_
    refine (zLet_eq (show _ = γ 3 from rfl)).trans ?_
    refine (zLet_eq (show _ = ρ 29 from rfl)).trans ?_
    refine (if_neg w_1).trans ?_
    refine (if_neg w_2).trans ?_
    refine (if_pos w_3).trans ?_
    refine (zLet_eq (show fn22 [ρ 7, ρ 8, ρ 19] (γ 3) = (0, ρ 13, γ 4) from l2.symm)).trans ?_
    refine (zLet_eq (show _ = γ 4 from rfl)).trans ?_
    refine (if_neg w_4).trans ?_
    refine (zLet_eq c5.symm).trans ?_
    refine (zLet_eq c6.symm).trans ?_
    refine (zLet_eq c7.symm).trans ?_
    rfl
  exact zGoo_aend hJ hD
theorem vn36a0_6 {S : Nat → zSpc} (hS6 : ∀ x g o v gz, S 6 x g o v gz → sn6 x g o v gz) (hS7 : ∀ x g o v gz, S 7 x g o v gz → sn7 x g o v gz) (hS8 : ∀ x g o v gz, S 8 x g o v gz → sn8 x g o v gz) (hS20 : ∀ x g o v gz, S 20 x g o v gz → sn20 x g o v gz) (hS21 : ∀ x g o v gz, S 21 x g o v gz → sn21 x g o v gz) (hS22 : ∀ x g o v gz, S 22 x g o v gz → sn22 x g o v gz) (hS24 : ∀ x g o v gz, S 24 x g o v gz → sn24 x g o v gz) (hS25 : ∀ x g o v gz, S 25 x g o v gz → sn25 x g o v gz) (hS33 : ∀ x g o v gz, S 33 x g o v gz → sn33 x g o v gz) {a : List Int} {g : rHp} : ∀ (ρ : Nat → Int) (γ : Nat → rHp), jn36 a g 0 (zAg (zNA a36_ 0) ρ) (γ 1) → zO 17 S a g q36a0_6 ρ γ → zGl (fun i vs g1 => jn36 a g i vs g1) (sn36 a g) q36a0_6 ρ γ := by
  intro ρ γ hJ h
  obtain ⟨ha, hg, hr, hf, hm, hc, hl⟩ := h
  have ha : a = [ρ 0, ρ 1, ρ 2, ρ 3, ρ 4, ρ 5, ρ 6, ρ 7, ρ 8, ρ 9, ρ 10, ρ 11, ρ 12, ρ 13, ρ 14, ρ 15, ρ 16] := ha
  subst ha
  subst hg
  have hJ : jn36 [ρ 0, ρ 1, ρ 2, ρ 3, ρ 4, ρ 5, ρ 6, ρ 7, ρ 8, ρ 9, ρ 10, ρ 11, ρ 12, ρ 13, ρ 14, ρ 15, ρ 16] (γ 0) 0 [ρ 0, ρ 1, ρ 2, ρ 3, ρ 4, ρ 5, ρ 6, ρ 7, ρ 8, ρ 9, ρ 10, ρ 11, ρ 12, ρ 13, ρ 14, ρ 15, ρ 16, ρ 17, ρ 18, ρ 19, ρ 20, ρ 21, ρ 22, ρ 23, ρ 24, ρ 25, ρ 26, ρ 27] (γ 1) := hJ
  obtain ⟨-, r1, -, -, -, -, -, -, -, -, -, -, -, r13, -, -, -, r17, -, -, -, -, -, -, -, -, -, -, -, r29, -⟩ := hr
  have r1 : (1 : Int) ≤ ρ 1 ∧ ρ 1 ≤ 1 := r1
  have r13 : (20 : Int) ≤ ρ 13 ∧ ρ 13 ≤ 20 := r13
  have r17 : (0 : Int) ≤ ρ 17 ∧ ρ 17 ≤ 0 := r17
  have r29 : ((-1) : Int) ≤ ρ 29 ∧ ρ 29 ≤ (-1) := r29
  obtain ⟨w_0, w_1, w_2, w_3⟩ : (ρ 17 = 0) ∧ (¬ (ρ 29 ≥ 0)) ∧ (¬ (ρ 1 = 0)) ∧ (¬ (ρ 13 ≠ 20)) := ⟨by omega, by omega, by omega, by omega⟩
  obtain ⟨-, m1, -, -, -, m5, m6, m7, m8, -, -, m11, -, -, m14, -⟩ := hm
  have m1 : γ 0 15 0 34 = ρ 3 := m1
  have m5 : γ 0 15 0 37 = ρ 7 := m5
  have m6 : γ 0 15 0 38 = ρ 8 := m6
  have m7 : γ 0 15 0 44 = ρ 9 := m7
  have m8 : γ 0 73 0 (ρ 9) = ρ 10 := m8
  have m11 : γ 0 15 0 14 = ρ 13 := m11
  have m14 : γ 0 15 0 45 = ρ 16 := m14
  obtain ⟨l0, l1, l2, -⟩ := hl
  have l0 : sn24 [41, ρ 20, ρ 3, ρ 14] (γ 1) 0 1 (γ 2) := hS24 _ _ _ _ _ l0
  have l1 : sn21 [ρ 7, ρ 8, ρ 19, ρ 13] (γ 2) 0 (ρ 29) (γ 3) := hS21 _ _ _ _ _ l1
  have l2 : sn8 [ρ 7, ρ 3, ρ 14] (γ 3) 0 0 (γ 4) := hS8 _ _ _ _ _ l2
  show sn36 [ρ 0, ρ 1, ρ 2, ρ 3, ρ 4, ρ 5, ρ 6, ρ 7, ρ 8, ρ 9, ρ 10, ρ 11, ρ 12, ρ 13, ρ 14, ρ 15, ρ 16] (γ 0) 0 0 (γ 4)
  have hD : en36 (γ 0) (0, [ρ 0, ρ 1, ρ 17, ρ 18, ρ 19], γ 1) = .inr (0, 0, γ 4) := by
    unfold en36
    refine (if_pos (show (0 : Nat) = 0 by decide)).trans ?_
    refine (zLet_eq (show _ = γ 1 from rfl)).trans ?_
    refine (zLet_eq (show _ = ρ 0 from rfl)).trans ?_
    refine (zLet_eq (show _ = ρ 1 from rfl)).trans ?_
    refine (zLet_eq (show _ = ρ 17 from rfl)).trans ?_
    refine (zLet_eq (show _ = ρ 18 from rfl)).trans ?_
    refine (zLet_eq (show _ = ρ 19 from rfl)).trans ?_
    refine (zLet_eq m1).trans ?_
    refine (zLet_eq m5).trans ?_
    refine (zLet_eq m6).trans ?_
    refine (zLet_eq m7).trans ?_
    refine (zLet_eq m8).trans ?_
    refine (zLet_eq m11).trans ?_
    refine (zLet_eq m14).trans ?_
    refine (if_pos w_0).trans ?_
    refine (zLet_eq (show fn24 [41] (γ 1) = (0, 1, γ 2) from l0.symm)).trans ?_
    refine (zLet_eq (show _ = γ 2 from rfl)).trans ?_
    refine (if_pos zQ1_).trans ?_
    refine (zLet_eq (show fn21 [ρ 7, ρ 8, ρ 19] (γ 2) = (0, ρ 29, γ 3) from l1.symm)).trans ?_
    refine (zLet_eq (show _ = γ 3 from rfl)).trans ?_
    refine (zLet_eq (show _ = ρ 29 from rfl)).trans ?_
    refine (if_neg w_1).trans ?_
    refine (if_neg w_2).trans ?_
    refine (if_neg w_3).trans ?_
    refine (zLet_eq (show fn8 [ρ 7] (γ 3) = (0, 0, γ 4) from l2.symm)).trans ?_
    refine (zLet_eq (show _ = γ 4 from rfl)).trans ?_
    rfl
  exact zGoo_aend hJ hD
theorem vn36a0_7 {S : Nat → zSpc} (hS6 : ∀ x g o v gz, S 6 x g o v gz → sn6 x g o v gz) (hS7 : ∀ x g o v gz, S 7 x g o v gz → sn7 x g o v gz) (hS8 : ∀ x g o v gz, S 8 x g o v gz → sn8 x g o v gz) (hS20 : ∀ x g o v gz, S 20 x g o v gz → sn20 x g o v gz) (hS21 : ∀ x g o v gz, S 21 x g o v gz → sn21 x g o v gz) (hS22 : ∀ x g o v gz, S 22 x g o v gz → sn22 x g o v gz) (hS24 : ∀ x g o v gz, S 24 x g o v gz → sn24 x g o v gz) (hS25 : ∀ x g o v gz, S 25 x g o v gz → sn25 x g o v gz) (hS33 : ∀ x g o v gz, S 33 x g o v gz → sn33 x g o v gz) {a : List Int} {g : rHp} : ∀ (ρ : Nat → Int) (γ : Nat → rHp), jn36 a g 0 (zAg (zNA a36_ 0) ρ) (γ 1) → zO 17 S a g q36a0_7 ρ γ → zGl (fun i vs g1 => jn36 a g i vs g1) (sn36 a g) q36a0_7 ρ γ := by
  intro ρ γ hJ h
  obtain ⟨ha, hg, hr, hf, hm, hc, hl⟩ := h
  have ha : a = [ρ 0, ρ 1, ρ 2, ρ 3, ρ 4, ρ 5, ρ 6, ρ 7, ρ 8, ρ 9, ρ 10, ρ 11, ρ 12, ρ 13, ρ 14, ρ 15, ρ 16] := ha
  subst ha
  subst hg
  have hJ : jn36 [ρ 0, ρ 1, ρ 2, ρ 3, ρ 4, ρ 5, ρ 6, ρ 7, ρ 8, ρ 9, ρ 10, ρ 11, ρ 12, ρ 13, ρ 14, ρ 15, ρ 16] (γ 0) 0 [ρ 0, ρ 1, ρ 2, ρ 3, ρ 4, ρ 5, ρ 6, ρ 7, ρ 8, ρ 9, ρ 10, ρ 11, ρ 12, ρ 13, ρ 14, ρ 15, ρ 16, ρ 17, ρ 18, ρ 19, ρ 20, ρ 21, ρ 22, ρ 23, ρ 24, ρ 25, ρ 26, ρ 27] (γ 1) := hJ
  obtain ⟨-, -, -, -, -, -, -, -, -, -, -, -, -, -, -, -, -, r17, -, r19, -⟩ := hr
  have r17 : (1 : Int) ≤ ρ 17 ∧ ρ 17 ≤ 1 := r17
  have r19 : (0 : Int) ≤ ρ 19 ∧ ρ 19 ≤ 3 := r19
  obtain ⟨w_0, w_1⟩ : (¬ (ρ 17 = 0)) ∧ (ρ 19 ≠ 4) := ⟨by omega, by omega⟩
  obtain ⟨-, m1, -, -, -, m5, m6, m7, m8, -, -, m11, -, -, m14, -, -, -, -, -, -, -, -, -, m24, -⟩ := hm
  have m1 : γ 0 15 0 34 = ρ 3 := m1
  have m5 : γ 0 15 0 37 = ρ 7 := m5
  have m6 : γ 0 15 0 38 = ρ 8 := m6
  have m7 : γ 0 15 0 44 = ρ 9 := m7
  have m8 : γ 0 73 0 (ρ 9) = ρ 10 := m8
  have m11 : γ 0 15 0 14 = ρ 13 := m11
  have m14 : γ 0 15 0 45 = ρ 16 := m14
  have m24 : γ 2 15 0 35 = ρ 28 := m24
  obtain ⟨l0, l1, -⟩ := hl
  have l0 : sn7 [ρ 20, ρ 3] (γ 1) 0 0 (γ 2) := hS7 _ _ _ _ _ l0
  have l1 : sn20 [1, ρ 28, ρ 3, ρ 21, ρ 22, ρ 29, ρ 26, ρ 14, ρ 24, ρ 25, ρ 9] (γ 2) 0 0 (γ 3) := hS20 _ _ _ _ _ l1
  show sn36 [ρ 0, ρ 1, ρ 2, ρ 3, ρ 4, ρ 5, ρ 6, ρ 7, ρ 8, ρ 9, ρ 10, ρ 11, ρ 12, ρ 13, ρ 14, ρ 15, ρ 16] (γ 0) 0 0 (γ 3)
  have hD : en36 (γ 0) (0, [ρ 0, ρ 1, ρ 17, ρ 18, ρ 19], γ 1) = .inr (0, 0, γ 3) := by
    unfold en36
    refine (if_pos (show (0 : Nat) = 0 by decide)).trans ?_
    refine (zLet_eq (show _ = γ 1 from rfl)).trans ?_
    refine (zLet_eq (show _ = ρ 0 from rfl)).trans ?_
    refine (zLet_eq (show _ = ρ 1 from rfl)).trans ?_
    refine (zLet_eq (show _ = ρ 17 from rfl)).trans ?_
    refine (zLet_eq (show _ = ρ 18 from rfl)).trans ?_
    refine (zLet_eq (show _ = ρ 19 from rfl)).trans ?_
    refine (zLet_eq m1).trans ?_
    refine (zLet_eq m5).trans ?_
    refine (zLet_eq m6).trans ?_
    refine (zLet_eq m7).trans ?_
    refine (zLet_eq m8).trans ?_
    refine (zLet_eq m11).trans ?_
    refine (zLet_eq m14).trans ?_
    refine (if_neg w_0).trans ?_
    refine (zLet_eq (show fn7 [] (γ 1) = (0, 0, γ 2) from l0.symm)).trans ?_
    refine (zLet_eq (show _ = γ 2 from rfl)).trans ?_
    refine (zLet_eq m24).trans ?_
    refine (if_pos w_1).trans ?_
    refine (zLet_eq (show fn20 [1] (γ 2) = (0, 0, γ 3) from l1.symm)).trans ?_
    refine (zLet_eq (show _ = γ 3 from rfl)).trans ?_
    refine (if_neg zQ0_).trans ?_
    rfl
  exact zGoo_aend hJ hD
theorem vn36a0_8 {S : Nat → zSpc} (hS6 : ∀ x g o v gz, S 6 x g o v gz → sn6 x g o v gz) (hS7 : ∀ x g o v gz, S 7 x g o v gz → sn7 x g o v gz) (hS8 : ∀ x g o v gz, S 8 x g o v gz → sn8 x g o v gz) (hS20 : ∀ x g o v gz, S 20 x g o v gz → sn20 x g o v gz) (hS21 : ∀ x g o v gz, S 21 x g o v gz → sn21 x g o v gz) (hS22 : ∀ x g o v gz, S 22 x g o v gz → sn22 x g o v gz) (hS24 : ∀ x g o v gz, S 24 x g o v gz → sn24 x g o v gz) (hS25 : ∀ x g o v gz, S 25 x g o v gz → sn25 x g o v gz) (hS33 : ∀ x g o v gz, S 33 x g o v gz → sn33 x g o v gz) {a : List Int} {g : rHp} : ∀ (ρ : Nat → Int) (γ : Nat → rHp), jn36 a g 0 (zAg (zNA a36_ 0) ρ) (γ 1) → zO 17 S a g q36a0_8 ρ γ → zGl (fun i vs g1 => jn36 a g i vs g1) (sn36 a g) q36a0_8 ρ γ := by
  intro ρ γ hJ h
  obtain ⟨ha, hg, hr, hf, hm, hc, hl⟩ := h
  have ha : a = [ρ 0, ρ 1, ρ 2, ρ 3, ρ 4, ρ 5, ρ 6, ρ 7, ρ 8, ρ 9, ρ 10, ρ 11, ρ 12, ρ 13, ρ 14, ρ 15, ρ 16] := ha
  subst ha
  subst hg
  have hJ : jn36 [ρ 0, ρ 1, ρ 2, ρ 3, ρ 4, ρ 5, ρ 6, ρ 7, ρ 8, ρ 9, ρ 10, ρ 11, ρ 12, ρ 13, ρ 14, ρ 15, ρ 16] (γ 0) 0 [ρ 0, ρ 1, ρ 2, ρ 3, ρ 4, ρ 5, ρ 6, ρ 7, ρ 8, ρ 9, ρ 10, ρ 11, ρ 12, ρ 13, ρ 14, ρ 15, ρ 16, ρ 17, ρ 18, ρ 19, ρ 20, ρ 21, ρ 22, ρ 23, ρ 24, ρ 25, ρ 26, ρ 27] (γ 1) := hJ
  obtain ⟨-, -, -, -, -, -, -, -, -, -, -, -, -, -, -, -, -, r17, -, r19, -, -, -, -, -, -, -, -, -, -, -, -, -, -, r34, -, -, -, r38, -⟩ := hr
  have r17 : (1 : Int) ≤ ρ 17 ∧ ρ 17 ≤ 1 := r17
  have r19 : (0 : Int) ≤ ρ 19 ∧ ρ 19 ≤ 3 := r19
  have r34 : (0 : Int) ≤ ρ 34 ∧ ρ 34 ≤ 2 := r34
  have r38 : ((-128) : Int) ≤ ρ 38 ∧ ρ 38 ≤ 127 := r38
  obtain ⟨f0, -⟩ := hf
  have f0 : (0 : Int) ≤ -ρ 37 + ρ 3 + (-1) := f0
  obtain ⟨w_0, w_1, w_2⟩ : (¬ (ρ 17 = 0)) ∧ (ρ 19 ≠ 4) ∧ (0 ≤ -ρ 37 + ρ 3 + (-1)) := ⟨by omega, by omega, by omega⟩
  obtain ⟨-, m1, -, -, -, m5, m6, m7, m8, -, -, m11, -, -, m14, -, -, -, -, -, -, -, -, -, m24, -, -, -, -, m29, m30, -, -, -, m34, -⟩ := hm
  have m1 : γ 0 15 0 34 = ρ 3 := m1
  have m5 : γ 0 15 0 37 = ρ 7 := m5
  have m6 : γ 0 15 0 38 = ρ 8 := m6
  have m7 : γ 0 15 0 44 = ρ 9 := m7
  have m8 : γ 0 73 0 (ρ 9) = ρ 10 := m8
  have m11 : γ 0 15 0 14 = ρ 13 := m11
  have m14 : γ 0 15 0 45 = ρ 16 := m14
  have m24 : γ 2 15 0 35 = ρ 28 := m24
  have m29 : γ 3 15 0 39 = ρ 33 := m29
  have m30 : γ 3 15 0 40 = ρ 34 := m30
  have m34 : γ 6 15 0 35 = ρ 37 := m34
  obtain ⟨⟨⟨⟨-, c4⟩, c5⟩, -⟩, -⟩ := hc
  have c4 : γ 4 = rUp (γ 3) 80 0 (ρ 19 + (4 * ρ 10 + 32 * ρ 9)) (ρ 34) := c4
  have c5 : γ 5 = rUp (γ 4) 81 0 (ρ 19 + (4 * ρ 10 + 32 * ρ 9)) (ρ 33) := c5
  obtain ⟨l0, l1, l2, l3, l4, l5, l6, -⟩ := hl
  have l0 : sn7 [ρ 20, ρ 3] (γ 1) 0 0 (γ 2) := hS7 _ _ _ _ _ l0
  have l1 : sn20 [1, ρ 28, ρ 3, ρ 21, ρ 22, ρ 29, ρ 26, ρ 14, ρ 24, ρ 25, ρ 9] (γ 2) 0 1 (γ 3) := hS20 _ _ _ _ _ l1
  have l2 : ρ 34 ≠ 1 := l2
  have l3 : ρ 34 ≠ 1 := l3
  have l4 : sn7 [ρ 30, ρ 3] (γ 5) 0 0 (γ 6) := hS7 _ _ _ _ _ l4
  have l5 : sn6 [ρ 37, ρ 3] (γ 6) 0 (ρ 38) (γ 7) := hS6 _ _ _ _ _ l5
  have l6 : ρ 38 ≠ 44 := l6
  obtain ⟨wl_0, wl_1⟩ : (ρ 34 ≠ 1) ∧ (ρ 38 ≠ 44) := ⟨by omega, by omega⟩
  show jn36 [ρ 0, ρ 1, ρ 2, ρ 3, ρ 4, ρ 5, ρ 6, ρ 7, ρ 8, ρ 9, ρ 10, ρ 11, ρ 12, ρ 13, ρ 14, ρ 15, ρ 16] (γ 0) 0 [ρ 0, ρ 1, ρ 2, ρ 3, ρ 4, ρ 5, ρ 6, ρ 7, ρ 8, ρ 9, ρ 10, ρ 11, ρ 12, ρ 13, ρ 14, ρ 15, ρ 16, 0, ρ 18, ρ 19 + 1, ρ 37, ρ 31, ρ 32, ρ 23, ρ 35, ρ 36, ρ 34, ρ 39] (γ 7)
  have hD : en36 (γ 0) (0, [ρ 0, ρ 1, ρ 17, ρ 18, ρ 19], γ 1) = .inl (0, [ρ 0, ρ 1, 0, ρ 18, ρ 19 + 1], γ 7) := by
    unfold en36
    refine (if_pos (show (0 : Nat) = 0 by decide)).trans ?_
    refine (zLet_eq (show _ = γ 1 from rfl)).trans ?_
    refine (zLet_eq (show _ = ρ 0 from rfl)).trans ?_
    refine (zLet_eq (show _ = ρ 1 from rfl)).trans ?_
    refine (zLet_eq (show _ = ρ 17 from rfl)).trans ?_
    refine (zLet_eq (show _ = ρ 18 from rfl)).trans ?_
    refine (zLet_eq (show _ = ρ 19 from rfl)).trans ?_
    refine (zLet_eq m1).trans ?_
    refine (zLet_eq m5).trans ?_
    refine (zLet_eq m6).trans ?_
    refine (zLet_eq m7).trans ?_
    refine (zLet_eq m8).trans ?_
    refine (zLet_eq m11).trans ?_
    refine (zLet_eq m14).trans ?_
    refine (if_neg w_0).trans ?_
    refine (zLet_eq (show fn7 [] (γ 1) = (0, 0, γ 2) from l0.symm)).trans ?_
    refine (zLet_eq (show _ = γ 2 from rfl)).trans ?_
    refine (zLet_eq m24).trans ?_
    refine (if_pos w_1).trans ?_
    refine (zLet_eq (show fn20 [1] (γ 2) = (0, 1, γ 3) from l1.symm)).trans ?_
    refine (zLet_eq (show _ = γ 3 from rfl)).trans ?_
    refine (if_pos zQ1_).trans ?_
    refine (zLet_eq m29).trans ?_
    refine (zLet_eq m30).trans ?_
    refine (zLet_eq c4.symm).trans ?_
    refine (zLet_eq c5.symm).trans ?_
    refine (if_pos wl_0).trans ?_
    refine (if_pos wl_0).trans ?_
    refine (zLet_eq (show fn7 [] (γ 5) = (0, 0, γ 6) from l4.symm)).trans ?_
    refine (zLet_eq (show _ = γ 6 from rfl)).trans ?_
    refine (zLet_eq m34).trans ?_
    refine (zLet_eq (show fn6 [ρ 37] (γ 6) = (0, ρ 38, γ 7) from l5.symm)).trans ?_
    refine (zLet_eq (show _ = γ 7 from rfl)).trans ?_
    refine (if_pos w_2).trans ?_
    refine (zLet_eq (show _ = ρ 38 from rfl)).trans ?_
    refine (if_pos wl_1).trans ?_
    rfl
  exact zGoo_ato hJ hD
theorem vn36a0_9 {S : Nat → zSpc} (hS6 : ∀ x g o v gz, S 6 x g o v gz → sn6 x g o v gz) (hS7 : ∀ x g o v gz, S 7 x g o v gz → sn7 x g o v gz) (hS8 : ∀ x g o v gz, S 8 x g o v gz → sn8 x g o v gz) (hS20 : ∀ x g o v gz, S 20 x g o v gz → sn20 x g o v gz) (hS21 : ∀ x g o v gz, S 21 x g o v gz → sn21 x g o v gz) (hS22 : ∀ x g o v gz, S 22 x g o v gz → sn22 x g o v gz) (hS24 : ∀ x g o v gz, S 24 x g o v gz → sn24 x g o v gz) (hS25 : ∀ x g o v gz, S 25 x g o v gz → sn25 x g o v gz) (hS33 : ∀ x g o v gz, S 33 x g o v gz → sn33 x g o v gz) {a : List Int} {g : rHp} : ∀ (ρ : Nat → Int) (γ : Nat → rHp), jn36 a g 0 (zAg (zNA a36_ 0) ρ) (γ 1) → zO 17 S a g q36a0_9 ρ γ → zGl (fun i vs g1 => jn36 a g i vs g1) (sn36 a g) q36a0_9 ρ γ := by
  intro ρ γ hJ h
  obtain ⟨ha, hg, hr, hf, hm, hc, hl⟩ := h
  have ha : a = [ρ 0, ρ 1, ρ 2, ρ 3, ρ 4, ρ 5, ρ 6, ρ 7, ρ 8, ρ 9, ρ 10, ρ 11, ρ 12, ρ 13, ρ 14, ρ 15, ρ 16] := ha
  subst ha
  subst hg
  have hJ : jn36 [ρ 0, ρ 1, ρ 2, ρ 3, ρ 4, ρ 5, ρ 6, ρ 7, ρ 8, ρ 9, ρ 10, ρ 11, ρ 12, ρ 13, ρ 14, ρ 15, ρ 16] (γ 0) 0 [ρ 0, ρ 1, ρ 2, ρ 3, ρ 4, ρ 5, ρ 6, ρ 7, ρ 8, ρ 9, ρ 10, ρ 11, ρ 12, ρ 13, ρ 14, ρ 15, ρ 16, ρ 17, ρ 18, ρ 19, ρ 20, ρ 21, ρ 22, ρ 23, ρ 24, ρ 25, ρ 26, ρ 27] (γ 1) := hJ
  obtain ⟨-, -, -, -, -, -, -, -, -, -, -, -, -, -, -, -, -, r17, -, r19, -, -, -, -, -, -, -, -, -, -, -, -, -, -, r34, -, -, -, r38, -⟩ := hr
  have r17 : (1 : Int) ≤ ρ 17 ∧ ρ 17 ≤ 1 := r17
  have r19 : (0 : Int) ≤ ρ 19 ∧ ρ 19 ≤ 3 := r19
  have r34 : (0 : Int) ≤ ρ 34 ∧ ρ 34 ≤ 2 := r34
  have r38 : (44 : Int) ≤ ρ 38 ∧ ρ 38 ≤ 44 := r38
  obtain ⟨f0, -⟩ := hf
  have f0 : (0 : Int) ≤ -ρ 37 + ρ 3 + (-1) := f0
  obtain ⟨w_0, w_1, w_2, w_3⟩ : (¬ (ρ 17 = 0)) ∧ (ρ 19 ≠ 4) ∧ (0 ≤ -ρ 37 + ρ 3 + (-1)) ∧ (¬ (ρ 38 ≠ 44)) := ⟨by omega, by omega, by omega, by omega⟩
  obtain ⟨-, m1, -, -, -, m5, m6, m7, m8, -, -, m11, -, -, m14, -, -, -, -, -, -, -, -, -, m24, -, -, -, -, m29, m30, -, -, -, m34, -⟩ := hm
  have m1 : γ 0 15 0 34 = ρ 3 := m1
  have m5 : γ 0 15 0 37 = ρ 7 := m5
  have m6 : γ 0 15 0 38 = ρ 8 := m6
  have m7 : γ 0 15 0 44 = ρ 9 := m7
  have m8 : γ 0 73 0 (ρ 9) = ρ 10 := m8
  have m11 : γ 0 15 0 14 = ρ 13 := m11
  have m14 : γ 0 15 0 45 = ρ 16 := m14
  have m24 : γ 2 15 0 35 = ρ 28 := m24
  have m29 : γ 3 15 0 39 = ρ 33 := m29
  have m30 : γ 3 15 0 40 = ρ 34 := m30
  have m34 : γ 6 15 0 35 = ρ 37 := m34
  obtain ⟨⟨⟨⟨⟨-, c4⟩, c5⟩, -⟩, -⟩, c8⟩ := hc
  have c4 : γ 4 = rUp (γ 3) 80 0 (ρ 19 + (4 * ρ 10 + 32 * ρ 9)) (ρ 34) := c4
  have c5 : γ 5 = rUp (γ 4) 81 0 (ρ 19 + (4 * ρ 10 + 32 * ρ 9)) (ρ 33) := c5
  have c8 : γ 8 = rUp (γ 7) 15 0 35 (ρ 37 + 1) := c8
  obtain ⟨l0, l1, l2, l3, l4, l5, -⟩ := hl
  have l0 : sn7 [ρ 20, ρ 3] (γ 1) 0 0 (γ 2) := hS7 _ _ _ _ _ l0
  have l1 : sn20 [1, ρ 28, ρ 3, ρ 21, ρ 22, ρ 29, ρ 26, ρ 14, ρ 24, ρ 25, ρ 9] (γ 2) 0 1 (γ 3) := hS20 _ _ _ _ _ l1
  have l2 : ρ 34 ≠ 1 := l2
  have l3 : ρ 34 ≠ 1 := l3
  have l4 : sn7 [ρ 30, ρ 3] (γ 5) 0 0 (γ 6) := hS7 _ _ _ _ _ l4
  have l5 : sn6 [ρ 37, ρ 3] (γ 6) 0 (ρ 38) (γ 7) := hS6 _ _ _ _ _ l5
  have wl_0 : ρ 34 ≠ 1 := by omega
  show jn36 [ρ 0, ρ 1, ρ 2, ρ 3, ρ 4, ρ 5, ρ 6, ρ 7, ρ 8, ρ 9, ρ 10, ρ 11, ρ 12, ρ 13, ρ 14, ρ 15, ρ 16] (γ 0) 0 [ρ 0, ρ 1, ρ 2, ρ 3, ρ 4, ρ 5, ρ 6, ρ 7, ρ 8, ρ 9, ρ 10, ρ 11, ρ 12, ρ 13, ρ 14, ρ 15, ρ 16, 1, ρ 18, ρ 19 + 1, ρ 37 + 1, ρ 31, ρ 32, ρ 23, ρ 35, ρ 36, ρ 34, ρ 39] (γ 8)
  have hD : en36 (γ 0) (0, [ρ 0, ρ 1, ρ 17, ρ 18, ρ 19], γ 1) = .inl (0, [ρ 0, ρ 1, 1, ρ 18, ρ 19 + 1], γ 8) := by
    unfold en36
    refine (if_pos (show (0 : Nat) = 0 by decide)).trans ?_
    refine (zLet_eq (show _ = γ 1 from rfl)).trans ?_
    refine (zLet_eq (show _ = ρ 0 from rfl)).trans ?_
    refine (zLet_eq (show _ = ρ 1 from rfl)).trans ?_
    refine (zLet_eq (show _ = ρ 17 from rfl)).trans ?_
    refine (zLet_eq (show _ = ρ 18 from rfl)).trans ?_
    refine (zLet_eq (show _ = ρ 19 from rfl)).trans ?_
    refine (zLet_eq m1).trans ?_
    refine (zLet_eq m5).trans ?_
    refine (zLet_eq m6).trans ?_
    refine (zLet_eq m7).trans ?_
    refine (zLet_eq m8).trans ?_
    refine (zLet_eq m11).trans ?_
    refine (zLet_eq m14).trans ?_
    refine (if_neg w_0).trans ?_
    refine (zLet_eq (show fn7 [] (γ 1) = (0, 0, γ 2) from l0.symm)).trans ?_
    refine (zLet_eq (show _ = γ 2 from rfl)).trans ?_
    refine (zLet_eq m24).trans ?_
    refine (if_pos w_1).trans ?_
    refine (zLet_eq (show fn20 [1] (γ 2) = (0, 1, γ 3) from l1.symm)).trans ?_
    refine (zLet_eq (show _ = γ 3 from rfl)).trans ?_
    refine (if_pos zQ1_).trans ?_
    refine (zLet_eq m29).trans ?_
    refine (zLet_eq m30).trans ?_
    refine (zLet_eq c4.symm).trans ?_
    refine (zLet_eq c5.symm).trans ?_
    refine (if_pos wl_0).trans ?_
    refine (if_pos wl_0).trans ?_
    refine (zLet_eq (show fn7 [] (γ 5) = (0, 0, γ 6) from l4.symm)).trans ?_
    refine (zLet_eq (show _ = γ 6 from rfl)).trans ?_
    refine (zLet_eq m34).trans ?_
    refine (zLet_eq (show fn6 [ρ 37] (γ 6) = (0, ρ 38, γ 7) from l5.symm)).trans ?_
    refine (zLet_eq (show _ = γ 7 from rfl)).trans ?_
    refine (if_pos w_2).trans ?_
    refine (zLet_eq (show _ = ρ 38 from rfl)).trans ?_
    refine (if_neg w_3).trans ?_
    refine (zLet_eq c8.symm).trans ?_
    rfl
  exact zGoo_ato hJ hD
theorem vn36a0_10 {S : Nat → zSpc} (hS6 : ∀ x g o v gz, S 6 x g o v gz → sn6 x g o v gz) (hS7 : ∀ x g o v gz, S 7 x g o v gz → sn7 x g o v gz) (hS8 : ∀ x g o v gz, S 8 x g o v gz → sn8 x g o v gz) (hS20 : ∀ x g o v gz, S 20 x g o v gz → sn20 x g o v gz) (hS21 : ∀ x g o v gz, S 21 x g o v gz → sn21 x g o v gz) (hS22 : ∀ x g o v gz, S 22 x g o v gz → sn22 x g o v gz) (hS24 : ∀ x g o v gz, S 24 x g o v gz → sn24 x g o v gz) (hS25 : ∀ x g o v gz, S 25 x g o v gz → sn25 x g o v gz) (hS33 : ∀ x g o v gz, S 33 x g o v gz → sn33 x g o v gz) {a : List Int} {g : rHp} : ∀ (ρ : Nat → Int) (γ : Nat → rHp), jn36 a g 0 (zAg (zNA a36_ 0) ρ) (γ 1) → zO 17 S a g q36a0_10 ρ γ → zGl (fun i vs g1 => jn36 a g i vs g1) (sn36 a g) q36a0_10 ρ γ := by
  intro ρ γ hJ h
  obtain ⟨ha, hg, hr, hf, hm, hc, hl⟩ := h
  have ha : a = [ρ 0, ρ 1, ρ 2, ρ 3, ρ 4, ρ 5, ρ 6, ρ 7, ρ 8, ρ 9, ρ 10, ρ 11, ρ 12, ρ 13, ρ 14, ρ 15, ρ 16] := ha
  subst ha
  subst hg
  have hJ : jn36 [ρ 0, ρ 1, ρ 2, ρ 3, ρ 4, ρ 5, ρ 6, ρ 7, ρ 8, ρ 9, ρ 10, ρ 11, ρ 12, ρ 13, ρ 14, ρ 15, ρ 16] (γ 0) 0 [ρ 0, ρ 1, ρ 2, ρ 3, ρ 4, ρ 5, ρ 6, ρ 7, ρ 8, ρ 9, ρ 10, ρ 11, ρ 12, ρ 13, ρ 14, ρ 15, ρ 16, ρ 17, ρ 18, ρ 19, ρ 20, ρ 21, ρ 22, ρ 23, ρ 24, ρ 25, ρ 26, ρ 27] (γ 1) := hJ
  obtain ⟨-, -, -, -, -, -, -, -, -, -, -, -, -, -, -, -, -, r17, -, r19, -, -, -, -, -, -, -, -, -, -, -, -, -, -, r34, -⟩ := hr
  have r17 : (1 : Int) ≤ ρ 17 ∧ ρ 17 ≤ 1 := r17
  have r19 : (0 : Int) ≤ ρ 19 ∧ ρ 19 ≤ 3 := r19
  have r34 : (0 : Int) ≤ ρ 34 ∧ ρ 34 ≤ 2 := r34
  obtain ⟨f0, -⟩ := hf
  have f0 : (0 : Int) ≤ ρ 37 + -ρ 3 := f0
  obtain ⟨w_0, w_1, w_2⟩ : (¬ (ρ 17 = 0)) ∧ (ρ 19 ≠ 4) ∧ (¬ (0 ≤ -ρ 37 + ρ 3 + (-1))) := ⟨by omega, by omega, by omega⟩
  obtain ⟨-, m1, -, -, -, m5, m6, m7, m8, -, -, m11, -, -, m14, -, -, -, -, -, -, -, -, -, m24, -, -, -, -, m29, m30, -, -, -, m34, -⟩ := hm
  have m1 : γ 0 15 0 34 = ρ 3 := m1
  have m5 : γ 0 15 0 37 = ρ 7 := m5
  have m6 : γ 0 15 0 38 = ρ 8 := m6
  have m7 : γ 0 15 0 44 = ρ 9 := m7
  have m8 : γ 0 73 0 (ρ 9) = ρ 10 := m8
  have m11 : γ 0 15 0 14 = ρ 13 := m11
  have m14 : γ 0 15 0 45 = ρ 16 := m14
  have m24 : γ 2 15 0 35 = ρ 28 := m24
  have m29 : γ 3 15 0 39 = ρ 33 := m29
  have m30 : γ 3 15 0 40 = ρ 34 := m30
  have m34 : γ 6 15 0 35 = ρ 37 := m34
  obtain ⟨⟨⟨⟨-, c4⟩, c5⟩, -⟩, -⟩ := hc
  have c4 : γ 4 = rUp (γ 3) 80 0 (ρ 19 + (4 * ρ 10 + 32 * ρ 9)) (ρ 34) := c4
  have c5 : γ 5 = rUp (γ 4) 81 0 (ρ 19 + (4 * ρ 10 + 32 * ρ 9)) (ρ 33) := c5
  obtain ⟨l0, l1, l2, l3, l4, l5, -⟩ := hl
  have l0 : sn7 [ρ 20, ρ 3] (γ 1) 0 0 (γ 2) := hS7 _ _ _ _ _ l0
  have l1 : sn20 [1, ρ 28, ρ 3, ρ 21, ρ 22, ρ 29, ρ 26, ρ 14, ρ 24, ρ 25, ρ 9] (γ 2) 0 1 (γ 3) := hS20 _ _ _ _ _ l1
  have l2 : ρ 34 ≠ 1 := l2
  have l3 : ρ 34 ≠ 1 := l3
  have l4 : sn7 [ρ 30, ρ 3] (γ 5) 0 0 (γ 6) := hS7 _ _ _ _ _ l4
  have l5 : sn6 [ρ 37, ρ 3] (γ 6) 0 (-1) (γ 7) := hS6 _ _ _ _ _ l5
  have wl_0 : ρ 34 ≠ 1 := by omega
  show jn36 [ρ 0, ρ 1, ρ 2, ρ 3, ρ 4, ρ 5, ρ 6, ρ 7, ρ 8, ρ 9, ρ 10, ρ 11, ρ 12, ρ 13, ρ 14, ρ 15, ρ 16] (γ 0) 0 [ρ 0, ρ 1, ρ 2, ρ 3, ρ 4, ρ 5, ρ 6, ρ 7, ρ 8, ρ 9, ρ 10, ρ 11, ρ 12, ρ 13, ρ 14, ρ 15, ρ 16, 0, ρ 18, ρ 19 + 1, ρ 37, ρ 31, ρ 32, ρ 23, ρ 35, ρ 36, ρ 34, ρ 38] (γ 7)
  have hD : en36 (γ 0) (0, [ρ 0, ρ 1, ρ 17, ρ 18, ρ 19], γ 1) = .inl (0, [ρ 0, ρ 1, 0, ρ 18, ρ 19 + 1], γ 7) := by
    unfold en36
    refine (if_pos (show (0 : Nat) = 0 by decide)).trans ?_
    refine (zLet_eq (show _ = γ 1 from rfl)).trans ?_
    refine (zLet_eq (show _ = ρ 0 from rfl)).trans ?_
    refine (zLet_eq (show _ = ρ 1 from rfl)).trans ?_
    refine (zLet_eq (show _ = ρ 17 from rfl)).trans ?_
    refine (zLet_eq (show _ = ρ 18 from rfl)).trans ?_
    refine (zLet_eq (show _ = ρ 19 from rfl)).trans ?_
    refine (zLet_eq m1).trans ?_
    refine (zLet_eq m5).trans ?_
    refine (zLet_eq m6).trans ?_
    refine (zLet_eq m7).trans ?_
    refine (zLet_eq m8).trans ?_
    refine (zLet_eq m11).trans ?_
    refine (zLet_eq m14).trans ?_
    refine (if_neg w_0).trans ?_
    refine (zLet_eq (show fn7 [] (γ 1) = (0, 0, γ 2) from l0.symm)).trans ?_
    refine (zLet_eq (show _ = γ 2 from rfl)).trans ?_
    refine (zLet_eq m24).trans ?_
    refine (if_pos w_1).trans ?_
    refine (zLet_eq (show fn20 [1] (γ 2) = (0, 1, γ 3) from l1.symm)).trans ?_
    refine (zLet_eq (show _ = γ 3 from rfl)).trans ?_
    refine (if_pos zQ1_).trans ?_
    refine (zLet_eq m29).trans ?_
    refine (zLet_eq m30).trans ?_
    refine (zLet_eq c4.symm).trans ?_
    refine (zLet_eq c5.symm).trans ?_
    refine (if_pos wl_0).trans ?_
    refine (if_pos wl_0).trans ?_
    refine (zLet_eq (show fn7 [] (γ 5) = (0, 0, γ 6) from l4.symm)).trans ?_
    refine (zLet_eq (show _ = γ 6 from rfl)).trans ?_
    refine (zLet_eq m34).trans ?_
    refine (zLet_eq (show fn6 [ρ 37] (γ 6) = (0, (-1), γ 7) from l5.symm)).trans ?_
    refine (zLet_eq (show _ = γ 7 from rfl)).trans ?_
    refine (if_neg w_2).trans ?_
    rfl
  exact zGoo_ato hJ hD
theorem vn36a0_11 {S : Nat → zSpc} (hS6 : ∀ x g o v gz, S 6 x g o v gz → sn6 x g o v gz) (hS7 : ∀ x g o v gz, S 7 x g o v gz → sn7 x g o v gz) (hS8 : ∀ x g o v gz, S 8 x g o v gz → sn8 x g o v gz) (hS20 : ∀ x g o v gz, S 20 x g o v gz → sn20 x g o v gz) (hS21 : ∀ x g o v gz, S 21 x g o v gz → sn21 x g o v gz) (hS22 : ∀ x g o v gz, S 22 x g o v gz → sn22 x g o v gz) (hS24 : ∀ x g o v gz, S 24 x g o v gz → sn24 x g o v gz) (hS25 : ∀ x g o v gz, S 25 x g o v gz → sn25 x g o v gz) (hS33 : ∀ x g o v gz, S 33 x g o v gz → sn33 x g o v gz) {a : List Int} {g : rHp} : ∀ (ρ : Nat → Int) (γ : Nat → rHp), jn36 a g 0 (zAg (zNA a36_ 0) ρ) (γ 1) → zO 17 S a g q36a0_11 ρ γ → zGl (fun i vs g1 => jn36 a g i vs g1) (sn36 a g) q36a0_11 ρ γ := by
  intro ρ γ hJ h
  obtain ⟨ha, hg, hr, hf, hm, hc, hl⟩ := h
  have ha : a = [ρ 0, ρ 1, ρ 2, ρ 3, ρ 4, ρ 5, ρ 6, ρ 7, ρ 8, ρ 9, ρ 10, ρ 11, ρ 12, ρ 13, ρ 14, ρ 15, ρ 16] := ha
  subst ha
  subst hg
  have hJ : jn36 [ρ 0, ρ 1, ρ 2, ρ 3, ρ 4, ρ 5, ρ 6, ρ 7, ρ 8, ρ 9, ρ 10, ρ 11, ρ 12, ρ 13, ρ 14, ρ 15, ρ 16] (γ 0) 0 [ρ 0, ρ 1, ρ 2, ρ 3, ρ 4, ρ 5, ρ 6, ρ 7, ρ 8, ρ 9, ρ 10, ρ 11, ρ 12, ρ 13, ρ 14, ρ 15, ρ 16, ρ 17, ρ 18, ρ 19, ρ 20, ρ 21, ρ 22, ρ 23, ρ 24, ρ 25, ρ 26, ρ 27] (γ 1) := hJ
  obtain ⟨-, -, -, -, -, -, -, -, -, -, -, -, -, -, -, -, -, r17, -, r19, -, -, -, -, -, -, -, -, -, -, -, -, -, -, r34, -, -, -, -, -, -, r41, -⟩ := hr
  have r17 : (1 : Int) ≤ ρ 17 ∧ ρ 17 ≤ 1 := r17
  have r19 : (0 : Int) ≤ ρ 19 ∧ ρ 19 ≤ 3 := r19
  have r34 : (1 : Int) ≤ ρ 34 ∧ ρ 34 ≤ 1 := r34
  have r41 : ((-128) : Int) ≤ ρ 41 ∧ ρ 41 ≤ 127 := r41
  obtain ⟨f0, -⟩ := hf
  have f0 : (0 : Int) ≤ -ρ 40 + ρ 3 + (-1) := f0
  obtain ⟨w_0, w_1, w_2, w_3⟩ : (¬ (ρ 17 = 0)) ∧ (ρ 19 ≠ 4) ∧ (¬ (ρ 34 ≠ 1)) ∧ (0 ≤ -ρ 40 + ρ 3 + (-1)) := ⟨by omega, by omega, by omega, by omega⟩
  obtain ⟨-, m1, -, -, -, m5, m6, m7, m8, -, -, m11, -, -, m14, -, -, -, -, -, -, -, -, -, m24, -, -, -, -, m29, m30, -, -, -, m34, -⟩ := hm
  have m1 : γ 0 15 0 34 = ρ 3 := m1
  have m5 : γ 0 15 0 37 = ρ 7 := m5
  have m6 : γ 0 15 0 38 = ρ 8 := m6
  have m7 : γ 0 15 0 44 = ρ 9 := m7
  have m8 : γ 0 73 0 (ρ 9) = ρ 10 := m8
  have m11 : γ 0 15 0 14 = ρ 13 := m11
  have m14 : γ 0 15 0 45 = ρ 16 := m14
  have m24 : γ 2 15 0 35 = ρ 28 := m24
  have m29 : γ 3 15 0 39 = ρ 33 := m29
  have m30 : γ 3 15 0 40 = ρ 34 := m30
  have m34 : γ 6 15 0 35 = ρ 40 := m34
  obtain ⟨⟨⟨⟨-, c4⟩, c5⟩, -⟩, -⟩ := hc
  have c4 : γ 4 = rUp (γ 3) 80 0 (ρ 19 + (4 * ρ 10 + 32 * ρ 9)) (ρ 34) := c4
  have c5 : γ 5 = rUp (γ 4) 81 0 (ρ 19 + (4 * ρ 10 + 32 * ρ 9)) (ρ 33) := c5
  obtain ⟨l0, l1, l2, l3, l4, l5, l6, l7, l8, -⟩ := hl
  have l0 : sn7 [ρ 20, ρ 3] (γ 1) 0 0 (γ 2) := hS7 _ _ _ _ _ l0
  have l1 : sn20 [1, ρ 28, ρ 3, ρ 21, ρ 22, ρ 29, ρ 26, ρ 14, ρ 24, ρ 25, ρ 9] (γ 2) 0 1 (γ 3) := hS20 _ _ _ _ _ l1
  have l2 : ρ 34 ≠ 1 := l2
  have l3 : zOpP (.l2i) (γ 0) (γ 1) [ρ 33] (ρ 37) := l3
  have l4 : zOpP (.ishl) (γ 0) (γ 1) [1, ρ 37] (ρ 38) := l4
  have l5 : zOpP (.ior) (γ 0) (γ 1) [ρ 18, ρ 38] (ρ 39) := l5
  have l6 : sn7 [ρ 30, ρ 3] (γ 5) 0 0 (γ 6) := hS7 _ _ _ _ _ l6
  have l7 : sn6 [ρ 40, ρ 3] (γ 6) 0 (ρ 41) (γ 7) := hS6 _ _ _ _ _ l7
  have l8 : ρ 41 ≠ 44 := l8
  obtain ⟨wl_0, wl_1⟩ : (ρ 34 ≠ 1) ∧ (ρ 41 ≠ 44) := ⟨by omega, by omega⟩
  show jn36 [ρ 0, ρ 1, ρ 2, ρ 3, ρ 4, ρ 5, ρ 6, ρ 7, ρ 8, ρ 9, ρ 10, ρ 11, ρ 12, ρ 13, ρ 14, ρ 15, ρ 16] (γ 0) 0 [ρ 0, ρ 1, ρ 2, ρ 3, ρ 4, ρ 5, ρ 6, ρ 7, ρ 8, ρ 9, ρ 10, ρ 11, ρ 12, ρ 13, ρ 14, ρ 15, ρ 16, 0, ρ 39, ρ 19 + 1, ρ 40, ρ 31, ρ 32, ρ 23, ρ 35, ρ 36, ρ 34, ρ 42] (γ 7)
  have hD : en36 (γ 0) (0, [ρ 0, ρ 1, ρ 17, ρ 18, ρ 19], γ 1) = .inl (0, [ρ 0, ρ 1, 0, ρ 39, ρ 19 + 1], γ 7) := by
    unfold en36
    refine (if_pos (show (0 : Nat) = 0 by decide)).trans ?_
    refine (zLet_eq (show _ = γ 1 from rfl)).trans ?_
    refine (zLet_eq (show _ = ρ 0 from rfl)).trans ?_
    refine (zLet_eq (show _ = ρ 1 from rfl)).trans ?_
    refine (zLet_eq (show _ = ρ 17 from rfl)).trans ?_
    refine (zLet_eq (show _ = ρ 18 from rfl)).trans ?_
    refine (zLet_eq (show _ = ρ 19 from rfl)).trans ?_
    refine (zLet_eq m1).trans ?_
    refine (zLet_eq m5).trans ?_
    refine (zLet_eq m6).trans ?_
    refine (zLet_eq m7).trans ?_
    refine (zLet_eq m8).trans ?_
    refine (zLet_eq m11).trans ?_
    refine (zLet_eq m14).trans ?_
    refine (if_neg w_0).trans ?_
    refine (zLet_eq (show fn7 [] (γ 1) = (0, 0, γ 2) from l0.symm)).trans ?_
    refine (zLet_eq (show _ = γ 2 from rfl)).trans ?_
    refine (zLet_eq m24).trans ?_
    refine (if_pos w_1).trans ?_
    refine (zLet_eq (show fn20 [1] (γ 2) = (0, 1, γ 3) from l1.symm)).trans ?_
    refine (zLet_eq (show _ = γ 3 from rfl)).trans ?_
    refine (if_pos zQ1_).trans ?_
    refine (zLet_eq m29).trans ?_
    refine (zLet_eq m30).trans ?_
    refine (zLet_eq c4.symm).trans ?_
    refine (zLet_eq c5.symm).trans ?_
    refine (if_pos wl_0).trans ?_
    refine (if_neg w_2).trans ?_
    refine (zLet_eq (zF1_ok l3)).trans ?_
    refine (zLet_eq (zF2_ok l4)).trans ?_
    refine (zLet_eq (zF2_ok l5)).trans ?_
    refine (zLet_eq (show fn7 [] (γ 5) = (0, 0, γ 6) from l6.symm)).trans ?_
    refine (zLet_eq (show _ = γ 6 from rfl)).trans ?_
    refine (zLet_eq m34).trans ?_
    refine (zLet_eq (show fn6 [ρ 40] (γ 6) = (0, ρ 41, γ 7) from l7.symm)).trans ?_
    refine (zLet_eq (show _ = γ 7 from rfl)).trans ?_
    refine (if_pos w_3).trans ?_
    refine (zLet_eq (show _ = ρ 41 from rfl)).trans ?_
    refine (if_pos wl_1).trans ?_
    rfl
  exact zGoo_ato hJ hD
theorem vn36a0_12 {S : Nat → zSpc} (hS6 : ∀ x g o v gz, S 6 x g o v gz → sn6 x g o v gz) (hS7 : ∀ x g o v gz, S 7 x g o v gz → sn7 x g o v gz) (hS8 : ∀ x g o v gz, S 8 x g o v gz → sn8 x g o v gz) (hS20 : ∀ x g o v gz, S 20 x g o v gz → sn20 x g o v gz) (hS21 : ∀ x g o v gz, S 21 x g o v gz → sn21 x g o v gz) (hS22 : ∀ x g o v gz, S 22 x g o v gz → sn22 x g o v gz) (hS24 : ∀ x g o v gz, S 24 x g o v gz → sn24 x g o v gz) (hS25 : ∀ x g o v gz, S 25 x g o v gz → sn25 x g o v gz) (hS33 : ∀ x g o v gz, S 33 x g o v gz → sn33 x g o v gz) {a : List Int} {g : rHp} : ∀ (ρ : Nat → Int) (γ : Nat → rHp), jn36 a g 0 (zAg (zNA a36_ 0) ρ) (γ 1) → zO 17 S a g q36a0_12 ρ γ → zGl (fun i vs g1 => jn36 a g i vs g1) (sn36 a g) q36a0_12 ρ γ := by
  intro ρ γ hJ h
  obtain ⟨ha, hg, hr, hf, hm, hc, hl⟩ := h
  have ha : a = [ρ 0, ρ 1, ρ 2, ρ 3, ρ 4, ρ 5, ρ 6, ρ 7, ρ 8, ρ 9, ρ 10, ρ 11, ρ 12, ρ 13, ρ 14, ρ 15, ρ 16] := ha
  subst ha
  subst hg
  have hJ : jn36 [ρ 0, ρ 1, ρ 2, ρ 3, ρ 4, ρ 5, ρ 6, ρ 7, ρ 8, ρ 9, ρ 10, ρ 11, ρ 12, ρ 13, ρ 14, ρ 15, ρ 16] (γ 0) 0 [ρ 0, ρ 1, ρ 2, ρ 3, ρ 4, ρ 5, ρ 6, ρ 7, ρ 8, ρ 9, ρ 10, ρ 11, ρ 12, ρ 13, ρ 14, ρ 15, ρ 16, ρ 17, ρ 18, ρ 19, ρ 20, ρ 21, ρ 22, ρ 23, ρ 24, ρ 25, ρ 26, ρ 27] (γ 1) := hJ
  obtain ⟨-, -, -, -, -, -, -, -, -, -, -, -, -, -, -, -, -, r17, -, r19, -, -, -, -, -, -, -, -, -, -, -, -, -, -, r34, -, -, -, -, -, -, r41, -⟩ := hr
  have r17 : (1 : Int) ≤ ρ 17 ∧ ρ 17 ≤ 1 := r17
  have r19 : (0 : Int) ≤ ρ 19 ∧ ρ 19 ≤ 3 := r19
  have r34 : (1 : Int) ≤ ρ 34 ∧ ρ 34 ≤ 1 := r34
  have r41 : (44 : Int) ≤ ρ 41 ∧ ρ 41 ≤ 44 := r41
  obtain ⟨f0, -⟩ := hf
  have f0 : (0 : Int) ≤ -ρ 40 + ρ 3 + (-1) := f0
  obtain ⟨w_0, w_1, w_2, w_3, w_4⟩ : (¬ (ρ 17 = 0)) ∧ (ρ 19 ≠ 4) ∧ (¬ (ρ 34 ≠ 1)) ∧ (0 ≤ -ρ 40 + ρ 3 + (-1)) ∧ (¬ (ρ 41 ≠ 44)) := ⟨by omega, by omega, by omega, by omega, by omega⟩
  obtain ⟨-, m1, -, -, -, m5, m6, m7, m8, -, -, m11, -, -, m14, -, -, -, -, -, -, -, -, -, m24, -, -, -, -, m29, m30, -, -, -, m34, -⟩ := hm
  have m1 : γ 0 15 0 34 = ρ 3 := m1
  have m5 : γ 0 15 0 37 = ρ 7 := m5
  have m6 : γ 0 15 0 38 = ρ 8 := m6
  have m7 : γ 0 15 0 44 = ρ 9 := m7
  have m8 : γ 0 73 0 (ρ 9) = ρ 10 := m8
  have m11 : γ 0 15 0 14 = ρ 13 := m11
  have m14 : γ 0 15 0 45 = ρ 16 := m14
  have m24 : γ 2 15 0 35 = ρ 28 := m24
  have m29 : γ 3 15 0 39 = ρ 33 := m29
  have m30 : γ 3 15 0 40 = ρ 34 := m30
  have m34 : γ 6 15 0 35 = ρ 40 := m34
  obtain ⟨⟨⟨⟨⟨-, c4⟩, c5⟩, -⟩, -⟩, c8⟩ := hc
  have c4 : γ 4 = rUp (γ 3) 80 0 (ρ 19 + (4 * ρ 10 + 32 * ρ 9)) (ρ 34) := c4
  have c5 : γ 5 = rUp (γ 4) 81 0 (ρ 19 + (4 * ρ 10 + 32 * ρ 9)) (ρ 33) := c5
  have c8 : γ 8 = rUp (γ 7) 15 0 35 (ρ 40 + 1) := c8
  obtain ⟨l0, l1, l2, l3, l4, l5, l6, l7, -⟩ := hl
  have l0 : sn7 [ρ 20, ρ 3] (γ 1) 0 0 (γ 2) := hS7 _ _ _ _ _ l0
  have l1 : sn20 [1, ρ 28, ρ 3, ρ 21, ρ 22, ρ 29, ρ 26, ρ 14, ρ 24, ρ 25, ρ 9] (γ 2) 0 1 (γ 3) := hS20 _ _ _ _ _ l1
  have l2 : ρ 34 ≠ 1 := l2
  have l3 : zOpP (.l2i) (γ 0) (γ 1) [ρ 33] (ρ 37) := l3
  have l4 : zOpP (.ishl) (γ 0) (γ 1) [1, ρ 37] (ρ 38) := l4
  have l5 : zOpP (.ior) (γ 0) (γ 1) [ρ 18, ρ 38] (ρ 39) := l5
  have l6 : sn7 [ρ 30, ρ 3] (γ 5) 0 0 (γ 6) := hS7 _ _ _ _ _ l6
  have l7 : sn6 [ρ 40, ρ 3] (γ 6) 0 (ρ 41) (γ 7) := hS6 _ _ _ _ _ l7
  have wl_0 : ρ 34 ≠ 1 := by omega
  show jn36 [ρ 0, ρ 1, ρ 2, ρ 3, ρ 4, ρ 5, ρ 6, ρ 7, ρ 8, ρ 9, ρ 10, ρ 11, ρ 12, ρ 13, ρ 14, ρ 15, ρ 16] (γ 0) 0 [ρ 0, ρ 1, ρ 2, ρ 3, ρ 4, ρ 5, ρ 6, ρ 7, ρ 8, ρ 9, ρ 10, ρ 11, ρ 12, ρ 13, ρ 14, ρ 15, ρ 16, 1, ρ 39, ρ 19 + 1, ρ 40 + 1, ρ 31, ρ 32, ρ 23, ρ 35, ρ 36, ρ 34, ρ 42] (γ 8)
  have hD : en36 (γ 0) (0, [ρ 0, ρ 1, ρ 17, ρ 18, ρ 19], γ 1) = .inl (0, [ρ 0, ρ 1, 1, ρ 39, ρ 19 + 1], γ 8) := by
    unfold en36
    refine (if_pos (show (0 : Nat) = 0 by decide)).trans ?_
    refine (zLet_eq (show _ = γ 1 from rfl)).trans ?_
    refine (zLet_eq (show _ = ρ 0 from rfl)).trans ?_
    refine (zLet_eq (show _ = ρ 1 from rfl)).trans ?_
    refine (zLet_eq (show _ = ρ 17 from rfl)).trans ?_
    refine (zLet_eq (show _ = ρ 18 from rfl)).trans ?_
    refine (zLet_eq (show _ = ρ 19 from rfl)).trans ?_
    refine (zLet_eq m1).trans ?_
    refine (zLet_eq m5).trans ?_
    refine (zLet_eq m6).trans ?_
    refine (zLet_eq m7).trans ?_
    refine (zLet_eq m8).trans ?_
    refine (zLet_eq m11).trans ?_
    refine (zLet_eq m14).trans ?_
    refine (if_neg w_0).trans ?_
    refine (zLet_eq (show fn7 [] (γ 1) = (0, 0, γ 2) from l0.symm)).trans ?_
    refine (zLet_eq (show _ = γ 2 from rfl)).trans ?_
    refine (zLet_eq m24).trans ?_
    refine (if_pos w_1).trans ?_
    refine (zLet_eq (show fn20 [1] (γ 2) = (0, 1, γ 3) from l1.symm)).trans ?_
    refine (zLet_eq (show _ = γ 3 from rfl)).trans ?_
    refine (if_pos zQ1_).trans ?_
    refine (zLet_eq m29).trans ?_
    refine (zLet_eq m30).trans ?_
    refine (zLet_eq c4.symm).trans ?_
    refine (zLet_eq c5.symm).trans ?_
    refine (if_pos wl_0).trans ?_
    refine (if_neg w_2).trans ?_
    refine (zLet_eq (zF1_ok l3)).trans ?_
    refine (zLet_eq (zF2_ok l4)).trans ?_
    refine (zLet_eq (zF2_ok l5)).trans ?_
    refine (zLet_eq (show fn7 [] (γ 5) = (0, 0, γ 6) from l6.symm)).trans ?_
    refine (zLet_eq (show _ = γ 6 from rfl)).trans ?_
    refine (zLet_eq m34).trans ?_
    refine (zLet_eq (show fn6 [ρ 40] (γ 6) = (0, ρ 41, γ 7) from l7.symm)).trans ?_
    refine (zLet_eq (show _ = γ 7 from rfl)).trans ?_
    refine (if_pos w_3).trans ?_
    refine (zLet_eq (show _ = ρ 41 from rfl)).trans ?_
    refine (if_neg w_4).trans ?_
    refine (zLet_eq c8.symm).trans ?_
    rfl
  exact zGoo_ato hJ hD
theorem vn36a0_13 {S : Nat → zSpc} (hS6 : ∀ x g o v gz, S 6 x g o v gz → sn6 x g o v gz) (hS7 : ∀ x g o v gz, S 7 x g o v gz → sn7 x g o v gz) (hS8 : ∀ x g o v gz, S 8 x g o v gz → sn8 x g o v gz) (hS20 : ∀ x g o v gz, S 20 x g o v gz → sn20 x g o v gz) (hS21 : ∀ x g o v gz, S 21 x g o v gz → sn21 x g o v gz) (hS22 : ∀ x g o v gz, S 22 x g o v gz → sn22 x g o v gz) (hS24 : ∀ x g o v gz, S 24 x g o v gz → sn24 x g o v gz) (hS25 : ∀ x g o v gz, S 25 x g o v gz → sn25 x g o v gz) (hS33 : ∀ x g o v gz, S 33 x g o v gz → sn33 x g o v gz) {a : List Int} {g : rHp} : ∀ (ρ : Nat → Int) (γ : Nat → rHp), jn36 a g 0 (zAg (zNA a36_ 0) ρ) (γ 1) → zO 17 S a g q36a0_13 ρ γ → zGl (fun i vs g1 => jn36 a g i vs g1) (sn36 a g) q36a0_13 ρ γ := by
  intro ρ γ hJ h
  obtain ⟨ha, hg, hr, hf, hm, hc, hl⟩ := h
  have ha : a = [ρ 0, ρ 1, ρ 2, ρ 3, ρ 4, ρ 5, ρ 6, ρ 7, ρ 8, ρ 9, ρ 10, ρ 11, ρ 12, ρ 13, ρ 14, ρ 15, ρ 16] := ha
  subst ha
  subst hg
  have hJ : jn36 [ρ 0, ρ 1, ρ 2, ρ 3, ρ 4, ρ 5, ρ 6, ρ 7, ρ 8, ρ 9, ρ 10, ρ 11, ρ 12, ρ 13, ρ 14, ρ 15, ρ 16] (γ 0) 0 [ρ 0, ρ 1, ρ 2, ρ 3, ρ 4, ρ 5, ρ 6, ρ 7, ρ 8, ρ 9, ρ 10, ρ 11, ρ 12, ρ 13, ρ 14, ρ 15, ρ 16, ρ 17, ρ 18, ρ 19, ρ 20, ρ 21, ρ 22, ρ 23, ρ 24, ρ 25, ρ 26, ρ 27] (γ 1) := hJ
  obtain ⟨-, -, -, -, -, -, -, -, -, -, -, -, -, -, -, -, -, r17, -, r19, -, -, -, -, -, -, -, -, -, -, -, -, -, -, r34, -⟩ := hr
  have r17 : (1 : Int) ≤ ρ 17 ∧ ρ 17 ≤ 1 := r17
  have r19 : (0 : Int) ≤ ρ 19 ∧ ρ 19 ≤ 3 := r19
  have r34 : (1 : Int) ≤ ρ 34 ∧ ρ 34 ≤ 1 := r34
  obtain ⟨f0, -⟩ := hf
  have f0 : (0 : Int) ≤ ρ 40 + -ρ 3 := f0
  obtain ⟨w_0, w_1, w_2, w_3⟩ : (¬ (ρ 17 = 0)) ∧ (ρ 19 ≠ 4) ∧ (¬ (ρ 34 ≠ 1)) ∧ (¬ (0 ≤ -ρ 40 + ρ 3 + (-1))) := ⟨by omega, by omega, by omega, by omega⟩
  obtain ⟨-, m1, -, -, -, m5, m6, m7, m8, -, -, m11, -, -, m14, -, -, -, -, -, -, -, -, -, m24, -, -, -, -, m29, m30, -, -, -, m34, -⟩ := hm
  have m1 : γ 0 15 0 34 = ρ 3 := m1
  have m5 : γ 0 15 0 37 = ρ 7 := m5
  have m6 : γ 0 15 0 38 = ρ 8 := m6
  have m7 : γ 0 15 0 44 = ρ 9 := m7
  have m8 : γ 0 73 0 (ρ 9) = ρ 10 := m8
  have m11 : γ 0 15 0 14 = ρ 13 := m11
  have m14 : γ 0 15 0 45 = ρ 16 := m14
  have m24 : γ 2 15 0 35 = ρ 28 := m24
  have m29 : γ 3 15 0 39 = ρ 33 := m29
  have m30 : γ 3 15 0 40 = ρ 34 := m30
  have m34 : γ 6 15 0 35 = ρ 40 := m34
  obtain ⟨⟨⟨⟨-, c4⟩, c5⟩, -⟩, -⟩ := hc
  have c4 : γ 4 = rUp (γ 3) 80 0 (ρ 19 + (4 * ρ 10 + 32 * ρ 9)) (ρ 34) := c4
  have c5 : γ 5 = rUp (γ 4) 81 0 (ρ 19 + (4 * ρ 10 + 32 * ρ 9)) (ρ 33) := c5
  obtain ⟨l0, l1, l2, l3, l4, l5, l6, l7, -⟩ := hl
  have l0 : sn7 [ρ 20, ρ 3] (γ 1) 0 0 (γ 2) := hS7 _ _ _ _ _ l0
  have l1 : sn20 [1, ρ 28, ρ 3, ρ 21, ρ 22, ρ 29, ρ 26, ρ 14, ρ 24, ρ 25, ρ 9] (γ 2) 0 1 (γ 3) := hS20 _ _ _ _ _ l1
  have l2 : ρ 34 ≠ 1 := l2
  have l3 : zOpP (.l2i) (γ 0) (γ 1) [ρ 33] (ρ 37) := l3
  have l4 : zOpP (.ishl) (γ 0) (γ 1) [1, ρ 37] (ρ 38) := l4
  have l5 : zOpP (.ior) (γ 0) (γ 1) [ρ 18, ρ 38] (ρ 39) := l5
  have l6 : sn7 [ρ 30, ρ 3] (γ 5) 0 0 (γ 6) := hS7 _ _ _ _ _ l6
  have l7 : sn6 [ρ 40, ρ 3] (γ 6) 0 (-1) (γ 7) := hS6 _ _ _ _ _ l7
  have wl_0 : ρ 34 ≠ 1 := by omega
  show jn36 [ρ 0, ρ 1, ρ 2, ρ 3, ρ 4, ρ 5, ρ 6, ρ 7, ρ 8, ρ 9, ρ 10, ρ 11, ρ 12, ρ 13, ρ 14, ρ 15, ρ 16] (γ 0) 0 [ρ 0, ρ 1, ρ 2, ρ 3, ρ 4, ρ 5, ρ 6, ρ 7, ρ 8, ρ 9, ρ 10, ρ 11, ρ 12, ρ 13, ρ 14, ρ 15, ρ 16, 0, ρ 39, ρ 19 + 1, ρ 40, ρ 31, ρ 32, ρ 23, ρ 35, ρ 36, ρ 34, ρ 41] (γ 7)
  have hD : en36 (γ 0) (0, [ρ 0, ρ 1, ρ 17, ρ 18, ρ 19], γ 1) = .inl (0, [ρ 0, ρ 1, 0, ρ 39, ρ 19 + 1], γ 7) := by
    unfold en36
    refine (if_pos (show (0 : Nat) = 0 by decide)).trans ?_
    refine (zLet_eq (show _ = γ 1 from rfl)).trans ?_
    refine (zLet_eq (show _ = ρ 0 from rfl)).trans ?_
    refine (zLet_eq (show _ = ρ 1 from rfl)).trans ?_
    refine (zLet_eq (show _ = ρ 17 from rfl)).trans ?_
    refine (zLet_eq (show _ = ρ 18 from rfl)).trans ?_
    refine (zLet_eq (show _ = ρ 19 from rfl)).trans ?_
    refine (zLet_eq m1).trans ?_
    refine (zLet_eq m5).trans ?_
    refine (zLet_eq m6).trans ?_
    refine (zLet_eq m7).trans ?_
    refine (zLet_eq m8).trans ?_
    refine (zLet_eq m11).trans ?_
    refine (zLet_eq m14).trans ?_
    refine (if_neg w_0).trans ?_
    refine (zLet_eq (show fn7 [] (γ 1) = (0, 0, γ 2) from l0.symm)).trans ?_
    refine (zLet_eq (show _ = γ 2 from rfl)).trans ?_
    refine (zLet_eq m24).trans ?_
    refine (if_pos w_1).trans ?_
    refine (zLet_eq (show fn20 [1] (γ 2) = (0, 1, γ 3) from l1.symm)).trans ?_
    refine (zLet_eq (show _ = γ 3 from rfl)).trans ?_
    refine (if_pos zQ1_).trans ?_
    refine (zLet_eq m29).trans ?_
    refine (zLet_eq m30).trans ?_
    refine (zLet_eq c4.symm).trans ?_
    refine (zLet_eq c5.symm).trans ?_
    refine (if_pos wl_0).trans ?_
    refine (if_neg w_2).trans ?_
    refine (zLet_eq (zF1_ok l3)).trans ?_
    refine (zLet_eq (zF2_ok l4)).trans ?_
    refine (zLet_eq (zF2_ok l5)).trans ?_
    refine (zLet_eq (show fn7 [] (γ 5) = (0, 0, γ 6) from l6.symm)).trans ?_
    refine (zLet_eq (show _ = γ 6 from rfl)).trans ?_
    refine (zLet_eq m34).trans ?_
    refine (zLet_eq (show fn6 [ρ 40] (γ 6) = (0, (-1), γ 7) from l7.symm)).trans ?_
    refine (zLet_eq (show _ = γ 7 from rfl)).trans ?_
    refine (if_neg w_3).trans ?_
    rfl
  exact zGoo_ato hJ hD
theorem vn36a0_14 {S : Nat → zSpc} (hS6 : ∀ x g o v gz, S 6 x g o v gz → sn6 x g o v gz) (hS7 : ∀ x g o v gz, S 7 x g o v gz → sn7 x g o v gz) (hS8 : ∀ x g o v gz, S 8 x g o v gz → sn8 x g o v gz) (hS20 : ∀ x g o v gz, S 20 x g o v gz → sn20 x g o v gz) (hS21 : ∀ x g o v gz, S 21 x g o v gz → sn21 x g o v gz) (hS22 : ∀ x g o v gz, S 22 x g o v gz → sn22 x g o v gz) (hS24 : ∀ x g o v gz, S 24 x g o v gz → sn24 x g o v gz) (hS25 : ∀ x g o v gz, S 25 x g o v gz → sn25 x g o v gz) (hS33 : ∀ x g o v gz, S 33 x g o v gz → sn33 x g o v gz) {a : List Int} {g : rHp} : ∀ (ρ : Nat → Int) (γ : Nat → rHp), jn36 a g 0 (zAg (zNA a36_ 0) ρ) (γ 1) → zO 17 S a g q36a0_14 ρ γ → zGl (fun i vs g1 => jn36 a g i vs g1) (sn36 a g) q36a0_14 ρ γ := by
  intro ρ γ hJ h
  obtain ⟨ha, hg, hr, hf, hm, hc, hl⟩ := h
  have ha : a = [ρ 0, ρ 1, ρ 2, ρ 3, ρ 4, ρ 5, ρ 6, ρ 7, ρ 8, ρ 9, ρ 10, ρ 11, ρ 12, ρ 13, ρ 14, ρ 15, ρ 16] := ha
  subst ha
  subst hg
  have hJ : jn36 [ρ 0, ρ 1, ρ 2, ρ 3, ρ 4, ρ 5, ρ 6, ρ 7, ρ 8, ρ 9, ρ 10, ρ 11, ρ 12, ρ 13, ρ 14, ρ 15, ρ 16] (γ 0) 0 [ρ 0, ρ 1, ρ 2, ρ 3, ρ 4, ρ 5, ρ 6, ρ 7, ρ 8, ρ 9, ρ 10, ρ 11, ρ 12, ρ 13, ρ 14, ρ 15, ρ 16, ρ 17, ρ 18, ρ 19, ρ 20, ρ 21, ρ 22, ρ 23, ρ 24, ρ 25, ρ 26, ρ 27] (γ 1) := hJ
  obtain ⟨r0, -, -, -, -, -, -, -, -, -, -, -, -, -, -, -, -, r17, -, r19, -, -, -, -, -, -, -, -, -, -, -, -, -, -, r34, -, -, -, -, -, -, r41, -⟩ := hr
  have r0 : (0 : Int) ≤ ρ 0 ∧ ρ 0 ≤ 0 := r0
  have r17 : (1 : Int) ≤ ρ 17 ∧ ρ 17 ≤ 1 := r17
  have r19 : (0 : Int) ≤ ρ 19 ∧ ρ 19 ≤ 3 := r19
  have r34 : (1 : Int) ≤ ρ 34 ∧ ρ 34 ≤ 1 := r34
  have r41 : ((-128) : Int) ≤ ρ 41 ∧ ρ 41 ≤ 127 := r41
  obtain ⟨f0, -⟩ := hf
  have f0 : (0 : Int) ≤ -ρ 40 + ρ 3 + (-1) := f0
  obtain ⟨w_0, w_1, w_2, w_3, w_4⟩ : (¬ (ρ 17 = 0)) ∧ (ρ 19 ≠ 4) ∧ (¬ (ρ 34 ≠ 1)) ∧ (ρ 0 = 0) ∧ (0 ≤ -ρ 40 + ρ 3 + (-1)) := ⟨by omega, by omega, by omega, by omega, by omega⟩
  obtain ⟨-, m1, -, -, -, m5, m6, m7, m8, -, -, m11, -, -, m14, -, -, -, -, -, -, -, -, -, m24, -, -, -, -, m29, m30, -, -, -, m34, -⟩ := hm
  have m1 : γ 0 15 0 34 = ρ 3 := m1
  have m5 : γ 0 15 0 37 = ρ 7 := m5
  have m6 : γ 0 15 0 38 = ρ 8 := m6
  have m7 : γ 0 15 0 44 = ρ 9 := m7
  have m8 : γ 0 73 0 (ρ 9) = ρ 10 := m8
  have m11 : γ 0 15 0 14 = ρ 13 := m11
  have m14 : γ 0 15 0 45 = ρ 16 := m14
  have m24 : γ 2 15 0 35 = ρ 28 := m24
  have m29 : γ 3 15 0 39 = ρ 33 := m29
  have m30 : γ 3 15 0 40 = ρ 34 := m30
  have m34 : γ 6 15 0 35 = ρ 40 := m34
  obtain ⟨⟨⟨⟨-, c4⟩, c5⟩, -⟩, -⟩ := hc
  have c4 : γ 4 = rUp (γ 3) 80 0 (ρ 19 + (4 * ρ 10 + 32 * ρ 9)) (ρ 34) := c4
  have c5 : γ 5 = rUp (γ 4) 81 0 (ρ 19 + (4 * ρ 10 + 32 * ρ 9)) (ρ 33) := c5
  obtain ⟨l0, l1, l2, l3, l4, l5, l6, l7, -⟩ := hl
  have l0 : sn7 [ρ 20, ρ 3] (γ 1) 0 0 (γ 2) := hS7 _ _ _ _ _ l0
  have l1 : sn20 [1, ρ 28, ρ 3, ρ 21, ρ 22, ρ 29, ρ 26, ρ 14, ρ 24, ρ 25, ρ 9] (γ 2) 0 1 (γ 3) := hS20 _ _ _ _ _ l1
  have l2 : zOpP (.l2i) (γ 0) (γ 1) [ρ 33] (ρ 37) := l2
  have l3 : zOpP (.ishl) (γ 0) (γ 1) [1, ρ 37] (ρ 38) := l3
  have l4 : zOpP (.ior) (γ 0) (γ 1) [ρ 18, ρ 38] (ρ 39) := l4
  have l5 : sn7 [ρ 30, ρ 3] (γ 5) 0 0 (γ 6) := hS7 _ _ _ _ _ l5
  have l6 : sn6 [ρ 40, ρ 3] (γ 6) 0 (ρ 41) (γ 7) := hS6 _ _ _ _ _ l6
  have l7 : ρ 41 ≠ 44 := l7
  have wl_0 : ρ 41 ≠ 44 := by omega
  show jn36 [ρ 0, ρ 1, ρ 2, ρ 3, ρ 4, ρ 5, ρ 6, ρ 7, ρ 8, ρ 9, ρ 10, ρ 11, ρ 12, ρ 13, ρ 14, ρ 15, ρ 16] (γ 0) 0 [ρ 0, ρ 1, ρ 2, ρ 3, ρ 4, ρ 5, ρ 6, ρ 7, ρ 8, ρ 9, ρ 10, ρ 11, ρ 12, ρ 13, ρ 14, ρ 15, ρ 16, 0, ρ 39, ρ 19 + 1, ρ 40, ρ 31, ρ 32, ρ 23, ρ 35, ρ 36, ρ 34, ρ 42] (γ 7)
  have hD : en36 (γ 0) (0, [ρ 0, ρ 1, ρ 17, ρ 18, ρ 19], γ 1) = .inl (0, [ρ 0, ρ 1, 0, ρ 39, ρ 19 + 1], γ 7) := by
    unfold en36
    refine (if_pos (show (0 : Nat) = 0 by decide)).trans ?_
    refine (zLet_eq (show _ = γ 1 from rfl)).trans ?_
    refine (zLet_eq (show _ = ρ 0 from rfl)).trans ?_
    refine (zLet_eq (show _ = ρ 1 from rfl)).trans ?_
    refine (zLet_eq (show _ = ρ 17 from rfl)).trans ?_
    refine (zLet_eq (show _ = ρ 18 from rfl)).trans ?_
    refine (zLet_eq (show _ = ρ 19 from rfl)).trans ?_
    refine (zLet_eq m1).trans ?_
    refine (zLet_eq m5).trans ?_
    refine (zLet_eq m6).trans ?_
    refine (zLet_eq m7).trans ?_
    refine (zLet_eq m8).trans ?_
    refine (zLet_eq m11).trans ?_
    refine (zLet_eq m14).trans ?_
    refine (if_neg w_0).trans ?_
    refine (zLet_eq (show fn7 [] (γ 1) = (0, 0, γ 2) from l0.symm)).trans ?_
    refine (zLet_eq (show _ = γ 2 from rfl)).trans ?_
    refine (zLet_eq m24).trans ?_
    refine (if_pos w_1).trans ?_
    refine (zLet_eq (show fn20 [1] (γ 2) = (0, 1, γ 3) from l1.symm)).trans ?_
    refine (zLet_eq (show _ = γ 3 from rfl)).trans ?_
    refine (if_pos zQ1_).trans ?_
    refine (zLet_eq m29).trans ?_
    refine (zLet_eq m30).trans ?_
    refine (zLet_eq c4.symm).trans ?_
    refine (zLet_eq c5.symm).trans ?_
    refine (if_neg w_2).trans ?_
    refine (if_pos w_3).trans ?_
    refine (zLet_eq (zF1_ok l2)).trans ?_
    refine (zLet_eq (zF2_ok l3)).trans ?_
    refine (zLet_eq (zF2_ok l4)).trans ?_
    refine (zLet_eq (show fn7 [] (γ 5) = (0, 0, γ 6) from l5.symm)).trans ?_
    refine (zLet_eq (show _ = γ 6 from rfl)).trans ?_
    refine (zLet_eq m34).trans ?_
    refine (zLet_eq (show fn6 [ρ 40] (γ 6) = (0, ρ 41, γ 7) from l6.symm)).trans ?_
    refine (zLet_eq (show _ = γ 7 from rfl)).trans ?_
    refine (if_pos w_4).trans ?_
    refine (zLet_eq (show _ = ρ 41 from rfl)).trans ?_
    refine (if_pos wl_0).trans ?_
    rfl
  exact zGoo_ato hJ hD
theorem vn36a0_15 {S : Nat → zSpc} (hS6 : ∀ x g o v gz, S 6 x g o v gz → sn6 x g o v gz) (hS7 : ∀ x g o v gz, S 7 x g o v gz → sn7 x g o v gz) (hS8 : ∀ x g o v gz, S 8 x g o v gz → sn8 x g o v gz) (hS20 : ∀ x g o v gz, S 20 x g o v gz → sn20 x g o v gz) (hS21 : ∀ x g o v gz, S 21 x g o v gz → sn21 x g o v gz) (hS22 : ∀ x g o v gz, S 22 x g o v gz → sn22 x g o v gz) (hS24 : ∀ x g o v gz, S 24 x g o v gz → sn24 x g o v gz) (hS25 : ∀ x g o v gz, S 25 x g o v gz → sn25 x g o v gz) (hS33 : ∀ x g o v gz, S 33 x g o v gz → sn33 x g o v gz) {a : List Int} {g : rHp} : ∀ (ρ : Nat → Int) (γ : Nat → rHp), jn36 a g 0 (zAg (zNA a36_ 0) ρ) (γ 1) → zO 17 S a g q36a0_15 ρ γ → zGl (fun i vs g1 => jn36 a g i vs g1) (sn36 a g) q36a0_15 ρ γ := by
  intro ρ γ hJ h
  obtain ⟨ha, hg, hr, hf, hm, hc, hl⟩ := h
  have ha : a = [ρ 0, ρ 1, ρ 2, ρ 3, ρ 4, ρ 5, ρ 6, ρ 7, ρ 8, ρ 9, ρ 10, ρ 11, ρ 12, ρ 13, ρ 14, ρ 15, ρ 16] := ha
  subst ha
  subst hg
  have hJ : jn36 [ρ 0, ρ 1, ρ 2, ρ 3, ρ 4, ρ 5, ρ 6, ρ 7, ρ 8, ρ 9, ρ 10, ρ 11, ρ 12, ρ 13, ρ 14, ρ 15, ρ 16] (γ 0) 0 [ρ 0, ρ 1, ρ 2, ρ 3, ρ 4, ρ 5, ρ 6, ρ 7, ρ 8, ρ 9, ρ 10, ρ 11, ρ 12, ρ 13, ρ 14, ρ 15, ρ 16, ρ 17, ρ 18, ρ 19, ρ 20, ρ 21, ρ 22, ρ 23, ρ 24, ρ 25, ρ 26, ρ 27] (γ 1) := hJ
  obtain ⟨r0, -, -, -, -, -, -, -, -, -, -, -, -, -, -, -, -, r17, -, r19, -, -, -, -, -, -, -, -, -, -, -, -, -, -, r34, -, -, -, -, -, -, r41, -⟩ := hr
  have r0 : (0 : Int) ≤ ρ 0 ∧ ρ 0 ≤ 0 := r0
  have r17 : (1 : Int) ≤ ρ 17 ∧ ρ 17 ≤ 1 := r17
  have r19 : (0 : Int) ≤ ρ 19 ∧ ρ 19 ≤ 3 := r19
  have r34 : (1 : Int) ≤ ρ 34 ∧ ρ 34 ≤ 1 := r34
  have r41 : (44 : Int) ≤ ρ 41 ∧ ρ 41 ≤ 44 := r41
  obtain ⟨f0, -⟩ := hf
  have f0 : (0 : Int) ≤ -ρ 40 + ρ 3 + (-1) := f0
  obtain ⟨w_0, w_1, w_2, w_3, w_4, w_5⟩ : (¬ (ρ 17 = 0)) ∧ (ρ 19 ≠ 4) ∧ (¬ (ρ 34 ≠ 1)) ∧ (ρ 0 = 0) ∧ (0 ≤ -ρ 40 + ρ 3 + (-1)) ∧ (¬ (ρ 41 ≠ 44)) := ⟨by omega, by omega, by omega, by omega, by omega, by omega⟩
  obtain ⟨-, m1, -, -, -, m5, m6, m7, m8, -, -, m11, -, -, m14, -, -, -, -, -, -, -, -, -, m24, -, -, -, -, m29, m30, -, -, -, m34, -⟩ := hm
  have m1 : γ 0 15 0 34 = ρ 3 := m1
  have m5 : γ 0 15 0 37 = ρ 7 := m5
  have m6 : γ 0 15 0 38 = ρ 8 := m6
  have m7 : γ 0 15 0 44 = ρ 9 := m7
  have m8 : γ 0 73 0 (ρ 9) = ρ 10 := m8
  have m11 : γ 0 15 0 14 = ρ 13 := m11
  have m14 : γ 0 15 0 45 = ρ 16 := m14
  have m24 : γ 2 15 0 35 = ρ 28 := m24
  have m29 : γ 3 15 0 39 = ρ 33 := m29
  have m30 : γ 3 15 0 40 = ρ 34 := m30
  have m34 : γ 6 15 0 35 = ρ 40 := m34
  obtain ⟨⟨⟨⟨⟨-, c4⟩, c5⟩, -⟩, -⟩, c8⟩ := hc
  have c4 : γ 4 = rUp (γ 3) 80 0 (ρ 19 + (4 * ρ 10 + 32 * ρ 9)) (ρ 34) := c4
  have c5 : γ 5 = rUp (γ 4) 81 0 (ρ 19 + (4 * ρ 10 + 32 * ρ 9)) (ρ 33) := c5
  have c8 : γ 8 = rUp (γ 7) 15 0 35 (ρ 40 + 1) := c8
  obtain ⟨l0, l1, l2, l3, l4, l5, l6, -⟩ := hl
  have l0 : sn7 [ρ 20, ρ 3] (γ 1) 0 0 (γ 2) := hS7 _ _ _ _ _ l0
  have l1 : sn20 [1, ρ 28, ρ 3, ρ 21, ρ 22, ρ 29, ρ 26, ρ 14, ρ 24, ρ 25, ρ 9] (γ 2) 0 1 (γ 3) := hS20 _ _ _ _ _ l1
  have l2 : zOpP (.l2i) (γ 0) (γ 1) [ρ 33] (ρ 37) := l2
  have l3 : zOpP (.ishl) (γ 0) (γ 1) [1, ρ 37] (ρ 38) := l3
  have l4 : zOpP (.ior) (γ 0) (γ 1) [ρ 18, ρ 38] (ρ 39) := l4
  have l5 : sn7 [ρ 30, ρ 3] (γ 5) 0 0 (γ 6) := hS7 _ _ _ _ _ l5
  have l6 : sn6 [ρ 40, ρ 3] (γ 6) 0 (ρ 41) (γ 7) := hS6 _ _ _ _ _ l6
  show jn36 [ρ 0, ρ 1, ρ 2, ρ 3, ρ 4, ρ 5, ρ 6, ρ 7, ρ 8, ρ 9, ρ 10, ρ 11, ρ 12, ρ 13, ρ 14, ρ 15, ρ 16] (γ 0) 0 [ρ 0, ρ 1, ρ 2, ρ 3, ρ 4, ρ 5, ρ 6, ρ 7, ρ 8, ρ 9, ρ 10, ρ 11, ρ 12, ρ 13, ρ 14, ρ 15, ρ 16, 1, ρ 39, ρ 19 + 1, ρ 40 + 1, ρ 31, ρ 32, ρ 23, ρ 35, ρ 36, ρ 34, ρ 42] (γ 8)
  have hD : en36 (γ 0) (0, [ρ 0, ρ 1, ρ 17, ρ 18, ρ 19], γ 1) = .inl (0, [ρ 0, ρ 1, 1, ρ 39, ρ 19 + 1], γ 8) := by
    unfold en36
    refine (if_pos (show (0 : Nat) = 0 by decide)).trans ?_
    refine (zLet_eq (show _ = γ 1 from rfl)).trans ?_
    refine (zLet_eq (show _ = ρ 0 from rfl)).trans ?_
    refine (zLet_eq (show _ = ρ 1 from rfl)).trans ?_
    refine (zLet_eq (show _ = ρ 17 from rfl)).trans ?_
    refine (zLet_eq (show _ = ρ 18 from rfl)).trans ?_
    refine (zLet_eq (show _ = ρ 19 from rfl)).trans ?_
    refine (zLet_eq m1).trans ?_
    refine (zLet_eq m5).trans ?_
    refine (zLet_eq m6).trans ?_
    refine (zLet_eq m7).trans ?_
    refine (zLet_eq m8).trans ?_
    refine (zLet_eq m11).trans ?_
    refine (zLet_eq m14).trans ?_
    refine (if_neg w_0).trans ?_
    refine (zLet_eq (show fn7 [] (γ 1) = (0, 0, γ 2) from l0.symm)).trans ?_
    refine (zLet_eq (show _ = γ 2 from rfl)).trans ?_
    refine (zLet_eq m24).trans ?_
    refine (if_pos w_1).trans ?_
    refine (zLet_eq (show fn20 [1] (γ 2) = (0, 1, γ 3) from l1.symm)).trans ?_
    refine (zLet_eq (show _ = γ 3 from rfl)).trans ?_
    refine (if_pos zQ1_).trans ?_
    refine (zLet_eq m29).trans ?_
    refine (zLet_eq m30).trans ?_
    refine (zLet_eq c4.symm).trans ?_
    refine (zLet_eq c5.symm).trans ?_
    refine (if_neg w_2).trans ?_
    refine (if_pos w_3).trans ?_
    refine (zLet_eq (zF1_ok l2)).trans ?_
    refine (zLet_eq (zF2_ok l3)).trans ?_
    refine (zLet_eq (zF2_ok l4)).trans ?_
    refine (zLet_eq (show fn7 [] (γ 5) = (0, 0, γ 6) from l5.symm)).trans ?_
    refine (zLet_eq (show _ = γ 6 from rfl)).trans ?_
    refine (zLet_eq m34).trans ?_
    refine (zLet_eq (show fn6 [ρ 40] (γ 6) = (0, ρ 41, γ 7) from l6.symm)).trans ?_
    refine (zLet_eq (show _ = γ 7 from rfl)).trans ?_
    refine (if_pos w_4).trans ?_
    refine (zLet_eq (show _ = ρ 41 from rfl)).trans ?_
    refine (if_neg w_5).trans ?_
    refine (zLet_eq c8.symm).trans ?_
    rfl
  exact zGoo_ato hJ hD
theorem vn36a0_16 {S : Nat → zSpc} (hS6 : ∀ x g o v gz, S 6 x g o v gz → sn6 x g o v gz) (hS7 : ∀ x g o v gz, S 7 x g o v gz → sn7 x g o v gz) (hS8 : ∀ x g o v gz, S 8 x g o v gz → sn8 x g o v gz) (hS20 : ∀ x g o v gz, S 20 x g o v gz → sn20 x g o v gz) (hS21 : ∀ x g o v gz, S 21 x g o v gz → sn21 x g o v gz) (hS22 : ∀ x g o v gz, S 22 x g o v gz → sn22 x g o v gz) (hS24 : ∀ x g o v gz, S 24 x g o v gz → sn24 x g o v gz) (hS25 : ∀ x g o v gz, S 25 x g o v gz → sn25 x g o v gz) (hS33 : ∀ x g o v gz, S 33 x g o v gz → sn33 x g o v gz) {a : List Int} {g : rHp} : ∀ (ρ : Nat → Int) (γ : Nat → rHp), jn36 a g 0 (zAg (zNA a36_ 0) ρ) (γ 1) → zO 17 S a g q36a0_16 ρ γ → zGl (fun i vs g1 => jn36 a g i vs g1) (sn36 a g) q36a0_16 ρ γ := by
  intro ρ γ hJ h
  obtain ⟨ha, hg, hr, hf, hm, hc, hl⟩ := h
  have ha : a = [ρ 0, ρ 1, ρ 2, ρ 3, ρ 4, ρ 5, ρ 6, ρ 7, ρ 8, ρ 9, ρ 10, ρ 11, ρ 12, ρ 13, ρ 14, ρ 15, ρ 16] := ha
  subst ha
  subst hg
  have hJ : jn36 [ρ 0, ρ 1, ρ 2, ρ 3, ρ 4, ρ 5, ρ 6, ρ 7, ρ 8, ρ 9, ρ 10, ρ 11, ρ 12, ρ 13, ρ 14, ρ 15, ρ 16] (γ 0) 0 [ρ 0, ρ 1, ρ 2, ρ 3, ρ 4, ρ 5, ρ 6, ρ 7, ρ 8, ρ 9, ρ 10, ρ 11, ρ 12, ρ 13, ρ 14, ρ 15, ρ 16, ρ 17, ρ 18, ρ 19, ρ 20, ρ 21, ρ 22, ρ 23, ρ 24, ρ 25, ρ 26, ρ 27] (γ 1) := hJ
  obtain ⟨r0, -, -, -, -, -, -, -, -, -, -, -, -, -, -, -, -, r17, -, r19, -, -, -, -, -, -, -, -, -, -, -, -, -, -, r34, -⟩ := hr
  have r0 : (0 : Int) ≤ ρ 0 ∧ ρ 0 ≤ 0 := r0
  have r17 : (1 : Int) ≤ ρ 17 ∧ ρ 17 ≤ 1 := r17
  have r19 : (0 : Int) ≤ ρ 19 ∧ ρ 19 ≤ 3 := r19
  have r34 : (1 : Int) ≤ ρ 34 ∧ ρ 34 ≤ 1 := r34
  obtain ⟨f0, -⟩ := hf
  have f0 : (0 : Int) ≤ ρ 40 + -ρ 3 := f0
  obtain ⟨w_0, w_1, w_2, w_3, w_4⟩ : (¬ (ρ 17 = 0)) ∧ (ρ 19 ≠ 4) ∧ (¬ (ρ 34 ≠ 1)) ∧ (ρ 0 = 0) ∧ (¬ (0 ≤ -ρ 40 + ρ 3 + (-1))) := ⟨by omega, by omega, by omega, by omega, by omega⟩
  obtain ⟨-, m1, -, -, -, m5, m6, m7, m8, -, -, m11, -, -, m14, -, -, -, -, -, -, -, -, -, m24, -, -, -, -, m29, m30, -, -, -, m34, -⟩ := hm
  have m1 : γ 0 15 0 34 = ρ 3 := m1
  have m5 : γ 0 15 0 37 = ρ 7 := m5
  have m6 : γ 0 15 0 38 = ρ 8 := m6
  have m7 : γ 0 15 0 44 = ρ 9 := m7
  have m8 : γ 0 73 0 (ρ 9) = ρ 10 := m8
  have m11 : γ 0 15 0 14 = ρ 13 := m11
  have m14 : γ 0 15 0 45 = ρ 16 := m14
  have m24 : γ 2 15 0 35 = ρ 28 := m24
  have m29 : γ 3 15 0 39 = ρ 33 := m29
  have m30 : γ 3 15 0 40 = ρ 34 := m30
  have m34 : γ 6 15 0 35 = ρ 40 := m34
  obtain ⟨⟨⟨⟨-, c4⟩, c5⟩, -⟩, -⟩ := hc
  have c4 : γ 4 = rUp (γ 3) 80 0 (ρ 19 + (4 * ρ 10 + 32 * ρ 9)) (ρ 34) := c4
  have c5 : γ 5 = rUp (γ 4) 81 0 (ρ 19 + (4 * ρ 10 + 32 * ρ 9)) (ρ 33) := c5
  obtain ⟨l0, l1, l2, l3, l4, l5, l6, -⟩ := hl
  have l0 : sn7 [ρ 20, ρ 3] (γ 1) 0 0 (γ 2) := hS7 _ _ _ _ _ l0
  have l1 : sn20 [1, ρ 28, ρ 3, ρ 21, ρ 22, ρ 29, ρ 26, ρ 14, ρ 24, ρ 25, ρ 9] (γ 2) 0 1 (γ 3) := hS20 _ _ _ _ _ l1
  have l2 : zOpP (.l2i) (γ 0) (γ 1) [ρ 33] (ρ 37) := l2
  have l3 : zOpP (.ishl) (γ 0) (γ 1) [1, ρ 37] (ρ 38) := l3
  have l4 : zOpP (.ior) (γ 0) (γ 1) [ρ 18, ρ 38] (ρ 39) := l4
  have l5 : sn7 [ρ 30, ρ 3] (γ 5) 0 0 (γ 6) := hS7 _ _ _ _ _ l5
  have l6 : sn6 [ρ 40, ρ 3] (γ 6) 0 (-1) (γ 7) := hS6 _ _ _ _ _ l6
  show jn36 [ρ 0, ρ 1, ρ 2, ρ 3, ρ 4, ρ 5, ρ 6, ρ 7, ρ 8, ρ 9, ρ 10, ρ 11, ρ 12, ρ 13, ρ 14, ρ 15, ρ 16] (γ 0) 0 [ρ 0, ρ 1, ρ 2, ρ 3, ρ 4, ρ 5, ρ 6, ρ 7, ρ 8, ρ 9, ρ 10, ρ 11, ρ 12, ρ 13, ρ 14, ρ 15, ρ 16, 0, ρ 39, ρ 19 + 1, ρ 40, ρ 31, ρ 32, ρ 23, ρ 35, ρ 36, ρ 34, ρ 41] (γ 7)
  have hD : en36 (γ 0) (0, [ρ 0, ρ 1, ρ 17, ρ 18, ρ 19], γ 1) = .inl (0, [ρ 0, ρ 1, 0, ρ 39, ρ 19 + 1], γ 7) := by
    unfold en36
    refine (if_pos (show (0 : Nat) = 0 by decide)).trans ?_
    refine (zLet_eq (show _ = γ 1 from rfl)).trans ?_
    refine (zLet_eq (show _ = ρ 0 from rfl)).trans ?_
    refine (zLet_eq (show _ = ρ 1 from rfl)).trans ?_
    refine (zLet_eq (show _ = ρ 17 from rfl)).trans ?_
    refine (zLet_eq (show _ = ρ 18 from rfl)).trans ?_
    refine (zLet_eq (show _ = ρ 19 from rfl)).trans ?_
    refine (zLet_eq m1).trans ?_
    refine (zLet_eq m5).trans ?_
    refine (zLet_eq m6).trans ?_
    refine (zLet_eq m7).trans ?_
    refine (zLet_eq m8).trans ?_
    refine (zLet_eq m11).trans ?_
    refine (zLet_eq m14).trans ?_
    refine (if_neg w_0).trans ?_
    refine (zLet_eq (show fn7 [] (γ 1) = (0, 0, γ 2) from l0.symm)).trans ?_
    refine (zLet_eq (show _ = γ 2 from rfl)).trans ?_
    refine (zLet_eq m24).trans ?_
    refine (if_pos w_1).trans ?_
    refine (zLet_eq (show fn20 [1] (γ 2) = (0, 1, γ 3) from l1.symm)).trans ?_
    refine (zLet_eq (show _ = γ 3 from rfl)).trans ?_
    refine (if_pos zQ1_).trans ?_
    refine (zLet_eq m29).trans ?_
    refine (zLet_eq m30).trans ?_
    refine (zLet_eq c4.symm).trans ?_
    refine (zLet_eq c5.symm).trans ?_
    refine (if_neg w_2).trans ?_
    refine (if_pos w_3).trans ?_
    refine (zLet_eq (zF1_ok l2)).trans ?_
    refine (zLet_eq (zF2_ok l3)).trans ?_
    refine (zLet_eq (zF2_ok l4)).trans ?_
    refine (zLet_eq (show fn7 [] (γ 5) = (0, 0, γ 6) from l5.symm)).trans ?_
    refine (zLet_eq (show _ = γ 6 from rfl)).trans ?_
    refine (zLet_eq m34).trans ?_
    refine (zLet_eq (show fn6 [ρ 40] (γ 6) = (0, (-1), γ 7) from l6.symm)).trans ?_
    refine (zLet_eq (show _ = γ 7 from rfl)).trans ?_
    refine (if_neg w_4).trans ?_
    rfl
  exact zGoo_ato hJ hD
theorem vn36a0_17 {S : Nat → zSpc} (hS6 : ∀ x g o v gz, S 6 x g o v gz → sn6 x g o v gz) (hS7 : ∀ x g o v gz, S 7 x g o v gz → sn7 x g o v gz) (hS8 : ∀ x g o v gz, S 8 x g o v gz → sn8 x g o v gz) (hS20 : ∀ x g o v gz, S 20 x g o v gz → sn20 x g o v gz) (hS21 : ∀ x g o v gz, S 21 x g o v gz → sn21 x g o v gz) (hS22 : ∀ x g o v gz, S 22 x g o v gz → sn22 x g o v gz) (hS24 : ∀ x g o v gz, S 24 x g o v gz → sn24 x g o v gz) (hS25 : ∀ x g o v gz, S 25 x g o v gz → sn25 x g o v gz) (hS33 : ∀ x g o v gz, S 33 x g o v gz → sn33 x g o v gz) {a : List Int} {g : rHp} : ∀ (ρ : Nat → Int) (γ : Nat → rHp), jn36 a g 0 (zAg (zNA a36_ 0) ρ) (γ 1) → zO 17 S a g q36a0_17 ρ γ → zGl (fun i vs g1 => jn36 a g i vs g1) (sn36 a g) q36a0_17 ρ γ := by
  intro ρ γ hJ h
  obtain ⟨ha, hg, hr, hf, hm, hc, hl⟩ := h
  have ha : a = [ρ 0, ρ 1, ρ 2, ρ 3, ρ 4, ρ 5, ρ 6, ρ 7, ρ 8, ρ 9, ρ 10, ρ 11, ρ 12, ρ 13, ρ 14, ρ 15, ρ 16] := ha
  subst ha
  subst hg
  have hJ : jn36 [ρ 0, ρ 1, ρ 2, ρ 3, ρ 4, ρ 5, ρ 6, ρ 7, ρ 8, ρ 9, ρ 10, ρ 11, ρ 12, ρ 13, ρ 14, ρ 15, ρ 16] (γ 0) 0 [ρ 0, ρ 1, ρ 2, ρ 3, ρ 4, ρ 5, ρ 6, ρ 7, ρ 8, ρ 9, ρ 10, ρ 11, ρ 12, ρ 13, ρ 14, ρ 15, ρ 16, ρ 17, ρ 18, ρ 19, ρ 20, ρ 21, ρ 22, ρ 23, ρ 24, ρ 25, ρ 26, ρ 27] (γ 1) := hJ
  obtain ⟨r0, -, -, -, -, -, -, -, -, -, -, -, -, -, -, -, -, r17, -, r19, -, -, -, -, -, -, -, -, -, -, -, -, -, -, r34, -, -, -, -, -, r40, -⟩ := hr
  have r0 : (1 : Int) ≤ ρ 0 ∧ ρ 0 ≤ 1 := r0
  have r17 : (1 : Int) ≤ ρ 17 ∧ ρ 17 ≤ 1 := r17
  have r19 : (0 : Int) ≤ ρ 19 ∧ ρ 19 ≤ 3 := r19
  have r34 : (1 : Int) ≤ ρ 34 ∧ ρ 34 ≤ 1 := r34
  have r40 : ((-128) : Int) ≤ ρ 40 ∧ ρ 40 ≤ 127 := r40
  obtain ⟨f0, -⟩ := hf
  have f0 : (0 : Int) ≤ -ρ 39 + ρ 3 + (-1) := f0
  obtain ⟨w_0, w_1, w_2, w_3, w_4⟩ : (¬ (ρ 17 = 0)) ∧ (ρ 19 ≠ 4) ∧ (¬ (ρ 34 ≠ 1)) ∧ (¬ (ρ 0 = 0)) ∧ (0 ≤ -ρ 39 + ρ 3 + (-1)) := ⟨by omega, by omega, by omega, by omega, by omega⟩
  obtain ⟨-, m1, -, -, -, m5, m6, m7, m8, -, -, m11, -, -, m14, -, -, -, -, -, -, -, -, -, m24, -, -, -, -, m29, m30, -, -, -, -, m35, -⟩ := hm
  have m1 : γ 0 15 0 34 = ρ 3 := m1
  have m5 : γ 0 15 0 37 = ρ 7 := m5
  have m6 : γ 0 15 0 38 = ρ 8 := m6
  have m7 : γ 0 15 0 44 = ρ 9 := m7
  have m8 : γ 0 73 0 (ρ 9) = ρ 10 := m8
  have m11 : γ 0 15 0 14 = ρ 13 := m11
  have m14 : γ 0 15 0 45 = ρ 16 := m14
  have m24 : γ 2 15 0 35 = ρ 28 := m24
  have m29 : γ 3 15 0 39 = ρ 33 := m29
  have m30 : γ 3 15 0 40 = ρ 34 := m30
  have m35 : γ 7 15 0 35 = ρ 39 := m35
  obtain ⟨⟨⟨⟨⟨-, c4⟩, c5⟩, -⟩, -⟩, -⟩ := hc
  have c4 : γ 4 = rUp (γ 3) 80 0 (ρ 19 + (4 * ρ 10 + 32 * ρ 9)) (ρ 34) := c4
  have c5 : γ 5 = rUp (γ 4) 81 0 (ρ 19 + (4 * ρ 10 + 32 * ρ 9)) (ρ 33) := c5
  obtain ⟨l0, l1, l2, l3, l4, l5, l6, l7, -⟩ := hl
  have l0 : sn7 [ρ 20, ρ 3] (γ 1) 0 0 (γ 2) := hS7 _ _ _ _ _ l0
  have l1 : sn20 [1, ρ 28, ρ 3, ρ 21, ρ 22, ρ 29, ρ 26, ρ 14, ρ 24, ρ 25, ρ 9] (γ 2) 0 1 (γ 3) := hS20 _ _ _ _ _ l1
  have l2 : sn25 [ρ 28, ρ 33, 1, ρ 23, ρ 16] (γ 5) 0 0 (γ 6) := hS25 _ _ _ _ _ l2
  have l3 : zOpP (.ishl) (γ 0) (γ 1) [1, ρ 33] (ρ 37) := l3
  have l4 : zOpP (.ior) (γ 0) (γ 1) [ρ 18, ρ 37] (ρ 38) := l4
  have l5 : sn7 [ρ 30, ρ 3] (γ 6) 0 0 (γ 7) := hS7 _ _ _ _ _ l5
  have l6 : sn6 [ρ 39, ρ 3] (γ 7) 0 (ρ 40) (γ 8) := hS6 _ _ _ _ _ l6
  have l7 : ρ 40 ≠ 44 := l7
  have wl_0 : ρ 40 ≠ 44 := by omega
  show jn36 [ρ 0, ρ 1, ρ 2, ρ 3, ρ 4, ρ 5, ρ 6, ρ 7, ρ 8, ρ 9, ρ 10, ρ 11, ρ 12, ρ 13, ρ 14, ρ 15, ρ 16] (γ 0) 0 [ρ 0, ρ 1, ρ 2, ρ 3, ρ 4, ρ 5, ρ 6, ρ 7, ρ 8, ρ 9, ρ 10, ρ 11, ρ 12, ρ 13, ρ 14, ρ 15, ρ 16, 0, ρ 38, ρ 19 + 1, ρ 39, ρ 31, ρ 32, ρ 23 + 1, ρ 35, ρ 36, ρ 34, ρ 41] (γ 8)
  have hD : en36 (γ 0) (0, [ρ 0, ρ 1, ρ 17, ρ 18, ρ 19], γ 1) = .inl (0, [ρ 0, ρ 1, 0, ρ 38, ρ 19 + 1], γ 8) := by
    unfold en36
    refine (if_pos (show (0 : Nat) = 0 by decide)).trans ?_
    refine (zLet_eq (show _ = γ 1 from rfl)).trans ?_
    refine (zLet_eq (show _ = ρ 0 from rfl)).trans ?_
    refine (zLet_eq (show _ = ρ 1 from rfl)).trans ?_
    refine (zLet_eq (show _ = ρ 17 from rfl)).trans ?_
    refine (zLet_eq (show _ = ρ 18 from rfl)).trans ?_
    refine (zLet_eq (show _ = ρ 19 from rfl)).trans ?_
    refine (zLet_eq m1).trans ?_
    refine (zLet_eq m5).trans ?_
    refine (zLet_eq m6).trans ?_
    refine (zLet_eq m7).trans ?_
    refine (zLet_eq m8).trans ?_
    refine (zLet_eq m11).trans ?_
    refine (zLet_eq m14).trans ?_
    refine (if_neg w_0).trans ?_
    refine (zLet_eq (show fn7 [] (γ 1) = (0, 0, γ 2) from l0.symm)).trans ?_
    refine (zLet_eq (show _ = γ 2 from rfl)).trans ?_
    refine (zLet_eq m24).trans ?_
    refine (if_pos w_1).trans ?_
    refine (zLet_eq (show fn20 [1] (γ 2) = (0, 1, γ 3) from l1.symm)).trans ?_
    refine (zLet_eq (show _ = γ 3 from rfl)).trans ?_
    refine (if_pos zQ1_).trans ?_
    refine (zLet_eq m29).trans ?_
    refine (zLet_eq m30).trans ?_
    refine (zLet_eq c4.symm).trans ?_
    refine (zLet_eq c5.symm).trans ?_
    refine (if_neg w_2).trans ?_
    refine (if_neg w_3).trans ?_
    refine (zLet_eq (show fn25 [ρ 28, ρ 33, 1] (γ 5) = (0, 0, γ 6) from l2.symm)).trans ?_
    refine (zLet_eq (show _ = γ 6 from rfl)).trans ?_
    refine (zLet_eq (zF2_ok l3)).trans ?_
    refine (zLet_eq (zF2_ok l4)).trans ?_
    refine (zLet_eq (show fn7 [] (γ 6) = (0, 0, γ 7) from l5.symm)).trans ?_
    refine (zLet_eq (show _ = γ 7 from rfl)).trans ?_
    refine (zLet_eq m35).trans ?_
    refine (zLet_eq (show fn6 [ρ 39] (γ 7) = (0, ρ 40, γ 8) from l6.symm)).trans ?_
    refine (zLet_eq (show _ = γ 8 from rfl)).trans ?_
    refine (if_pos w_4).trans ?_
    refine (zLet_eq (show _ = ρ 40 from rfl)).trans ?_
    refine (if_pos wl_0).trans ?_
    rfl
  exact zGoo_ato hJ hD
theorem vn36a0_18 {S : Nat → zSpc} (hS6 : ∀ x g o v gz, S 6 x g o v gz → sn6 x g o v gz) (hS7 : ∀ x g o v gz, S 7 x g o v gz → sn7 x g o v gz) (hS8 : ∀ x g o v gz, S 8 x g o v gz → sn8 x g o v gz) (hS20 : ∀ x g o v gz, S 20 x g o v gz → sn20 x g o v gz) (hS21 : ∀ x g o v gz, S 21 x g o v gz → sn21 x g o v gz) (hS22 : ∀ x g o v gz, S 22 x g o v gz → sn22 x g o v gz) (hS24 : ∀ x g o v gz, S 24 x g o v gz → sn24 x g o v gz) (hS25 : ∀ x g o v gz, S 25 x g o v gz → sn25 x g o v gz) (hS33 : ∀ x g o v gz, S 33 x g o v gz → sn33 x g o v gz) {a : List Int} {g : rHp} : ∀ (ρ : Nat → Int) (γ : Nat → rHp), jn36 a g 0 (zAg (zNA a36_ 0) ρ) (γ 1) → zO 17 S a g q36a0_18 ρ γ → zGl (fun i vs g1 => jn36 a g i vs g1) (sn36 a g) q36a0_18 ρ γ := by
  intro ρ γ hJ h
  obtain ⟨ha, hg, hr, hf, hm, hc, hl⟩ := h
  have ha : a = [ρ 0, ρ 1, ρ 2, ρ 3, ρ 4, ρ 5, ρ 6, ρ 7, ρ 8, ρ 9, ρ 10, ρ 11, ρ 12, ρ 13, ρ 14, ρ 15, ρ 16] := ha
  subst ha
  subst hg
  have hJ : jn36 [ρ 0, ρ 1, ρ 2, ρ 3, ρ 4, ρ 5, ρ 6, ρ 7, ρ 8, ρ 9, ρ 10, ρ 11, ρ 12, ρ 13, ρ 14, ρ 15, ρ 16] (γ 0) 0 [ρ 0, ρ 1, ρ 2, ρ 3, ρ 4, ρ 5, ρ 6, ρ 7, ρ 8, ρ 9, ρ 10, ρ 11, ρ 12, ρ 13, ρ 14, ρ 15, ρ 16, ρ 17, ρ 18, ρ 19, ρ 20, ρ 21, ρ 22, ρ 23, ρ 24, ρ 25, ρ 26, ρ 27] (γ 1) := hJ
  obtain ⟨r0, -, -, -, -, -, -, -, -, -, -, -, -, -, -, -, -, r17, -, r19, -, -, -, -, -, -, -, -, -, -, -, -, -, -, r34, -, -, -, -, -, r40, -⟩ := hr
  have r0 : (1 : Int) ≤ ρ 0 ∧ ρ 0 ≤ 1 := r0
  have r17 : (1 : Int) ≤ ρ 17 ∧ ρ 17 ≤ 1 := r17
  have r19 : (0 : Int) ≤ ρ 19 ∧ ρ 19 ≤ 3 := r19
  have r34 : (1 : Int) ≤ ρ 34 ∧ ρ 34 ≤ 1 := r34
  have r40 : (44 : Int) ≤ ρ 40 ∧ ρ 40 ≤ 44 := r40
  obtain ⟨f0, -⟩ := hf
  have f0 : (0 : Int) ≤ -ρ 39 + ρ 3 + (-1) := f0
  obtain ⟨w_0, w_1, w_2, w_3, w_4, w_5⟩ : (¬ (ρ 17 = 0)) ∧ (ρ 19 ≠ 4) ∧ (¬ (ρ 34 ≠ 1)) ∧ (¬ (ρ 0 = 0)) ∧ (0 ≤ -ρ 39 + ρ 3 + (-1)) ∧ (¬ (ρ 40 ≠ 44)) := ⟨by omega, by omega, by omega, by omega, by omega, by omega⟩
  obtain ⟨-, m1, -, -, -, m5, m6, m7, m8, -, -, m11, -, -, m14, -, -, -, -, -, -, -, -, -, m24, -, -, -, -, m29, m30, -, -, -, -, m35, -⟩ := hm
  have m1 : γ 0 15 0 34 = ρ 3 := m1
  have m5 : γ 0 15 0 37 = ρ 7 := m5
  have m6 : γ 0 15 0 38 = ρ 8 := m6
  have m7 : γ 0 15 0 44 = ρ 9 := m7
  have m8 : γ 0 73 0 (ρ 9) = ρ 10 := m8
  have m11 : γ 0 15 0 14 = ρ 13 := m11
  have m14 : γ 0 15 0 45 = ρ 16 := m14
  have m24 : γ 2 15 0 35 = ρ 28 := m24
  have m29 : γ 3 15 0 39 = ρ 33 := m29
  have m30 : γ 3 15 0 40 = ρ 34 := m30
  have m35 : γ 7 15 0 35 = ρ 39 := m35
  obtain ⟨⟨⟨⟨⟨⟨-, c4⟩, c5⟩, -⟩, -⟩, -⟩, c9⟩ := hc
  have c4 : γ 4 = rUp (γ 3) 80 0 (ρ 19 + (4 * ρ 10 + 32 * ρ 9)) (ρ 34) := c4
  have c5 : γ 5 = rUp (γ 4) 81 0 (ρ 19 + (4 * ρ 10 + 32 * ρ 9)) (ρ 33) := c5
  have c9 : γ 9 = rUp (γ 8) 15 0 35 (ρ 39 + 1) := c9
  obtain ⟨l0, l1, l2, l3, l4, l5, l6, -⟩ := hl
  have l0 : sn7 [ρ 20, ρ 3] (γ 1) 0 0 (γ 2) := hS7 _ _ _ _ _ l0
  have l1 : sn20 [1, ρ 28, ρ 3, ρ 21, ρ 22, ρ 29, ρ 26, ρ 14, ρ 24, ρ 25, ρ 9] (γ 2) 0 1 (γ 3) := hS20 _ _ _ _ _ l1
  have l2 : sn25 [ρ 28, ρ 33, 1, ρ 23, ρ 16] (γ 5) 0 0 (γ 6) := hS25 _ _ _ _ _ l2
  have l3 : zOpP (.ishl) (γ 0) (γ 1) [1, ρ 33] (ρ 37) := l3
  have l4 : zOpP (.ior) (γ 0) (γ 1) [ρ 18, ρ 37] (ρ 38) := l4
  have l5 : sn7 [ρ 30, ρ 3] (γ 6) 0 0 (γ 7) := hS7 _ _ _ _ _ l5
  have l6 : sn6 [ρ 39, ρ 3] (γ 7) 0 (ρ 40) (γ 8) := hS6 _ _ _ _ _ l6
  show jn36 [ρ 0, ρ 1, ρ 2, ρ 3, ρ 4, ρ 5, ρ 6, ρ 7, ρ 8, ρ 9, ρ 10, ρ 11, ρ 12, ρ 13, ρ 14, ρ 15, ρ 16] (γ 0) 0 [ρ 0, ρ 1, ρ 2, ρ 3, ρ 4, ρ 5, ρ 6, ρ 7, ρ 8, ρ 9, ρ 10, ρ 11, ρ 12, ρ 13, ρ 14, ρ 15, ρ 16, 1, ρ 38, ρ 19 + 1, ρ 39 + 1, ρ 31, ρ 32, ρ 23 + 1, ρ 35, ρ 36, ρ 34, ρ 41] (γ 9)
  have hD : en36 (γ 0) (0, [ρ 0, ρ 1, ρ 17, ρ 18, ρ 19], γ 1) = .inl (0, [ρ 0, ρ 1, 1, ρ 38, ρ 19 + 1], γ 9) := by
    unfold en36
    refine (if_pos (show (0 : Nat) = 0 by decide)).trans ?_
    refine (zLet_eq (show _ = γ 1 from rfl)).trans ?_
    refine (zLet_eq (show _ = ρ 0 from rfl)).trans ?_
    refine (zLet_eq (show _ = ρ 1 from rfl)).trans ?_
    refine (zLet_eq (show _ = ρ 17 from rfl)).trans ?_
    refine (zLet_eq (show _ = ρ 18 from rfl)).trans ?_
    refine (zLet_eq (show _ = ρ 19 from rfl)).trans ?_
    refine (zLet_eq m1).trans ?_
    refine (zLet_eq m5).trans ?_
    refine (zLet_eq m6).trans ?_
    refine (zLet_eq m7).trans ?_
    refine (zLet_eq m8).trans ?_
    refine (zLet_eq m11).trans ?_
    refine (zLet_eq m14).trans ?_
    refine (if_neg w_0).trans ?_
    refine (zLet_eq (show fn7 [] (γ 1) = (0, 0, γ 2) from l0.symm)).trans ?_
    refine (zLet_eq (show _ = γ 2 from rfl)).trans ?_
    refine (zLet_eq m24).trans ?_
    refine (if_pos w_1).trans ?_
    refine (zLet_eq (show fn20 [1] (γ 2) = (0, 1, γ 3) from l1.symm)).trans ?_
    refine (zLet_eq (show _ = γ 3 from rfl)).trans ?_
    refine (if_pos zQ1_).trans ?_
    refine (zLet_eq m29).trans ?_
    refine (zLet_eq m30).trans ?_
    refine (zLet_eq c4.symm).trans ?_
    refine (zLet_eq c5.symm).trans ?_
    refine (if_neg w_2).trans ?_
    refine (if_neg w_3).trans ?_
    refine (zLet_eq (show fn25 [ρ 28, ρ 33, 1] (γ 5) = (0, 0, γ 6) from l2.symm)).trans ?_
    refine (zLet_eq (show _ = γ 6 from rfl)).trans ?_
    refine (zLet_eq (zF2_ok l3)).trans ?_
    refine (zLet_eq (zF2_ok l4)).trans ?_
    refine (zLet_eq (show fn7 [] (γ 6) = (0, 0, γ 7) from l5.symm)).trans ?_
    refine (zLet_eq (show _ = γ 7 from rfl)).trans ?_
    refine (zLet_eq m35).trans ?_
    refine (zLet_eq (show fn6 [ρ 39] (γ 7) = (0, ρ 40, γ 8) from l6.symm)).trans ?_
    refine (zLet_eq (show _ = γ 8 from rfl)).trans ?_
    refine (if_pos w_4).trans ?_
    refine (zLet_eq (show _ = ρ 40 from rfl)).trans ?_
    refine (if_neg w_5).trans ?_
    refine (zLet_eq c9.symm).trans ?_
    rfl
  exact zGoo_ato hJ hD
theorem vn36a0_19 {S : Nat → zSpc} (hS6 : ∀ x g o v gz, S 6 x g o v gz → sn6 x g o v gz) (hS7 : ∀ x g o v gz, S 7 x g o v gz → sn7 x g o v gz) (hS8 : ∀ x g o v gz, S 8 x g o v gz → sn8 x g o v gz) (hS20 : ∀ x g o v gz, S 20 x g o v gz → sn20 x g o v gz) (hS21 : ∀ x g o v gz, S 21 x g o v gz → sn21 x g o v gz) (hS22 : ∀ x g o v gz, S 22 x g o v gz → sn22 x g o v gz) (hS24 : ∀ x g o v gz, S 24 x g o v gz → sn24 x g o v gz) (hS25 : ∀ x g o v gz, S 25 x g o v gz → sn25 x g o v gz) (hS33 : ∀ x g o v gz, S 33 x g o v gz → sn33 x g o v gz) {a : List Int} {g : rHp} : ∀ (ρ : Nat → Int) (γ : Nat → rHp), jn36 a g 0 (zAg (zNA a36_ 0) ρ) (γ 1) → zO 17 S a g q36a0_19 ρ γ → zGl (fun i vs g1 => jn36 a g i vs g1) (sn36 a g) q36a0_19 ρ γ := by
  intro ρ γ hJ h
  obtain ⟨ha, hg, hr, hf, hm, hc, hl⟩ := h
  have ha : a = [ρ 0, ρ 1, ρ 2, ρ 3, ρ 4, ρ 5, ρ 6, ρ 7, ρ 8, ρ 9, ρ 10, ρ 11, ρ 12, ρ 13, ρ 14, ρ 15, ρ 16] := ha
  subst ha
  subst hg
  have hJ : jn36 [ρ 0, ρ 1, ρ 2, ρ 3, ρ 4, ρ 5, ρ 6, ρ 7, ρ 8, ρ 9, ρ 10, ρ 11, ρ 12, ρ 13, ρ 14, ρ 15, ρ 16] (γ 0) 0 [ρ 0, ρ 1, ρ 2, ρ 3, ρ 4, ρ 5, ρ 6, ρ 7, ρ 8, ρ 9, ρ 10, ρ 11, ρ 12, ρ 13, ρ 14, ρ 15, ρ 16, ρ 17, ρ 18, ρ 19, ρ 20, ρ 21, ρ 22, ρ 23, ρ 24, ρ 25, ρ 26, ρ 27] (γ 1) := hJ
  obtain ⟨r0, -, -, -, -, -, -, -, -, -, -, -, -, -, -, -, -, r17, -, r19, -, -, -, -, -, -, -, -, -, -, -, -, -, -, r34, -⟩ := hr
  have r0 : (1 : Int) ≤ ρ 0 ∧ ρ 0 ≤ 1 := r0
  have r17 : (1 : Int) ≤ ρ 17 ∧ ρ 17 ≤ 1 := r17
  have r19 : (0 : Int) ≤ ρ 19 ∧ ρ 19 ≤ 3 := r19
  have r34 : (1 : Int) ≤ ρ 34 ∧ ρ 34 ≤ 1 := r34
  obtain ⟨f0, -⟩ := hf
  have f0 : (0 : Int) ≤ ρ 39 + -ρ 3 := f0
  obtain ⟨w_0, w_1, w_2, w_3, w_4⟩ : (¬ (ρ 17 = 0)) ∧ (ρ 19 ≠ 4) ∧ (¬ (ρ 34 ≠ 1)) ∧ (¬ (ρ 0 = 0)) ∧ (¬ (0 ≤ -ρ 39 + ρ 3 + (-1))) := ⟨by omega, by omega, by omega, by omega, by omega⟩
  obtain ⟨-, m1, -, -, -, m5, m6, m7, m8, -, -, m11, -, -, m14, -, -, -, -, -, -, -, -, -, m24, -, -, -, -, m29, m30, -, -, -, -, m35, -⟩ := hm
  have m1 : γ 0 15 0 34 = ρ 3 := m1
  have m5 : γ 0 15 0 37 = ρ 7 := m5
  have m6 : γ 0 15 0 38 = ρ 8 := m6
  have m7 : γ 0 15 0 44 = ρ 9 := m7
  have m8 : γ 0 73 0 (ρ 9) = ρ 10 := m8
  have m11 : γ 0 15 0 14 = ρ 13 := m11
  have m14 : γ 0 15 0 45 = ρ 16 := m14
  have m24 : γ 2 15 0 35 = ρ 28 := m24
  have m29 : γ 3 15 0 39 = ρ 33 := m29
  have m30 : γ 3 15 0 40 = ρ 34 := m30
  have m35 : γ 7 15 0 35 = ρ 39 := m35
  obtain ⟨⟨⟨⟨⟨-, c4⟩, c5⟩, -⟩, -⟩, -⟩ := hc
  have c4 : γ 4 = rUp (γ 3) 80 0 (ρ 19 + (4 * ρ 10 + 32 * ρ 9)) (ρ 34) := c4
  have c5 : γ 5 = rUp (γ 4) 81 0 (ρ 19 + (4 * ρ 10 + 32 * ρ 9)) (ρ 33) := c5
  obtain ⟨l0, l1, l2, l3, l4, l5, l6, -⟩ := hl
  have l0 : sn7 [ρ 20, ρ 3] (γ 1) 0 0 (γ 2) := hS7 _ _ _ _ _ l0
  have l1 : sn20 [1, ρ 28, ρ 3, ρ 21, ρ 22, ρ 29, ρ 26, ρ 14, ρ 24, ρ 25, ρ 9] (γ 2) 0 1 (γ 3) := hS20 _ _ _ _ _ l1
  have l2 : sn25 [ρ 28, ρ 33, 1, ρ 23, ρ 16] (γ 5) 0 0 (γ 6) := hS25 _ _ _ _ _ l2
  have l3 : zOpP (.ishl) (γ 0) (γ 1) [1, ρ 33] (ρ 37) := l3
  have l4 : zOpP (.ior) (γ 0) (γ 1) [ρ 18, ρ 37] (ρ 38) := l4
  have l5 : sn7 [ρ 30, ρ 3] (γ 6) 0 0 (γ 7) := hS7 _ _ _ _ _ l5
  have l6 : sn6 [ρ 39, ρ 3] (γ 7) 0 (-1) (γ 8) := hS6 _ _ _ _ _ l6
  show jn36 [ρ 0, ρ 1, ρ 2, ρ 3, ρ 4, ρ 5, ρ 6, ρ 7, ρ 8, ρ 9, ρ 10, ρ 11, ρ 12, ρ 13, ρ 14, ρ 15, ρ 16] (γ 0) 0 [ρ 0, ρ 1, ρ 2, ρ 3, ρ 4, ρ 5, ρ 6, ρ 7, ρ 8, ρ 9, ρ 10, ρ 11, ρ 12, ρ 13, ρ 14, ρ 15, ρ 16, 0, ρ 38, ρ 19 + 1, ρ 39, ρ 31, ρ 32, ρ 23 + 1, ρ 35, ρ 36, ρ 34, ρ 40] (γ 8)
  have hD : en36 (γ 0) (0, [ρ 0, ρ 1, ρ 17, ρ 18, ρ 19], γ 1) = .inl (0, [ρ 0, ρ 1, 0, ρ 38, ρ 19 + 1], γ 8) := by
    unfold en36
    refine (if_pos (show (0 : Nat) = 0 by decide)).trans ?_
    refine (zLet_eq (show _ = γ 1 from rfl)).trans ?_
    refine (zLet_eq (show _ = ρ 0 from rfl)).trans ?_
    refine (zLet_eq (show _ = ρ 1 from rfl)).trans ?_
    refine (zLet_eq (show _ = ρ 17 from rfl)).trans ?_
    refine (zLet_eq (show _ = ρ 18 from rfl)).trans ?_
    refine (zLet_eq (show _ = ρ 19 from rfl)).trans ?_
    refine (zLet_eq m1).trans ?_
    refine (zLet_eq m5).trans ?_
    refine (zLet_eq m6).trans ?_
    refine (zLet_eq m7).trans ?_
    refine (zLet_eq m8).trans ?_
    refine (zLet_eq m11).trans ?_
    refine (zLet_eq m14).trans ?_
    refine (if_neg w_0).trans ?_
    refine (zLet_eq (show fn7 [] (γ 1) = (0, 0, γ 2) from l0.symm)).trans ?_
    refine (zLet_eq (show _ = γ 2 from rfl)).trans ?_
    refine (zLet_eq m24).trans ?_
    refine (if_pos w_1).trans ?_
    refine (zLet_eq (show fn20 [1] (γ 2) = (0, 1, γ 3) from l1.symm)).trans ?_
    refine (zLet_eq (show _ = γ 3 from rfl)).trans ?_
    refine (if_pos zQ1_).trans ?_
    refine (zLet_eq m29).trans ?_
    refine (zLet_eq m30).trans ?_
    refine (zLet_eq c4.symm).trans ?_
    refine (zLet_eq c5.symm).trans ?_
    refine (if_neg w_2).trans ?_
    refine (if_neg w_3).trans ?_
    refine (zLet_eq (show fn25 [ρ 28, ρ 33, 1] (γ 5) = (0, 0, γ 6) from l2.symm)).trans ?_
    refine (zLet_eq (show _ = γ 6 from rfl)).trans ?_
    refine (zLet_eq (zF2_ok l3)).trans ?_
    refine (zLet_eq (zF2_ok l4)).trans ?_
    refine (zLet_eq (show fn7 [] (γ 6) = (0, 0, γ 7) from l5.symm)).trans ?_
    refine (zLet_eq (show _ = γ 7 from rfl)).trans ?_
    refine (zLet_eq m35).trans ?_
    refine (zLet_eq (show fn6 [ρ 39] (γ 7) = (0, (-1), γ 8) from l6.symm)).trans ?_
    refine (zLet_eq (show _ = γ 8 from rfl)).trans ?_
    refine (if_neg w_4).trans ?_
    rfl
  exact zGoo_ato hJ hD
theorem vn36a0_20 {S : Nat → zSpc} (hS6 : ∀ x g o v gz, S 6 x g o v gz → sn6 x g o v gz) (hS7 : ∀ x g o v gz, S 7 x g o v gz → sn7 x g o v gz) (hS8 : ∀ x g o v gz, S 8 x g o v gz → sn8 x g o v gz) (hS20 : ∀ x g o v gz, S 20 x g o v gz → sn20 x g o v gz) (hS21 : ∀ x g o v gz, S 21 x g o v gz → sn21 x g o v gz) (hS22 : ∀ x g o v gz, S 22 x g o v gz → sn22 x g o v gz) (hS24 : ∀ x g o v gz, S 24 x g o v gz → sn24 x g o v gz) (hS25 : ∀ x g o v gz, S 25 x g o v gz → sn25 x g o v gz) (hS33 : ∀ x g o v gz, S 33 x g o v gz → sn33 x g o v gz) {a : List Int} {g : rHp} : ∀ (ρ : Nat → Int) (γ : Nat → rHp), jn36 a g 0 (zAg (zNA a36_ 0) ρ) (γ 1) → zO 17 S a g q36a0_20 ρ γ → zGl (fun i vs g1 => jn36 a g i vs g1) (sn36 a g) q36a0_20 ρ γ := by
  intro ρ γ hJ h
  obtain ⟨ha, hg, hr, hf, hm, hc, hl⟩ := h
  have ha : a = [ρ 0, ρ 1, ρ 2, ρ 3, ρ 4, ρ 5, ρ 6, ρ 7, ρ 8, ρ 9, ρ 10, ρ 11, ρ 12, ρ 13, ρ 14, ρ 15, ρ 16] := ha
  subst ha
  subst hg
  have hJ : jn36 [ρ 0, ρ 1, ρ 2, ρ 3, ρ 4, ρ 5, ρ 6, ρ 7, ρ 8, ρ 9, ρ 10, ρ 11, ρ 12, ρ 13, ρ 14, ρ 15, ρ 16] (γ 0) 0 [ρ 0, ρ 1, ρ 2, ρ 3, ρ 4, ρ 5, ρ 6, ρ 7, ρ 8, ρ 9, ρ 10, ρ 11, ρ 12, ρ 13, ρ 14, ρ 15, ρ 16, ρ 17, ρ 18, ρ 19, ρ 20, ρ 21, ρ 22, ρ 23, ρ 24, ρ 25, ρ 26, ρ 27] (γ 1) := hJ
  obtain ⟨-, -, -, -, -, -, -, -, -, -, -, -, -, -, -, -, -, r17, -, r19, -⟩ := hr
  have r17 : (1 : Int) ≤ ρ 17 ∧ ρ 17 ≤ 1 := r17
  have r19 : (4 : Int) ≤ ρ 19 ∧ ρ 19 ≤ 4 := r19
  obtain ⟨w_0, w_1⟩ : (¬ (ρ 17 = 0)) ∧ (¬ (ρ 19 ≠ 4)) := ⟨by omega, by omega⟩
  obtain ⟨-, m1, -, -, -, m5, m6, m7, m8, -, -, m11, -, -, m14, -, -, -, -, -, -, -, -, -, m24, -⟩ := hm
  have m1 : γ 0 15 0 34 = ρ 3 := m1
  have m5 : γ 0 15 0 37 = ρ 7 := m5
  have m6 : γ 0 15 0 38 = ρ 8 := m6
  have m7 : γ 0 15 0 44 = ρ 9 := m7
  have m8 : γ 0 73 0 (ρ 9) = ρ 10 := m8
  have m11 : γ 0 15 0 14 = ρ 13 := m11
  have m14 : γ 0 15 0 45 = ρ 16 := m14
  have m24 : γ 2 15 0 35 = ρ 28 := m24
  obtain ⟨l0, l1, -⟩ := hl
  have l0 : sn7 [ρ 20, ρ 3] (γ 1) 0 0 (γ 2) := hS7 _ _ _ _ _ l0
  have l1 : sn8 [ρ 28, ρ 3, ρ 14] (γ 2) 0 0 (γ 3) := hS8 _ _ _ _ _ l1
  show sn36 [ρ 0, ρ 1, ρ 2, ρ 3, ρ 4, ρ 5, ρ 6, ρ 7, ρ 8, ρ 9, ρ 10, ρ 11, ρ 12, ρ 13, ρ 14, ρ 15, ρ 16] (γ 0) 0 0 (γ 3)
  have hD : en36 (γ 0) (0, [ρ 0, ρ 1, ρ 17, ρ 18, ρ 19], γ 1) = .inr (0, 0, γ 3) := by
    unfold en36
    refine (if_pos (show (0 : Nat) = 0 by decide)).trans ?_
    refine (zLet_eq (show _ = γ 1 from rfl)).trans ?_
    refine (zLet_eq (show _ = ρ 0 from rfl)).trans ?_
    refine (zLet_eq (show _ = ρ 1 from rfl)).trans ?_
    refine (zLet_eq (show _ = ρ 17 from rfl)).trans ?_
    refine (zLet_eq (show _ = ρ 18 from rfl)).trans ?_
    refine (zLet_eq (show _ = ρ 19 from rfl)).trans ?_
    refine (zLet_eq m1).trans ?_
    refine (zLet_eq m5).trans ?_
    refine (zLet_eq m6).trans ?_
    refine (zLet_eq m7).trans ?_
    refine (zLet_eq m8).trans ?_
    refine (zLet_eq m11).trans ?_
    refine (zLet_eq m14).trans ?_
    refine (if_neg w_0).trans ?_
    refine (zLet_eq (show fn7 [] (γ 1) = (0, 0, γ 2) from l0.symm)).trans ?_
    refine (zLet_eq (show _ = γ 2 from rfl)).trans ?_
    refine (zLet_eq m24).trans ?_
    refine (if_neg w_1).trans ?_
    refine (zLet_eq (show fn8 [ρ 28] (γ 2) = (0, 0, γ 3) from l1.symm)).trans ?_
    refine (zLet_eq (show _ = γ 3 from rfl)).trans ?_
    rfl
  exact zGoo_aend hJ hD
theorem yn36 {S : Nat → zSpc} (hS6 : ∀ x g o v gz, S 6 x g o v gz → sn6 x g o v gz) (hS7 : ∀ x g o v gz, S 7 x g o v gz → sn7 x g o v gz) (hS8 : ∀ x g o v gz, S 8 x g o v gz → sn8 x g o v gz) (hS20 : ∀ x g o v gz, S 20 x g o v gz → sn20 x g o v gz) (hS21 : ∀ x g o v gz, S 21 x g o v gz → sn21 x g o v gz) (hS22 : ∀ x g o v gz, S 22 x g o v gz → sn22 x g o v gz) (hS24 : ∀ x g o v gz, S 24 x g o v gz → sn24 x g o v gz) (hS25 : ∀ x g o v gz, S 25 x g o v gz → sn25 x g o v gz) (hS33 : ∀ x g o v gz, S 33 x g o v gz → sn33 x g o v gz) : ∀ x g o v gz, zSem uW uT w36_.2.2.2.1 w36_.2.2.1.1.length S q36 (fun i => q36a.getD i []) (zNA a36_) x g o v gz → sn36 x g o v gz := by
  intro a g o v gz h
  exact zSem_all (l0 := q36) (las := q36a) (S := S) (J := (fun i vs g1 => jn36 a g i vs g1)) (P := sn36 a g) (fun _ => (show zAll _ [q36_0] from (zAll_c (vn36_0 hS6 hS7 hS8 hS20 hS21 hS22 hS24 hS25 hS33) zAll_n))) (fun _ => (show zAllI _ 0 [q36a0] from ⟨(show zAll _ [q36a0_0, q36a0_1, q36a0_2, q36a0_3, q36a0_4, q36a0_5, q36a0_6, q36a0_7, q36a0_8, q36a0_9, q36a0_10, q36a0_11, q36a0_12, q36a0_13, q36a0_14, q36a0_15, q36a0_16, q36a0_17, q36a0_18, q36a0_19, q36a0_20] from (zAll_c (vn36a0_0 hS6 hS7 hS8 hS20 hS21 hS22 hS24 hS25 hS33) (zAll_c (vn36a0_1 hS6 hS7 hS8 hS20 hS21 hS22 hS24 hS25 hS33) (zAll_c (vn36a0_2 hS6 hS7 hS8 hS20 hS21 hS22 hS24 hS25 hS33) (zAll_c (vn36a0_3 hS6 hS7 hS8 hS20 hS21 hS22 hS24 hS25 hS33) (zAll_c (vn36a0_4 hS6 hS7 hS8 hS20 hS21 hS22 hS24 hS25 hS33) (zAll_c (vn36a0_5 hS6 hS7 hS8 hS20 hS21 hS22 hS24 hS25 hS33) (zAll_c (vn36a0_6 hS6 hS7 hS8 hS20 hS21 hS22 hS24 hS25 hS33) (zAll_c (vn36a0_7 hS6 hS7 hS8 hS20 hS21 hS22 hS24 hS25 hS33) (zAll_c (vn36a0_8 hS6 hS7 hS8 hS20 hS21 hS22 hS24 hS25 hS33) (zAll_c (vn36a0_9 hS6 hS7 hS8 hS20 hS21 hS22 hS24 hS25 hS33) (zAll_c (vn36a0_10 hS6 hS7 hS8 hS20 hS21 hS22 hS24 hS25 hS33) (zAll_c (vn36a0_11 hS6 hS7 hS8 hS20 hS21 hS22 hS24 hS25 hS33) (zAll_c (vn36a0_12 hS6 hS7 hS8 hS20 hS21 hS22 hS24 hS25 hS33) (zAll_c (vn36a0_13 hS6 hS7 hS8 hS20 hS21 hS22 hS24 hS25 hS33) (zAll_c (vn36a0_14 hS6 hS7 hS8 hS20 hS21 hS22 hS24 hS25 hS33) (zAll_c (vn36a0_15 hS6 hS7 hS8 hS20 hS21 hS22 hS24 hS25 hS33) (zAll_c (vn36a0_16 hS6 hS7 hS8 hS20 hS21 hS22 hS24 hS25 hS33) (zAll_c (vn36a0_17 hS6 hS7 hS8 hS20 hS21 hS22 hS24 hS25 hS33) (zAll_c (vn36a0_18 hS6 hS7 hS8 hS20 hS21 hS22 hS24 hS25 hS33) (zAll_c (vn36a0_19 hS6 hS7 hS8 hS20 hS21 hS22 hS24 hS25 hS33) (zAll_c (vn36a0_20 hS6 hS7 hS8 hS20 hS21 hS22 hS24 hS25 hS33) zAll_n)))))))))))))))))))))), trivial⟩)) h
