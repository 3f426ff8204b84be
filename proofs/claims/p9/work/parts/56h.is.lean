/-! ===== the runs are the functions ===== -/
theorem vn42_0 {S : Nat → zSpc} (hS6 : ∀ x g o v gz, S 6 x g o v gz → sn6 x g o v gz) (hS7 : ∀ x g o v gz, S 7 x g o v gz → sn7 x g o v gz) (hS8 : ∀ x g o v gz, S 8 x g o v gz → sn8 x g o v gz) (hS9 : ∀ x g o v gz, S 9 x g o v gz → sn9 x g o v gz) (hS12 : ∀ x g o v gz, S 12 x g o v gz → sn12 x g o v gz) (hS13 : ∀ x g o v gz, S 13 x g o v gz → sn13 x g o v gz) (hS15 : ∀ x g o v gz, S 15 x g o v gz → sn15 x g o v gz) (hS18 : ∀ x g o v gz, S 18 x g o v gz → sn18 x g o v gz) (hS20 : ∀ x g o v gz, S 20 x g o v gz → sn20 x g o v gz) (hS23 : ∀ x g o v gz, S 23 x g o v gz → sn23 x g o v gz) (hS33 : ∀ x g o v gz, S 33 x g o v gz → sn33 x g o v gz) (hS34 : ∀ x g o v gz, S 34 x g o v gz → sn34 x g o v gz) (hS40 : ∀ x g o v gz, S 40 x g o v gz → sn40 x g o v gz) (hS41 : ∀ x g o v gz, S 41 x g o v gz → sn41 x g o v gz) {a : List Int} {g : rHp} : ∀ (ρ : Nat → Int) (γ : Nat → rHp), zO 18 S a g q42_0 ρ γ → zGl (fun _ _ _ => True) (sn42 a g) q42_0 ρ γ := by
  intro ρ γ h
  obtain ⟨ha, hg, hr, hf, hm, hc, hl⟩ := h
  have ha : a = [ρ 0, ρ 1, ρ 2, ρ 3, ρ 4, ρ 5, ρ 6, ρ 7, ρ 8, ρ 9, ρ 10, ρ 11, ρ 12, ρ 13, ρ 14, ρ 15, ρ 16, ρ 17] := ha
  subst ha
  subst hg
  obtain ⟨-, -, -, -, -, -, -, -, -, -, -, -, -, -, -, -, -, -, -, r19, -⟩ := hr
  have r19 : ((-128) : Int) ≤ ρ 19 ∧ ρ 19 ≤ 127 := r19
  obtain ⟨-, -, -, -, -, -, f6, -⟩ := hf
  have f6 : (0 : Int) ≤ -ρ 18 + ρ 1 + (-1) := f6
  have w_0 : 0 ≤ -ρ 18 + ρ 1 + (-1) := by omega
  obtain ⟨-, m1, -, -, -, -, -, -, m8, m9, -, -, -, -, -, -, -, m17, m18, -⟩ := hm
  have m1 : γ 0 15 0 34 = ρ 1 := m1
  have m8 : γ 0 15 0 44 = ρ 8 := m8
  have m9 : γ 0 73 0 (ρ 8) = ρ 9 := m9
  have m17 : γ 0 15 0 45 = ρ 17 := m17
  have m18 : γ 1 15 0 35 = ρ 18 := m18
  obtain ⟨⟨⟨⟨-, c3⟩, -⟩, -⟩, -⟩ := hc
  have c3 : γ 3 = rUp (γ 2) 79 0 (ρ 9 + 8 * ρ 8) (ρ 17) := c3
  obtain ⟨l0, l1, l2, l3, l4, l5, -⟩ := hl
  have l0 : sn7 [ρ 0, ρ 1] (γ 0) 0 0 (γ 1) := hS7 _ _ _ _ _ l0
  have l1 : sn33 [ρ 8, ρ 9] (γ 1) 0 (ρ 9 + 8 * ρ 8) (γ 2) := hS33 _ _ _ _ _ l1
  have l2 : sn6 [ρ 18, ρ 1] (γ 3) 0 (ρ 19) (γ 4) := hS6 _ _ _ _ _ l2
  have l3 : ρ 19 ≠ 33 := l3
  have l4 : sn9 [ρ 19] (γ 4) 0 0 (γ 5) := hS9 _ _ _ _ _ l4
  have l5 : sn20 [0, ρ 18, ρ 1, ρ 2, ρ 3, ρ 20, ρ 16, ρ 13, ρ 14, ρ 15, ρ 8] (γ 5) 0 0 (γ 6) := hS20 _ _ _ _ _ l5
  have wl_0 : ρ 19 ≠ 33 := by omega
  show sn42 [ρ 0, ρ 1, ρ 2, ρ 3, ρ 4, ρ 5, ρ 6, ρ 7, ρ 8, ρ 9, ρ 10, ρ 11, ρ 12, ρ 13, ρ 14, ρ 15, ρ 16, ρ 17] (γ 0) 0 0 (γ 6)
  refine Eq.symm ?_
  show fn42 [] (γ 0) = _
  unfold fn42
  refine (zLet_eq m1).trans ?_
  refine (zLet_eq m8).trans ?_
  refine (zLet_eq m9).trans ?_
  refine (zLet_eq m17).trans ?_
  refine (zLet_eq (show fn7 [] (γ 0) = (0, 0, γ 1) from l0.symm)).trans ?_
  refine (zLet_eq (show _ = γ 1 from rfl)).trans ?_
  refine (zLet_eq m18).trans ?_
  refine (zLet_eq (show fn33 [] (γ 1) = (0, ρ 9 + 8 * ρ 8, γ 2) from l1.symm)).trans ?_
  refine (zLet_eq (show _ = γ 2 from rfl)).trans ?_
  refine (zLet_eq c3.symm).trans ?_
  refine (zLet_eq (show fn6 [ρ 18] (γ 3) = (0, ρ 19, γ 4) from l2.symm)).trans ?_
  refine (zLet_eq (show _ = γ 4 from rfl)).trans ?_
  refine (if_pos w_0).trans ?_
  refine (zLet_eq (show _ = ρ 19 from rfl)).trans ?_
  refine (if_pos wl_0).trans ?_
  refine (zLet_eq (show fn9 [ρ 19] (γ 4) = (0, 0, γ 5) from l4.symm)).trans ?_
  refine (zLet_eq (show _ = γ 5 from rfl)).trans ?_
  refine (if_neg zQ0_).trans ?_
  refine (zLet_eq (show fn20 [0] (γ 5) = (0, 0, γ 6) from l5.symm)).trans ?_
  refine (zLet_eq (show _ = γ 6 from rfl)).trans ?_
  refine (if_neg zQ0_).trans ?_
  rfl
theorem vn42_1 {S : Nat → zSpc} (hS6 : ∀ x g o v gz, S 6 x g o v gz → sn6 x g o v gz) (hS7 : ∀ x g o v gz, S 7 x g o v gz → sn7 x g o v gz) (hS8 : ∀ x g o v gz, S 8 x g o v gz → sn8 x g o v gz) (hS9 : ∀ x g o v gz, S 9 x g o v gz → sn9 x g o v gz) (hS12 : ∀ x g o v gz, S 12 x g o v gz → sn12 x g o v gz) (hS13 : ∀ x g o v gz, S 13 x g o v gz → sn13 x g o v gz) (hS15 : ∀ x g o v gz, S 15 x g o v gz → sn15 x g o v gz) (hS18 : ∀ x g o v gz, S 18 x g o v gz → sn18 x g o v gz) (hS20 : ∀ x g o v gz, S 20 x g o v gz → sn20 x g o v gz) (hS23 : ∀ x g o v gz, S 23 x g o v gz → sn23 x g o v gz) (hS33 : ∀ x g o v gz, S 33 x g o v gz → sn33 x g o v gz) (hS34 : ∀ x g o v gz, S 34 x g o v gz → sn34 x g o v gz) (hS40 : ∀ x g o v gz, S 40 x g o v gz → sn40 x g o v gz) (hS41 : ∀ x g o v gz, S 41 x g o v gz → sn41 x g o v gz) {a : List Int} {g : rHp} : ∀ (ρ : Nat → Int) (γ : Nat → rHp), zO 18 S a g q42_1 ρ γ → zGl (fun _ _ _ => True) (sn42 a g) q42_1 ρ γ := by
  intro ρ γ h
  obtain ⟨ha, hg, hr, hf, hm, hc, hl⟩ := h
  have ha : a = [ρ 0, ρ 1, ρ 2, ρ 3, ρ 4, ρ 5, ρ 6, ρ 7, ρ 8, ρ 9, ρ 10, ρ 11, ρ 12, ρ 13, ρ 14, ρ 15, ρ 16, ρ 17] := ha
  subst ha
  subst hg
  obtain ⟨-, -, -, -, -, -, -, -, -, -, -, -, -, -, -, -, -, -, -, r19, -, -, -, -, -, r25, -⟩ := hr
  have r19 : ((-128) : Int) ≤ ρ 19 ∧ ρ 19 ≤ 127 := r19
  have r25 : (0 : Int) ≤ ρ 25 ∧ ρ 25 ≤ 2 := r25
  obtain ⟨-, -, -, -, -, -, -, -, -, -, -, -, -, -, -, -, -, -, -, -, f20, -⟩ := hf
  have f20 : (0 : Int) ≤ -ρ 18 + ρ 1 + (-1) := f20
  have w_0 : 0 ≤ -ρ 18 + ρ 1 + (-1) := by omega
  obtain ⟨-, m1, -, -, -, -, -, -, m8, m9, -, -, -, -, -, -, -, m17, m18, -, -, -, -, m23, m24, -, -, -, m28, -⟩ := hm
  have m1 : γ 0 15 0 34 = ρ 1 := m1
  have m8 : γ 0 15 0 44 = ρ 8 := m8
  have m9 : γ 0 73 0 (ρ 8) = ρ 9 := m9
  have m17 : γ 0 15 0 45 = ρ 17 := m17
  have m18 : γ 1 15 0 35 = ρ 18 := m18
  have m23 : γ 6 15 0 39 = ρ 24 := m23
  have m24 : γ 6 15 0 40 = ρ 25 := m24
  have m28 : γ 9 15 0 35 = ρ 28 := m28
  obtain ⟨⟨⟨⟨⟨⟨⟨⟨-, c3⟩, -⟩, -⟩, -⟩, c7⟩, c8⟩, -⟩, -⟩ := hc
  have c3 : γ 3 = rUp (γ 2) 79 0 (ρ 9 + 8 * ρ 8) (ρ 17) := c3
  have c7 : γ 7 = rUp (γ 6) 80 0 (4 * ρ 9 + 32 * ρ 8) (ρ 25) := c7
  have c8 : γ 8 = rUp (γ 7) 81 0 (4 * ρ 9 + 32 * ρ 8) (ρ 24) := c8
  obtain ⟨l0, l1, l2, l3, l4, l5, l6, l7, l8, -⟩ := hl
  have l0 : sn7 [ρ 0, ρ 1] (γ 0) 0 0 (γ 1) := hS7 _ _ _ _ _ l0
  have l1 : sn33 [ρ 8, ρ 9] (γ 1) 0 (ρ 9 + 8 * ρ 8) (γ 2) := hS33 _ _ _ _ _ l1
  have l2 : sn6 [ρ 18, ρ 1] (γ 3) 0 (ρ 19) (γ 4) := hS6 _ _ _ _ _ l2
  have l3 : ρ 19 ≠ 33 := l3
  have l4 : sn9 [ρ 19] (γ 4) 0 0 (γ 5) := hS9 _ _ _ _ _ l4
  have l5 : sn20 [0, ρ 18, ρ 1, ρ 2, ρ 3, ρ 20, ρ 16, ρ 13, ρ 14, ρ 15, ρ 8] (γ 5) 0 1 (γ 6) := hS20 _ _ _ _ _ l5
  have l6 : sn7 [ρ 21, ρ 1] (γ 8) 0 0 (γ 9) := hS7 _ _ _ _ _ l6
  have l7 : ρ 25 ≠ 1 := l7
  have l8 : sn40 [ρ 18, ρ 28, ρ 1, ρ 22, ρ 23, ρ 6, ρ 7, ρ 8, ρ 9, ρ 10, ρ 24, ρ 13, ρ 26, ρ 27, ρ 25, ρ 17] (γ 9) 0 0 (γ 10) := hS40 _ _ _ _ _ l8
  obtain ⟨wl_0, wl_1⟩ : (ρ 19 ≠ 33) ∧ (ρ 25 ≠ 1) := ⟨by omega, by omega⟩
  show sn42 [ρ 0, ρ 1, ρ 2, ρ 3, ρ 4, ρ 5, ρ 6, ρ 7, ρ 8, ρ 9, ρ 10, ρ 11, ρ 12, ρ 13, ρ 14, ρ 15, ρ 16, ρ 17] (γ 0) 0 0 (γ 10)
  refine Eq.symm ?_
  show fn42 [] (γ 0) = _
  unfold fn42
  refine (zLet_eq m1).trans ?_
  refine (zLet_eq m8).trans ?_
  refine (zLet_eq m9).trans ?_
  refine (zLet_eq m17).trans ?_
  refine (zLet_eq (show fn7 [] (γ 0) = (0, 0, γ 1) from l0.symm)).trans ?_
  refine (zLet_eq (show _ = γ 1 from rfl)).trans ?_
  refine (zLet_eq m18).trans ?_
  refine (zLet_eq (show fn33 [] (γ 1) = (0, ρ 9 + 8 * ρ 8, γ 2) from l1.symm)).trans ?_
  refine (zLet_eq (show _ = γ 2 from rfl)).trans ?_
  refine (zLet_eq c3.symm).trans ?_
  refine (zLet_eq (show fn6 [ρ 18] (γ 3) = (0, ρ 19, γ 4) from l2.symm)).trans ?_
  refine (zLet_eq (show _ = γ 4 from rfl)).trans ?_
  refine (if_pos w_0).trans ?_
  refine (zLet_eq (show _ = ρ 19 from rfl)).trans ?_
  refine (if_pos wl_0).trans ?_
  refine (zLet_eq (show fn9 [ρ 19] (γ 4) = (0, 0, γ 5) from l4.symm)).trans ?_
  refine (zLet_eq (show _ = γ 5 from rfl)).trans ?_
  refine (if_neg zQ0_).trans ?_
  refine (zLet_eq (show fn20 [0] (γ 5) = (0, 1, γ 6) from l5.symm)).trans ?_
  refine (zLet_eq (show _ = γ 6 from rfl)).trans ?_
  refine (if_pos zQ1_).trans ?_
  refine (zLet_eq m23).trans ?_
  refine (zLet_eq m24).trans ?_
  refine (zLet_eq c7.symm).trans ?_
  refine (zLet_eq c8.symm).trans ?_
  refine (zLet_eq (show fn7 [] (γ 8) = (0, 0, γ 9) from l6.symm)).trans ?_
  refine (zLet_eq (show _ = γ 9 from rfl)).trans ?_
  refine (zLet_eq m28).trans ?_
  refine (if_pos wl_1).trans ?_
  refine (zLet_eq (show fn40 [ρ 18] (γ 9) = (0, 0, γ 10) from l8.symm)).trans ?_
  refine (zLet_eq (show _ = γ 10 from rfl)).trans ?_
  refine (if_neg zQ0_).trans ?_
  rfl
theorem vn42_2 {S : Nat → zSpc} (hS6 : ∀ x g o v gz, S 6 x g o v gz → sn6 x g o v gz) (hS7 : ∀ x g o v gz, S 7 x g o v gz → sn7 x g o v gz) (hS8 : ∀ x g o v gz, S 8 x g o v gz → sn8 x g o v gz) (hS9 : ∀ x g o v gz, S 9 x g o v gz → sn9 x g o v gz) (hS12 : ∀ x g o v gz, S 12 x g o v gz → sn12 x g o v gz) (hS13 : ∀ x g o v gz, S 13 x g o v gz → sn13 x g o v gz) (hS15 : ∀ x g o v gz, S 15 x g o v gz → sn15 x g o v gz) (hS18 : ∀ x g o v gz, S 18 x g o v gz → sn18 x g o v gz) (hS20 : ∀ x g o v gz, S 20 x g o v gz → sn20 x g o v gz) (hS23 : ∀ x g o v gz, S 23 x g o v gz → sn23 x g o v gz) (hS33 : ∀ x g o v gz, S 33 x g o v gz → sn33 x g o v gz) (hS34 : ∀ x g o v gz, S 34 x g o v gz → sn34 x g o v gz) (hS40 : ∀ x g o v gz, S 40 x g o v gz → sn40 x g o v gz) (hS41 : ∀ x g o v gz, S 41 x g o v gz → sn41 x g o v gz) {a : List Int} {g : rHp} : ∀ (ρ : Nat → Int) (γ : Nat → rHp), zO 18 S a g q42_2 ρ γ → zGl (fun _ _ _ => True) (sn42 a g) q42_2 ρ γ := by
  intro ρ γ h
  obtain ⟨ha, hg, hr, hf, hm, hc, hl⟩ := h
  have ha : a = [ρ 0, ρ 1, ρ 2, ρ 3, ρ 4, ρ 5, ρ 6, ρ 7, ρ 8, ρ 9, ρ 10, ρ 11, ρ 12, ρ 13, ρ 14, ρ 15, ρ 16, ρ 17] := ha
  subst ha
  subst hg
  obtain ⟨-, -, -, -, -, -, -, -, -, -, -, -, -, -, -, -, -, -, -, r19, -, -, -, -, -, r25, -⟩ := hr
  have r19 : ((-128) : Int) ≤ ρ 19 ∧ ρ 19 ≤ 127 := r19
  have r25 : (0 : Int) ≤ ρ 25 ∧ ρ 25 ≤ 2 := r25
  obtain ⟨-, -, -, -, -, -, -, -, -, -, -, -, -, -, -, -, -, -, -, -, -, f21, -⟩ := hf
  have f21 : (0 : Int) ≤ -ρ 18 + ρ 1 + (-1) := f21
  have w_0 : 0 ≤ -ρ 18 + ρ 1 + (-1) := by omega
  obtain ⟨-, m1, -, -, -, -, -, -, m8, m9, -, -, -, -, -, -, -, m17, m18, -, -, -, -, m23, m24, -, -, -, m28, -⟩ := hm
  have m1 : γ 0 15 0 34 = ρ 1 := m1
  have m8 : γ 0 15 0 44 = ρ 8 := m8
  have m9 : γ 0 73 0 (ρ 8) = ρ 9 := m9
  have m17 : γ 0 15 0 45 = ρ 17 := m17
  have m18 : γ 1 15 0 35 = ρ 18 := m18
  have m23 : γ 6 15 0 39 = ρ 24 := m23
  have m24 : γ 6 15 0 40 = ρ 25 := m24
  have m28 : γ 9 15 0 35 = ρ 28 := m28
  obtain ⟨⟨⟨⟨⟨⟨⟨⟨-, c3⟩, -⟩, -⟩, -⟩, c7⟩, c8⟩, -⟩, -⟩ := hc
  have c3 : γ 3 = rUp (γ 2) 79 0 (ρ 9 + 8 * ρ 8) (ρ 17) := c3
  have c7 : γ 7 = rUp (γ 6) 80 0 (4 * ρ 9 + 32 * ρ 8) (ρ 25) := c7
  have c8 : γ 8 = rUp (γ 7) 81 0 (4 * ρ 9 + 32 * ρ 8) (ρ 24) := c8
  obtain ⟨l0, l1, l2, l3, l4, l5, l6, l7, l8, -⟩ := hl
  have l0 : sn7 [ρ 0, ρ 1] (γ 0) 0 0 (γ 1) := hS7 _ _ _ _ _ l0
  have l1 : sn33 [ρ 8, ρ 9] (γ 1) 0 (ρ 9 + 8 * ρ 8) (γ 2) := hS33 _ _ _ _ _ l1
  have l2 : sn6 [ρ 18, ρ 1] (γ 3) 0 (ρ 19) (γ 4) := hS6 _ _ _ _ _ l2
  have l3 : ρ 19 ≠ 33 := l3
  have l4 : sn9 [ρ 19] (γ 4) 0 0 (γ 5) := hS9 _ _ _ _ _ l4
  have l5 : sn20 [0, ρ 18, ρ 1, ρ 2, ρ 3, ρ 20, ρ 16, ρ 13, ρ 14, ρ 15, ρ 8] (γ 5) 0 1 (γ 6) := hS20 _ _ _ _ _ l5
  have l6 : sn7 [ρ 21, ρ 1] (γ 8) 0 0 (γ 9) := hS7 _ _ _ _ _ l6
  have l7 : ρ 25 ≠ 1 := l7
  have l8 : sn40 [ρ 18, ρ 28, ρ 1, ρ 22, ρ 23, ρ 6, ρ 7, ρ 8, ρ 9, ρ 10, ρ 24, ρ 13, ρ 26, ρ 27, ρ 25, ρ 17] (γ 9) 0 1 (γ 10) := hS40 _ _ _ _ _ l8
  obtain ⟨wl_0, wl_1⟩ : (ρ 19 ≠ 33) ∧ (ρ 25 ≠ 1) := ⟨by omega, by omega⟩
  show sn42 [ρ 0, ρ 1, ρ 2, ρ 3, ρ 4, ρ 5, ρ 6, ρ 7, ρ 8, ρ 9, ρ 10, ρ 11, ρ 12, ρ 13, ρ 14, ρ 15, ρ 16, ρ 17] (γ 0) 0 1 (γ 10)
  refine Eq.symm ?_
  show fn42 [] (γ 0) = _
  unfold fn42
  refine (zLet_eq m1).trans ?_
  refine (zLet_eq m8).trans ?_
  refine (zLet_eq m9).trans ?_
  refine (zLet_eq m17).trans ?_
  refine (zLet_eq (show fn7 [] (γ 0) = (0, 0, γ 1) from l0.symm)).trans ?_
  refine (zLet_eq (show _ = γ 1 from rfl)).trans ?_
  refine (zLet_eq m18).trans ?_
  refine (zLet_eq (show fn33 [] (γ 1) = (0, ρ 9 + 8 * ρ 8, γ 2) from l1.symm)).trans ?_
  refine (zLet_eq (show _ = γ 2 from rfl)).trans ?_
  refine (zLet_eq c3.symm).trans ?_
  refine (zLet_eq (show fn6 [ρ 18] (γ 3) = (0, ρ 19, γ 4) from l2.symm)).trans ?_
  refine (zLet_eq (show _ = γ 4 from rfl)).trans ?_
  refine (if_pos w_0).trans ?_
  refine (zLet_eq (show _ = ρ 19 from rfl)).trans ?_
  refine (if_pos wl_0).trans ?_
  refine (zLet_eq (show fn9 [ρ 19] (γ 4) = (0, 0, γ 5) from l4.symm)).trans ?_
  refine (zLet_eq (show _ = γ 5 from rfl)).trans ?_
  refine (if_neg zQ0_).trans ?_
  refine (zLet_eq (show fn20 [0] (γ 5) = (0, 1, γ 6) from l5.symm)).trans ?_
  refine (zLet_eq (show _ = γ 6 from rfl)).trans ?_
  refine (if_pos zQ1_).trans ?_
  refine (zLet_eq m23).trans ?_
  refine (zLet_eq m24).trans ?_
  refine (zLet_eq c7.symm).trans ?_
  refine (zLet_eq c8.symm).trans ?_
  refine (zLet_eq (show fn7 [] (γ 8) = (0, 0, γ 9) from l6.symm)).trans ?_
  refine (zLet_eq (show _ = γ 9 from rfl)).trans ?_
  refine (zLet_eq m28).trans ?_
  refine (if_pos wl_1).trans ?_
  refine (zLet_eq (show fn40 [ρ 18] (γ 9) = (0, 1, γ 10) from l8.symm)).trans ?_
  refine (zLet_eq (show _ = γ 10 from rfl)).trans ?_
  refine (if_pos zQ1_).trans ?_
  rfl
theorem vn42_3 {S : Nat → zSpc} (hS6 : ∀ x g o v gz, S 6 x g o v gz → sn6 x g o v gz) (hS7 : ∀ x g o v gz, S 7 x g o v gz → sn7 x g o v gz) (hS8 : ∀ x g o v gz, S 8 x g o v gz → sn8 x g o v gz) (hS9 : ∀ x g o v gz, S 9 x g o v gz → sn9 x g o v gz) (hS12 : ∀ x g o v gz, S 12 x g o v gz → sn12 x g o v gz) (hS13 : ∀ x g o v gz, S 13 x g o v gz → sn13 x g o v gz) (hS15 : ∀ x g o v gz, S 15 x g o v gz → sn15 x g o v gz) (hS18 : ∀ x g o v gz, S 18 x g o v gz → sn18 x g o v gz) (hS20 : ∀ x g o v gz, S 20 x g o v gz → sn20 x g o v gz) (hS23 : ∀ x g o v gz, S 23 x g o v gz → sn23 x g o v gz) (hS33 : ∀ x g o v gz, S 33 x g o v gz → sn33 x g o v gz) (hS34 : ∀ x g o v gz, S 34 x g o v gz → sn34 x g o v gz) (hS40 : ∀ x g o v gz, S 40 x g o v gz → sn40 x g o v gz) (hS41 : ∀ x g o v gz, S 41 x g o v gz → sn41 x g o v gz) {a : List Int} {g : rHp} : ∀ (ρ : Nat → Int) (γ : Nat → rHp), zO 18 S a g q42_3 ρ γ → zGl (fun _ _ _ => True) (sn42 a g) q42_3 ρ γ := by
  intro ρ γ h
  obtain ⟨ha, hg, hr, hf, hm, hc, hl⟩ := h
  have ha : a = [ρ 0, ρ 1, ρ 2, ρ 3, ρ 4, ρ 5, ρ 6, ρ 7, ρ 8, ρ 9, ρ 10, ρ 11, ρ 12, ρ 13, ρ 14, ρ 15, ρ 16, ρ 17] := ha
  subst ha
  subst hg
  obtain ⟨-, -, -, -, -, -, -, -, -, -, -, -, -, -, -, -, -, -, -, r19, -, -, -, -, -, r25, -⟩ := hr
  have r19 : ((-128) : Int) ≤ ρ 19 ∧ ρ 19 ≤ 127 := r19
  have r25 : (1 : Int) ≤ ρ 25 ∧ ρ 25 ≤ 1 := r25
  obtain ⟨-, -, -, -, -, -, -, -, -, -, -, -, f12, -, -, -, -, -, -, -, -, f21, -⟩ := hf
  have f12 : (0 : Int) ≤ -ρ 28 + ρ 1 + (-1) := f12
  have f21 : (0 : Int) ≤ -ρ 18 + ρ 1 + (-1) := f21
  obtain ⟨w_0, w_1, w_2⟩ : (0 ≤ -ρ 18 + ρ 1 + (-1)) ∧ (¬ (ρ 25 ≠ 1)) ∧ (0 ≤ -ρ 28 + ρ 1 + (-1)) := ⟨by omega, by omega, by omega⟩
  obtain ⟨-, m1, -, -, -, -, -, -, m8, m9, -, -, -, -, -, -, -, m17, m18, -, -, -, -, m23, m24, -, -, -, m28, -⟩ := hm
  have m1 : γ 0 15 0 34 = ρ 1 := m1
  have m8 : γ 0 15 0 44 = ρ 8 := m8
  have m9 : γ 0 73 0 (ρ 8) = ρ 9 := m9
  have m17 : γ 0 15 0 45 = ρ 17 := m17
  have m18 : γ 1 15 0 35 = ρ 18 := m18
  have m23 : γ 6 15 0 39 = ρ 24 := m23
  have m24 : γ 6 15 0 40 = ρ 25 := m24
  have m28 : γ 9 15 0 35 = ρ 28 := m28
  obtain ⟨⟨⟨⟨⟨⟨⟨⟨⟨⟨-, c3⟩, -⟩, -⟩, -⟩, c7⟩, c8⟩, -⟩, -⟩, -⟩, -⟩ := hc
  have c3 : γ 3 = rUp (γ 2) 79 0 (ρ 9 + 8 * ρ 8) (ρ 17) := c3
  have c7 : γ 7 = rUp (γ 6) 80 0 (4 * ρ 9 + 32 * ρ 8) (ρ 25) := c7
  have c8 : γ 8 = rUp (γ 7) 81 0 (4 * ρ 9 + 32 * ρ 8) (ρ 24) := c8
  obtain ⟨l0, l1, l2, l3, l4, l5, l6, l7, l8, l9, -⟩ := hl
  have l0 : sn7 [ρ 0, ρ 1] (γ 0) 0 0 (γ 1) := hS7 _ _ _ _ _ l0
  have l1 : sn33 [ρ 8, ρ 9] (γ 1) 0 (ρ 9 + 8 * ρ 8) (γ 2) := hS33 _ _ _ _ _ l1
  have l2 : sn6 [ρ 18, ρ 1] (γ 3) 0 (ρ 19) (γ 4) := hS6 _ _ _ _ _ l2
  have l3 : ρ 19 ≠ 33 := l3
  have l4 : sn9 [ρ 19] (γ 4) 0 0 (γ 5) := hS9 _ _ _ _ _ l4
  have l5 : sn20 [0, ρ 18, ρ 1, ρ 2, ρ 3, ρ 20, ρ 16, ρ 13, ρ 14, ρ 15, ρ 8] (γ 5) 0 1 (γ 6) := hS20 _ _ _ _ _ l5
  have l6 : sn7 [ρ 21, ρ 1] (γ 8) 0 0 (γ 9) := hS7 _ _ _ _ _ l6
  have l7 : sn6 [ρ 28, ρ 1] (γ 9) 0 (ρ 29) (γ 10) := hS6 _ _ _ _ _ l7
  have l8 : sn9 [ρ 29] (γ 10) 0 0 (γ 11) := hS9 _ _ _ _ _ l8
  have l9 : sn40 [ρ 18, ρ 28, ρ 1, ρ 22, ρ 23, ρ 6, ρ 7, ρ 8, ρ 9, ρ 10, ρ 24, ρ 13, ρ 26, ρ 27, ρ 25, ρ 17] (γ 11) 0 0 (γ 12) := hS40 _ _ _ _ _ l9
  have wl_0 : ρ 19 ≠ 33 := by omega
  show sn42 [ρ 0, ρ 1, ρ 2, ρ 3, ρ 4, ρ 5, ρ 6, ρ 7, ρ 8, ρ 9, ρ 10, ρ 11, ρ 12, ρ 13, ρ 14, ρ 15, ρ 16, ρ 17] (γ 0) 0 0 (γ 12)
  refine Eq.symm ?_
  show fn42 [] (γ 0) = _
  unfold fn42
  refine (zLet_eq m1).trans ?_
  refine (zLet_eq m8).trans ?_
  refine (zLet_eq m9).trans ?_
  refine (zLet_eq m17).trans ?_
  refine (zLet_eq (show fn7 [] (γ 0) = (0, 0, γ 1) from l0.symm)).trans ?_
  refine (zLet_eq (show _ = γ 1 from rfl)).trans ?_
  refine (zLet_eq m18).trans ?_
  refine (zLet_eq (show fn33 [] (γ 1) = (0, ρ 9 + 8 * ρ 8, γ 2) from l1.symm)).trans ?_
  refine (zLet_eq (show _ = γ 2 from rfl)).trans ?_
  refine (zLet_eq c3.symm).trans ?_
  refine (zLet_eq (show fn6 [ρ 18] (γ 3) = (0, ρ 19, γ 4) from l2.symm)).trans ?_
  refine (zLet_eq (show _ = γ 4 from rfl)).trans ?_
  refine (if_pos w_0).trans ?_
  refine (zLet_eq (show _ = ρ 19 from rfl)).trans ?_
  refine (if_pos wl_0).trans ?_
  refine (zLet_eq (show fn9 [ρ 19] (γ 4) = (0, 0, γ 5) from l4.symm)).trans ?_
  refine (zLet_eq (show _ = γ 5 from rfl)).trans ?_
  refine (if_neg zQ0_).trans ?_
  refine (zLet_eq (show fn20 [0] (γ 5) = (0, 1, γ 6) from l5.symm)).trans ?_
  refine (zLet_eq (show _ = γ 6 from rfl)).trans ?_
  refine (if_pos zQ1_).trans ?_
  refine (zLet_eq m23).trans ?_
  refine (zLet_eq m24).trans ?_
  refine (zLet_eq c7.symm).trans ?_
  refine (zLet_eq c8.symm).trans ?_
  refine (zLet_eq (show fn7 [] (γ 8) = (0, 0, γ 9) from l6.symm)).trans ?_
  refine (zLet_eq (show _ = γ 9 from rfl)).trans ?_
  refine (zLet_eq m28).trans ?_
  refine (if_neg w_1).trans ?_
  refine (zLet_eq (show fn6 [ρ 28] (γ 9) = (0, ρ 29, γ 10) from l7.symm)).trans ?_
  refine (zLet_eq (show _ = γ 10 from rfl)).trans ?_
  refine (if_pos w_2).trans ?_
  refine (zLet_eq (show _ = ρ 29 from rfl)).trans ?_
  refine (zLet_eq (show fn9 [ρ 29] (γ 10) = (0, 0, γ 11) from l8.symm)).trans ?_
  refine (zLet_eq (show _ = γ 11 from rfl)).trans ?_
  refine (if_neg zQ0_).trans ?_
  refine (zLet_eq (show fn40 [ρ 18] (γ 11) = (0, 0, γ 12) from l9.symm)).trans ?_
  refine (zLet_eq (show _ = γ 12 from rfl)).trans ?_
  refine (if_neg zQ0_).trans ?_
  rfl
theorem vn42_4 {S : Nat → zSpc} (hS6 : ∀ x g o v gz, S 6 x g o v gz → sn6 x g o v gz) (hS7 : ∀ x g o v gz, S 7 x g o v gz → sn7 x g o v gz) (hS8 : ∀ x g o v gz, S 8 x g o v gz → sn8 x g o v gz) (hS9 : ∀ x g o v gz, S 9 x g o v gz → sn9 x g o v gz) (hS12 : ∀ x g o v gz, S 12 x g o v gz → sn12 x g o v gz) (hS13 : ∀ x g o v gz, S 13 x g o v gz → sn13 x g o v gz) (hS15 : ∀ x g o v gz, S 15 x g o v gz → sn15 x g o v gz) (hS18 : ∀ x g o v gz, S 18 x g o v gz → sn18 x g o v gz) (hS20 : ∀ x g o v gz, S 20 x g o v gz → sn20 x g o v gz) (hS23 : ∀ x g o v gz, S 23 x g o v gz → sn23 x g o v gz) (hS33 : ∀ x g o v gz, S 33 x g o v gz → sn33 x g o v gz) (hS34 : ∀ x g o v gz, S 34 x g o v gz → sn34 x g o v gz) (hS40 : ∀ x g o v gz, S 40 x g o v gz → sn40 x g o v gz) (hS41 : ∀ x g o v gz, S 41 x g o v gz → sn41 x g o v gz) {a : List Int} {g : rHp} : ∀ (ρ : Nat → Int) (γ : Nat → rHp), zO 18 S a g q42_4 ρ γ → zGl (fun _ _ _ => True) (sn42 a g) q42_4 ρ γ := by
  intro ρ γ h
  obtain ⟨ha, hg, hr, hf, hm, hc, hl⟩ := h
  have ha : a = [ρ 0, ρ 1, ρ 2, ρ 3, ρ 4, ρ 5, ρ 6, ρ 7, ρ 8, ρ 9, ρ 10, ρ 11, ρ 12, ρ 13, ρ 14, ρ 15, ρ 16, ρ 17] := ha
  subst ha
  subst hg
  obtain ⟨-, -, -, -, -, -, -, -, -, -, -, -, -, -, -, -, -, -, -, r19, -, -, -, -, -, r25, -⟩ := hr
  have r19 : ((-128) : Int) ≤ ρ 19 ∧ ρ 19 ≤ 127 := r19
  have r25 : (1 : Int) ≤ ρ 25 ∧ ρ 25 ≤ 1 := r25
  obtain ⟨-, -, -, -, -, -, -, -, -, -, f10, -, -, -, -, -, -, -, -, -, -, f21, -⟩ := hf
  have f10 : (0 : Int) ≤ -ρ 28 + ρ 1 + (-1) := f10
  have f21 : (0 : Int) ≤ -ρ 18 + ρ 1 + (-1) := f21
  obtain ⟨w_0, w_1, w_2⟩ : (0 ≤ -ρ 18 + ρ 1 + (-1)) ∧ (¬ (ρ 25 ≠ 1)) ∧ (0 ≤ -ρ 28 + ρ 1 + (-1)) := ⟨by omega, by omega, by omega⟩
  obtain ⟨-, m1, -, -, -, -, -, -, m8, m9, -, -, -, -, -, -, -, m17, m18, -, -, -, -, m23, m24, -, -, -, m28, -⟩ := hm
  have m1 : γ 0 15 0 34 = ρ 1 := m1
  have m8 : γ 0 15 0 44 = ρ 8 := m8
  have m9 : γ 0 73 0 (ρ 8) = ρ 9 := m9
  have m17 : γ 0 15 0 45 = ρ 17 := m17
  have m18 : γ 1 15 0 35 = ρ 18 := m18
  have m23 : γ 6 15 0 39 = ρ 24 := m23
  have m24 : γ 6 15 0 40 = ρ 25 := m24
  have m28 : γ 9 15 0 35 = ρ 28 := m28
  obtain ⟨⟨⟨⟨⟨⟨⟨⟨⟨⟨-, c3⟩, -⟩, -⟩, -⟩, c7⟩, c8⟩, -⟩, -⟩, -⟩, -⟩ := hc
  have c3 : γ 3 = rUp (γ 2) 79 0 (ρ 9 + 8 * ρ 8) (ρ 17) := c3
  have c7 : γ 7 = rUp (γ 6) 80 0 (4 * ρ 9 + 32 * ρ 8) (ρ 25) := c7
  have c8 : γ 8 = rUp (γ 7) 81 0 (4 * ρ 9 + 32 * ρ 8) (ρ 24) := c8
  obtain ⟨l0, l1, l2, l3, l4, l5, l6, l7, l8, l9, -⟩ := hl
  have l0 : sn7 [ρ 0, ρ 1] (γ 0) 0 0 (γ 1) := hS7 _ _ _ _ _ l0
  have l1 : sn33 [ρ 8, ρ 9] (γ 1) 0 (ρ 9 + 8 * ρ 8) (γ 2) := hS33 _ _ _ _ _ l1
  have l2 : sn6 [ρ 18, ρ 1] (γ 3) 0 (ρ 19) (γ 4) := hS6 _ _ _ _ _ l2
  have l3 : ρ 19 ≠ 33 := l3
  have l4 : sn9 [ρ 19] (γ 4) 0 0 (γ 5) := hS9 _ _ _ _ _ l4
  have l5 : sn20 [0, ρ 18, ρ 1, ρ 2, ρ 3, ρ 20, ρ 16, ρ 13, ρ 14, ρ 15, ρ 8] (γ 5) 0 1 (γ 6) := hS20 _ _ _ _ _ l5
  have l6 : sn7 [ρ 21, ρ 1] (γ 8) 0 0 (γ 9) := hS7 _ _ _ _ _ l6
  have l7 : sn6 [ρ 28, ρ 1] (γ 9) 0 (ρ 29) (γ 10) := hS6 _ _ _ _ _ l7
  have l8 : sn9 [ρ 29] (γ 10) 0 0 (γ 11) := hS9 _ _ _ _ _ l8
  have l9 : sn40 [ρ 18, ρ 28, ρ 1, ρ 22, ρ 23, ρ 6, ρ 7, ρ 8, ρ 9, ρ 10, ρ 24, ρ 13, ρ 26, ρ 27, ρ 25, ρ 17] (γ 11) 0 1 (γ 12) := hS40 _ _ _ _ _ l9
  have wl_0 : ρ 19 ≠ 33 := by omega
  show sn42 [ρ 0, ρ 1, ρ 2, ρ 3, ρ 4, ρ 5, ρ 6, ρ 7, ρ 8, ρ 9, ρ 10, ρ 11, ρ 12, ρ 13, ρ 14, ρ 15, ρ 16, ρ 17] (γ 0) 0 1 (γ 12)
  refine Eq.symm ?_
  show fn42 [] (γ 0) = _
  unfold fn42
  refine (zLet_eq m1).trans ?_
  refine (zLet_eq m8).trans ?_
  refine (zLet_eq m9).trans ?_
  refine (zLet_eq m17).trans ?_
  refine (zLet_eq (show fn7 [] (γ 0) = (0, 0, γ 1) from l0.symm)).trans ?_
  refine (zLet_eq (show _ = γ 1 from rfl)).trans ?_
  refine (zLet_eq m18).trans ?_
  refine (zLet_eq (show fn33 [] (γ 1) = (0, ρ 9 + 8 * ρ 8, γ 2) from l1.symm)).trans ?_
  refine (zLet_eq (show _ = γ 2 from rfl)).trans ?_
  refine (zLet_eq c3.symm).trans ?_
  refine (zLet_eq (show fn6 [ρ 18] (γ 3) = (0, ρ 19, γ 4) from l2.symm)).trans ?_
  refine (zLet_eq (show _ = γ 4 from rfl)).trans ?_
  refine (if_pos w_0).trans ?_
  refine (zLet_eq (show _ = ρ 19 from rfl)).trans ?_
  refine (if_pos wl_0).trans ?_
  refine (zLet_eq (show fn9 [ρ 19] (γ 4) = (0, 0, γ 5) from l4.symm)).trans ?_
  refine (zLet_eq (show _ = γ 5 from rfl)).trans ?_
  refine (if_neg zQ0_).trans ?_
  refine (zLet_eq (show fn20 [0] (γ 5) = (0, 1, γ 6) from l5.symm)).trans ?_
  refine (zLet_eq (show _ = γ 6 from rfl)).trans ?_
  refine (if_pos zQ1_).trans ?_
  refine (zLet_eq m23).trans ?_
  refine (zLet_eq m24).trans ?_
  refine (zLet_eq c7.symm).trans ?_
  refine (zLet_eq c8.symm).trans ?_
  refine (zLet_eq (show fn7 [] (γ 8) = (0, 0, γ 9) from l6.symm)).trans ?_
  refine (zLet_eq (show _ = γ 9 from rfl)).trans ?_
  refine (zLet_eq m28).trans ?_
  refine (if_neg w_1).trans ?_
  refine (zLet_eq (show fn6 [ρ 28] (γ 9) = (0, ρ 29, γ 10) from l7.symm)).trans ?_
  refine (zLet_eq (show _ = γ 10 from rfl)).trans ?_
  refine (if_pos w_2).trans ?_
  refine (zLet_eq (show _ = ρ 29 from rfl)).trans ?_
  refine (zLet_eq (show fn9 [ρ 29] (γ 10) = (0, 0, γ 11) from l8.symm)).trans ?_
  refine (zLet_eq (show _ = γ 11 from rfl)).trans ?_
  refine (if_neg zQ0_).trans ?_
  refine (zLet_eq (show fn40 [ρ 18] (γ 11) = (0, 1, γ 12) from l9.symm)).trans ?_
  refine (zLet_eq (show _ = γ 12 from rfl)).trans ?_
  refine (if_pos zQ1_).trans ?_
  rfl
theorem vn42_5 {S : Nat → zSpc} (hS6 : ∀ x g o v gz, S 6 x g o v gz → sn6 x g o v gz) (hS7 : ∀ x g o v gz, S 7 x g o v gz → sn7 x g o v gz) (hS8 : ∀ x g o v gz, S 8 x g o v gz → sn8 x g o v gz) (hS9 : ∀ x g o v gz, S 9 x g o v gz → sn9 x g o v gz) (hS12 : ∀ x g o v gz, S 12 x g o v gz → sn12 x g o v gz) (hS13 : ∀ x g o v gz, S 13 x g o v gz → sn13 x g o v gz) (hS15 : ∀ x g o v gz, S 15 x g o v gz → sn15 x g o v gz) (hS18 : ∀ x g o v gz, S 18 x g o v gz → sn18 x g o v gz) (hS20 : ∀ x g o v gz, S 20 x g o v gz → sn20 x g o v gz) (hS23 : ∀ x g o v gz, S 23 x g o v gz → sn23 x g o v gz) (hS33 : ∀ x g o v gz, S 33 x g o v gz → sn33 x g o v gz) (hS34 : ∀ x g o v gz, S 34 x g o v gz → sn34 x g o v gz) (hS40 : ∀ x g o v gz, S 40 x g o v gz → sn40 x g o v gz) (hS41 : ∀ x g o v gz, S 41 x g o v gz → sn41 x g o v gz) {a : List Int} {g : rHp} : ∀ (ρ : Nat → Int) (γ : Nat → rHp), zO 18 S a g q42_5 ρ γ → zGl (fun _ _ _ => True) (sn42 a g) q42_5 ρ γ := by
  intro ρ γ h
  obtain ⟨ha, hg, hr, hf, hm, hc, hl⟩ := h
  have ha : a = [ρ 0, ρ 1, ρ 2, ρ 3, ρ 4, ρ 5, ρ 6, ρ 7, ρ 8, ρ 9, ρ 10, ρ 11, ρ 12, ρ 13, ρ 14, ρ 15, ρ 16, ρ 17] := ha
  subst ha
  subst hg
  obtain ⟨-, -, -, -, -, -, -, -, -, -, -, -, -, -, -, -, -, -, -, r19, -, -, -, -, -, r25, -⟩ := hr
  have r19 : ((-128) : Int) ≤ ρ 19 ∧ ρ 19 ≤ 127 := r19
  have r25 : (1 : Int) ≤ ρ 25 ∧ ρ 25 ≤ 1 := r25
  obtain ⟨f0, -, -, -, -, -, -, -, -, -, -, -, f12, -⟩ := hf
  have f0 : (0 : Int) ≤ -ρ 28 + ρ 1 + (-1) := f0
  have f12 : (0 : Int) ≤ -ρ 18 + ρ 1 + (-1) := f12
  obtain ⟨w_0, w_1, w_2⟩ : (0 ≤ -ρ 18 + ρ 1 + (-1)) ∧ (¬ (ρ 25 ≠ 1)) ∧ (0 ≤ -ρ 28 + ρ 1 + (-1)) := ⟨by omega, by omega, by omega⟩
  obtain ⟨-, m1, -, -, -, -, -, -, m8, m9, -, -, -, -, -, -, -, m17, m18, -, -, -, -, m23, m24, -, -, -, m28, -⟩ := hm
  have m1 : γ 0 15 0 34 = ρ 1 := m1
  have m8 : γ 0 15 0 44 = ρ 8 := m8
  have m9 : γ 0 73 0 (ρ 8) = ρ 9 := m9
  have m17 : γ 0 15 0 45 = ρ 17 := m17
  have m18 : γ 1 15 0 35 = ρ 18 := m18
  have m23 : γ 6 15 0 39 = ρ 24 := m23
  have m24 : γ 6 15 0 40 = ρ 25 := m24
  have m28 : γ 9 15 0 35 = ρ 28 := m28
  obtain ⟨⟨⟨⟨⟨⟨⟨⟨⟨⟨-, c3⟩, -⟩, -⟩, -⟩, c7⟩, c8⟩, -⟩, -⟩, -⟩, -⟩ := hc
  have c3 : γ 3 = rUp (γ 2) 79 0 (ρ 9 + 8 * ρ 8) (ρ 17) := c3
  have c7 : γ 7 = rUp (γ 6) 80 0 (4 * ρ 9 + 32 * ρ 8) (ρ 25) := c7
  have c8 : γ 8 = rUp (γ 7) 81 0 (4 * ρ 9 + 32 * ρ 8) (ρ 24) := c8
  obtain ⟨l0, l1, l2, l3, l4, l5, l6, l7, l8, l9, -⟩ := hl
  have l0 : sn7 [ρ 0, ρ 1] (γ 0) 0 0 (γ 1) := hS7 _ _ _ _ _ l0
  have l1 : sn33 [ρ 8, ρ 9] (γ 1) 0 (ρ 9 + 8 * ρ 8) (γ 2) := hS33 _ _ _ _ _ l1
  have l2 : sn6 [ρ 18, ρ 1] (γ 3) 0 (ρ 19) (γ 4) := hS6 _ _ _ _ _ l2
  have l3 : ρ 19 ≠ 33 := l3
  have l4 : sn9 [ρ 19] (γ 4) 0 0 (γ 5) := hS9 _ _ _ _ _ l4
  have l5 : sn20 [0, ρ 18, ρ 1, ρ 2, ρ 3, ρ 20, ρ 16, ρ 13, ρ 14, ρ 15, ρ 8] (γ 5) 0 1 (γ 6) := hS20 _ _ _ _ _ l5
  have l6 : sn7 [ρ 21, ρ 1] (γ 8) 0 0 (γ 9) := hS7 _ _ _ _ _ l6
  have l7 : sn6 [ρ 28, ρ 1] (γ 9) 0 (ρ 29) (γ 10) := hS6 _ _ _ _ _ l7
  have l8 : sn9 [ρ 29] (γ 10) 0 1 (γ 11) := hS9 _ _ _ _ _ l8
  have l9 : sn12 [ρ 28, ρ 1, ρ 26, ρ 13, ρ 27] (γ 11) 0 0 (γ 12) := hS12 _ _ _ _ _ l9
  have wl_0 : ρ 19 ≠ 33 := by omega
  show sn42 [ρ 0, ρ 1, ρ 2, ρ 3, ρ 4, ρ 5, ρ 6, ρ 7, ρ 8, ρ 9, ρ 10, ρ 11, ρ 12, ρ 13, ρ 14, ρ 15, ρ 16, ρ 17] (γ 0) 0 0 (γ 12)
  refine Eq.symm ?_
  show fn42 [] (γ 0) = _
  unfold fn42
  refine (zLet_eq m1).trans ?_
  refine (zLet_eq m8).trans ?_
  refine (zLet_eq m9).trans ?_
  refine (zLet_eq m17).trans ?_
  refine (zLet_eq (show fn7 [] (γ 0) = (0, 0, γ 1) from l0.symm)).trans ?_
  refine (zLet_eq (show _ = γ 1 from rfl)).trans ?_
  refine (zLet_eq m18).trans ?_
  refine (zLet_eq (show fn33 [] (γ 1) = (0, ρ 9 + 8 * ρ 8, γ 2) from l1.symm)).trans ?_
  refine (zLet_eq (show _ = γ 2 from rfl)).trans ?_
  refine (zLet_eq c3.symm).trans ?_
  refine (zLet_eq (show fn6 [ρ 18] (γ 3) = (0, ρ 19, γ 4) from l2.symm)).trans ?_
  refine (zLet_eq (show _ = γ 4 from rfl)).trans ?_
  refine (if_pos w_0).trans ?_
  refine (zLet_eq (show _ = ρ 19 from rfl)).trans ?_
  refine (if_pos wl_0).trans ?_
  refine (zLet_eq (show fn9 [ρ 19] (γ 4) = (0, 0, γ 5) from l4.symm)).trans ?_
  refine (zLet_eq (show _ = γ 5 from rfl)).trans ?_
  refine (if_neg zQ0_).trans ?_
  refine (zLet_eq (show fn20 [0] (γ 5) = (0, 1, γ 6) from l5.symm)).trans ?_
  refine (zLet_eq (show _ = γ 6 from rfl)).trans ?_
  refine (if_pos zQ1_).trans ?_
  refine (zLet_eq m23).trans ?_
  refine (zLet_eq m24).trans ?_
  refine (zLet_eq c7.symm).trans ?_
  refine (zLet_eq c8.symm).trans ?_
  refine (zLet_eq (show fn7 [] (γ 8) = (0, 0, γ 9) from l6.symm)).trans ?_
  refine (zLet_eq (show _ = γ 9 from rfl)).trans ?_
  refine (zLet_eq m28).trans ?_
  refine (if_neg w_1).trans ?_
  refine (zLet_eq (show fn6 [ρ 28] (γ 9) = (0, ρ 29, γ 10) from l7.symm)).trans ?_
  refine (zLet_eq (show _ = γ 10 from rfl)).trans ?_
  refine (if_pos w_2).trans ?_
  refine (zLet_eq (show _ = ρ 29 from rfl)).trans ?_
  refine (zLet_eq (show fn9 [ρ 29] (γ 10) = (0, 1, γ 11) from l8.symm)).trans ?_
  refine (zLet_eq (show _ = γ 11 from rfl)).trans ?_
  refine (if_pos zQ1_).trans ?_
  refine (zLet_eq (show fn12 [] (γ 11) = (0, 0, γ 12) from l9.symm)).trans ?_
  refine (zLet_eq (show _ = γ 12 from rfl)).trans ?_
  refine (if_neg zQ0_).trans ?_
  rfl
theorem vn42_6 {S : Nat → zSpc} (hS6 : ∀ x g o v gz, S 6 x g o v gz → sn6 x g o v gz) (hS7 : ∀ x g o v gz, S 7 x g o v gz → sn7 x g o v gz) (hS8 : ∀ x g o v gz, S 8 x g o v gz → sn8 x g o v gz) (hS9 : ∀ x g o v gz, S 9 x g o v gz → sn9 x g o v gz) (hS12 : ∀ x g o v gz, S 12 x g o v gz → sn12 x g o v gz) (hS13 : ∀ x g o v gz, S 13 x g o v gz → sn13 x g o v gz) (hS15 : ∀ x g o v gz, S 15 x g o v gz → sn15 x g o v gz) (hS18 : ∀ x g o v gz, S 18 x g o v gz → sn18 x g o v gz) (hS20 : ∀ x g o v gz, S 20 x g o v gz → sn20 x g o v gz) (hS23 : ∀ x g o v gz, S 23 x g o v gz → sn23 x g o v gz) (hS33 : ∀ x g o v gz, S 33 x g o v gz → sn33 x g o v gz) (hS34 : ∀ x g o v gz, S 34 x g o v gz → sn34 x g o v gz) (hS40 : ∀ x g o v gz, S 40 x g o v gz → sn40 x g o v gz) (hS41 : ∀ x g o v gz, S 41 x g o v gz → sn41 x g o v gz) {a : List Int} {g : rHp} : ∀ (ρ : Nat → Int) (γ : Nat → rHp), zO 18 S a g q42_6 ρ γ → zGl (fun _ _ _ => True) (sn42 a g) q42_6 ρ γ := by
  intro ρ γ h
  obtain ⟨ha, hg, hr, hf, hm, hc, hl⟩ := h
  have ha : a = [ρ 0, ρ 1, ρ 2, ρ 3, ρ 4, ρ 5, ρ 6, ρ 7, ρ 8, ρ 9, ρ 10, ρ 11, ρ 12, ρ 13, ρ 14, ρ 15, ρ 16, ρ 17] := ha
  subst ha
  subst hg
  obtain ⟨-, -, -, -, -, -, -, -, -, -, -, -, -, -, -, -, -, -, -, r19, -, -, -, -, -, r25, -⟩ := hr
  have r19 : ((-128) : Int) ≤ ρ 19 ∧ ρ 19 ≤ 127 := r19
  have r25 : (1 : Int) ≤ ρ 25 ∧ ρ 25 ≤ 1 := r25
  obtain ⟨-, -, f2, -, -, -, -, -, -, -, -, -, -, -, -, -, f16, -⟩ := hf
  have f2 : (0 : Int) ≤ -ρ 28 + ρ 1 + (-1) := f2
  have f16 : (0 : Int) ≤ -ρ 18 + ρ 1 + (-1) := f16
  obtain ⟨w_0, w_1, w_2⟩ : (0 ≤ -ρ 18 + ρ 1 + (-1)) ∧ (¬ (ρ 25 ≠ 1)) ∧ (0 ≤ -ρ 28 + ρ 1 + (-1)) := ⟨by omega, by omega, by omega⟩
  obtain ⟨-, m1, -, -, -, -, -, -, m8, m9, -, -, -, -, -, -, -, m17, m18, -, -, -, -, m23, m24, -, -, -, m28, -⟩ := hm
  have m1 : γ 0 15 0 34 = ρ 1 := m1
  have m8 : γ 0 15 0 44 = ρ 8 := m8
  have m9 : γ 0 73 0 (ρ 8) = ρ 9 := m9
  have m17 : γ 0 15 0 45 = ρ 17 := m17
  have m18 : γ 1 15 0 35 = ρ 18 := m18
  have m23 : γ 6 15 0 39 = ρ 24 := m23
  have m24 : γ 6 15 0 40 = ρ 25 := m24
  have m28 : γ 9 15 0 35 = ρ 28 := m28
  obtain ⟨⟨⟨⟨⟨⟨⟨⟨⟨⟨⟨⟨-, c3⟩, -⟩, -⟩, -⟩, c7⟩, c8⟩, -⟩, -⟩, -⟩, -⟩, -⟩, -⟩ := hc
  have c3 : γ 3 = rUp (γ 2) 79 0 (ρ 9 + 8 * ρ 8) (ρ 17) := c3
  have c7 : γ 7 = rUp (γ 6) 80 0 (4 * ρ 9 + 32 * ρ 8) (ρ 25) := c7
  have c8 : γ 8 = rUp (γ 7) 81 0 (4 * ρ 9 + 32 * ρ 8) (ρ 24) := c8
  obtain ⟨l0, l1, l2, l3, l4, l5, l6, l7, l8, l9, l10, l11, -⟩ := hl
  have l0 : sn7 [ρ 0, ρ 1] (γ 0) 0 0 (γ 1) := hS7 _ _ _ _ _ l0
  have l1 : sn33 [ρ 8, ρ 9] (γ 1) 0 (ρ 9 + 8 * ρ 8) (γ 2) := hS33 _ _ _ _ _ l1
  have l2 : sn6 [ρ 18, ρ 1] (γ 3) 0 (ρ 19) (γ 4) := hS6 _ _ _ _ _ l2
  have l3 : ρ 19 ≠ 33 := l3
  have l4 : sn9 [ρ 19] (γ 4) 0 0 (γ 5) := hS9 _ _ _ _ _ l4
  have l5 : sn20 [0, ρ 18, ρ 1, ρ 2, ρ 3, ρ 20, ρ 16, ρ 13, ρ 14, ρ 15, ρ 8] (γ 5) 0 1 (γ 6) := hS20 _ _ _ _ _ l5
  have l6 : sn7 [ρ 21, ρ 1] (γ 8) 0 0 (γ 9) := hS7 _ _ _ _ _ l6
  have l7 : sn6 [ρ 28, ρ 1] (γ 9) 0 (ρ 29) (γ 10) := hS6 _ _ _ _ _ l7
  have l8 : sn9 [ρ 29] (γ 10) 0 1 (γ 11) := hS9 _ _ _ _ _ l8
  have l9 : sn12 [ρ 28, ρ 1, ρ 26, ρ 13, ρ 27] (γ 11) 0 1 (γ 12) := hS12 _ _ _ _ _ l9
  have l10 : sn13 [105, 115, 0, 0, 0, ρ 28, ρ 31] (γ 12) 0 0 (γ 13) := hS13 _ _ _ _ _ l10
  have l11 : sn8 [ρ 28, ρ 1, ρ 13] (γ 13) 0 0 (γ 14) := hS8 _ _ _ _ _ l11
  have wl_0 : ρ 19 ≠ 33 := by omega
  show sn42 [ρ 0, ρ 1, ρ 2, ρ 3, ρ 4, ρ 5, ρ 6, ρ 7, ρ 8, ρ 9, ρ 10, ρ 11, ρ 12, ρ 13, ρ 14, ρ 15, ρ 16, ρ 17] (γ 0) 0 0 (γ 14)
  refine Eq.symm ?_
  show fn42 [] (γ 0) = _
  unfold fn42
  refine (zLet_eq m1).trans ?_
  refine (zLet_eq m8).trans ?_
  refine (zLet_eq m9).trans ?_
  refine (zLet_eq m17).trans ?_
  refine (zLet_eq (show fn7 [] (γ 0) = (0, 0, γ 1) from l0.symm)).trans ?_
  refine (zLet_eq (show _ = γ 1 from rfl)).trans ?_
  refine (zLet_eq m18).trans ?_
  refine (zLet_eq (show fn33 [] (γ 1) = (0, ρ 9 + 8 * ρ 8, γ 2) from l1.symm)).trans ?_
  refine (zLet_eq (show _ = γ 2 from rfl)).trans ?_
  refine (zLet_eq c3.symm).trans ?_
  refine (zLet_eq (show fn6 [ρ 18] (γ 3) = (0, ρ 19, γ 4) from l2.symm)).trans ?_
  refine (zLet_eq (show _ = γ 4 from rfl)).trans ?_
  refine (if_pos w_0).trans ?_
  refine (zLet_eq (show _ = ρ 19 from rfl)).trans ?_
  refine (if_pos wl_0).trans ?_
  refine (zLet_eq (show fn9 [ρ 19] (γ 4) = (0, 0, γ 5) from l4.symm)).trans ?_
  refine (zLet_eq (show _ = γ 5 from rfl)).trans ?_
  refine (if_neg zQ0_).trans ?_
  refine (zLet_eq (show fn20 [0] (γ 5) = (0, 1, γ 6) from l5.symm)).trans ?_
  refine (zLet_eq (show _ = γ 6 from rfl)).trans ?_
  refine (if_pos zQ1_).trans ?_
  refine (zLet_eq m23).trans ?_
  refine (zLet_eq m24).trans ?_
  refine (zLet_eq c7.symm).trans ?_
  refine (zLet_eq c8.symm).trans ?_
  refine (zLet_eq (show fn7 [] (γ 8) = (0, 0, γ 9) from l6.symm)).trans ?_
  refine (zLet_eq (show _ = γ 9 from rfl)).trans ?_
  refine (zLet_eq m28).trans ?_
  refine (if_neg w_1).trans ?_
  refine (zLet_eq (show fn6 [ρ 28] (γ 9) = (0, ρ 29, γ 10) from l7.symm)).trans ?_
  refine (zLet_eq (show _ = γ 10 from rfl)).trans ?_
  refine (if_pos w_2).trans ?_
  refine (zLet_eq (show _ = ρ 29 from rfl)).trans ?_
  refine (zLet_eq (show fn9 [ρ 29] (γ 10) = (0, 1, γ 11) from l8.symm)).trans ?_
  refine (zLet_eq (show _ = γ 11 from rfl)).trans ?_
  refine (if_pos zQ1_).trans ?_
  refine (zLet_eq (show fn12 [] (γ 11) = (0, 1, γ 12) from l9.symm)).trans ?_
  refine (zLet_eq (show _ = γ 12 from rfl)).trans ?_
  refine (if_pos zQ1_).trans ?_
  refine (zLet_eq (show fn13 [105, 115, 0, 0, 0] (γ 12) = (0, 0, γ 13) from l10.symm)).trans ?_
  refine (zLet_eq (show _ = γ 13 from rfl)).trans ?_
  refine (if_neg zQ0_).trans ?_
  refine (zLet_eq (show fn8 [ρ 28] (γ 13) = (0, 0, γ 14) from l11.symm)).trans ?_
  refine (zLet_eq (show _ = γ 14 from rfl)).trans ?_
  rfl
theorem vn42_7 {S : Nat → zSpc} (hS6 : ∀ x g o v gz, S 6 x g o v gz → sn6 x g o v gz) (hS7 : ∀ x g o v gz, S 7 x g o v gz → sn7 x g o v gz) (hS8 : ∀ x g o v gz, S 8 x g o v gz → sn8 x g o v gz) (hS9 : ∀ x g o v gz, S 9 x g o v gz → sn9 x g o v gz) (hS12 : ∀ x g o v gz, S 12 x g o v gz → sn12 x g o v gz) (hS13 : ∀ x g o v gz, S 13 x g o v gz → sn13 x g o v gz) (hS15 : ∀ x g o v gz, S 15 x g o v gz → sn15 x g o v gz) (hS18 : ∀ x g o v gz, S 18 x g o v gz → sn18 x g o v gz) (hS20 : ∀ x g o v gz, S 20 x g o v gz → sn20 x g o v gz) (hS23 : ∀ x g o v gz, S 23 x g o v gz → sn23 x g o v gz) (hS33 : ∀ x g o v gz, S 33 x g o v gz → sn33 x g o v gz) (hS34 : ∀ x g o v gz, S 34 x g o v gz → sn34 x g o v gz) (hS40 : ∀ x g o v gz, S 40 x g o v gz → sn40 x g o v gz) (hS41 : ∀ x g o v gz, S 41 x g o v gz → sn41 x g o v gz) {a : List Int} {g : rHp} : ∀ (ρ : Nat → Int) (γ : Nat → rHp), zO 18 S a g q42_7 ρ γ → zGl (fun _ _ _ => True) (sn42 a g) q42_7 ρ γ := by
  intro ρ γ h
  obtain ⟨ha, hg, hr, hf, hm, hc, hl⟩ := h
  have ha : a = [ρ 0, ρ 1, ρ 2, ρ 3, ρ 4, ρ 5, ρ 6, ρ 7, ρ 8, ρ 9, ρ 10, ρ 11, ρ 12, ρ 13, ρ 14, ρ 15, ρ 16, ρ 17] := ha
  subst ha
  subst hg
  obtain ⟨-, -, -, -, -, -, -, -, -, -, -, -, -, -, -, -, -, -, -, r19, -, -, -, -, -, r25, -⟩ := hr
  have r19 : ((-128) : Int) ≤ ρ 19 ∧ ρ 19 ≤ 127 := r19
  have r25 : (1 : Int) ≤ ρ 25 ∧ ρ 25 ≤ 1 := r25
  obtain ⟨-, -, -, -, -, -, -, -, -, -, f10, -, -, -, -, -, -, -, -, -, -, -, -, f23, -⟩ := hf
  have f10 : (0 : Int) ≤ -ρ 28 + ρ 1 + (-1) := f10
  have f23 : (0 : Int) ≤ -ρ 18 + ρ 1 + (-1) := f23
  obtain ⟨w_0, w_1, w_2⟩ : (0 ≤ -ρ 18 + ρ 1 + (-1)) ∧ (¬ (ρ 25 ≠ 1)) ∧ (0 ≤ -ρ 28 + ρ 1 + (-1)) := ⟨by omega, by omega, by omega⟩
  obtain ⟨-, m1, -, -, -, -, -, -, m8, m9, -, -, -, -, -, -, -, m17, m18, -, -, -, -, m23, m24, -, -, -, m28, -⟩ := hm
  have m1 : γ 0 15 0 34 = ρ 1 := m1
  have m8 : γ 0 15 0 44 = ρ 8 := m8
  have m9 : γ 0 73 0 (ρ 8) = ρ 9 := m9
  have m17 : γ 0 15 0 45 = ρ 17 := m17
  have m18 : γ 1 15 0 35 = ρ 18 := m18
  have m23 : γ 6 15 0 39 = ρ 24 := m23
  have m24 : γ 6 15 0 40 = ρ 25 := m24
  have m28 : γ 9 15 0 35 = ρ 28 := m28
  obtain ⟨⟨⟨⟨⟨⟨⟨⟨⟨⟨⟨⟨⟨-, c3⟩, -⟩, -⟩, -⟩, c7⟩, c8⟩, -⟩, -⟩, -⟩, -⟩, -⟩, -⟩, -⟩ := hc
  have c3 : γ 3 = rUp (γ 2) 79 0 (ρ 9 + 8 * ρ 8) (ρ 17) := c3
  have c7 : γ 7 = rUp (γ 6) 80 0 (4 * ρ 9 + 32 * ρ 8) (ρ 25) := c7
  have c8 : γ 8 = rUp (γ 7) 81 0 (4 * ρ 9 + 32 * ρ 8) (ρ 24) := c8
  obtain ⟨l0, l1, l2, l3, l4, l5, l6, l7, l8, l9, l10, l11, l12, -⟩ := hl
  have l0 : sn7 [ρ 0, ρ 1] (γ 0) 0 0 (γ 1) := hS7 _ _ _ _ _ l0
  have l1 : sn33 [ρ 8, ρ 9] (γ 1) 0 (ρ 9 + 8 * ρ 8) (γ 2) := hS33 _ _ _ _ _ l1
  have l2 : sn6 [ρ 18, ρ 1] (γ 3) 0 (ρ 19) (γ 4) := hS6 _ _ _ _ _ l2
  have l3 : ρ 19 ≠ 33 := l3
  have l4 : sn9 [ρ 19] (γ 4) 0 0 (γ 5) := hS9 _ _ _ _ _ l4
  have l5 : sn20 [0, ρ 18, ρ 1, ρ 2, ρ 3, ρ 20, ρ 16, ρ 13, ρ 14, ρ 15, ρ 8] (γ 5) 0 1 (γ 6) := hS20 _ _ _ _ _ l5
  have l6 : sn7 [ρ 21, ρ 1] (γ 8) 0 0 (γ 9) := hS7 _ _ _ _ _ l6
  have l7 : sn6 [ρ 28, ρ 1] (γ 9) 0 (ρ 29) (γ 10) := hS6 _ _ _ _ _ l7
  have l8 : sn9 [ρ 29] (γ 10) 0 1 (γ 11) := hS9 _ _ _ _ _ l8
  have l9 : sn12 [ρ 28, ρ 1, ρ 26, ρ 13, ρ 27] (γ 11) 0 1 (γ 12) := hS12 _ _ _ _ _ l9
  have l10 : sn13 [105, 115, 0, 0, 0, ρ 28, ρ 31] (γ 12) 0 1 (γ 13) := hS13 _ _ _ _ _ l10
  have l11 : sn18 [ρ 24, ρ 17] (γ 13) 0 0 (γ 14) := hS18 _ _ _ _ _ l11
  have l12 : sn34 [1, ρ 30, ρ 1, ρ 22, ρ 23, ρ 8, ρ 9, ρ 10, ρ 24, ρ 13, ρ 28, ρ 31, ρ 25, ρ 17] (γ 14) 0 0 (γ 15) := hS34 _ _ _ _ _ l12
  have wl_0 : ρ 19 ≠ 33 := by omega
  show sn42 [ρ 0, ρ 1, ρ 2, ρ 3, ρ 4, ρ 5, ρ 6, ρ 7, ρ 8, ρ 9, ρ 10, ρ 11, ρ 12, ρ 13, ρ 14, ρ 15, ρ 16, ρ 17] (γ 0) 0 0 (γ 15)
  refine Eq.symm ?_
  show fn42 [] (γ 0) = _
  unfold fn42
  refine (zLet_eq m1).trans ?_
  refine (zLet_eq m8).trans ?_
  refine (zLet_eq m9).trans ?_
  refine (zLet_eq m17).trans ?_
  refine (zLet_eq (show fn7 [] (γ 0) = (0, 0, γ 1) from l0.symm)).trans ?_
  refine (zLet_eq (show _ = γ 1 from rfl)).trans ?_
  refine (zLet_eq m18).trans ?_
  refine (zLet_eq (show fn33 [] (γ 1) = (0, ρ 9 + 8 * ρ 8, γ 2) from l1.symm)).trans ?_
  refine (zLet_eq (show _ = γ 2 from rfl)).trans ?_
  refine (zLet_eq c3.symm).trans ?_
  refine (zLet_eq (show fn6 [ρ 18] (γ 3) = (0, ρ 19, γ 4) from l2.symm)).trans ?_
  refine (zLet_eq (show _ = γ 4 from rfl)).trans ?_
  refine (if_pos w_0).trans ?_
  refine (zLet_eq (show _ = ρ 19 from rfl)).trans ?_
  refine (if_pos wl_0).trans ?_
  refine (zLet_eq (show fn9 [ρ 19] (γ 4) = (0, 0, γ 5) from l4.symm)).trans ?_
  refine (zLet_eq (show _ = γ 5 from rfl)).trans ?_
  refine (if_neg zQ0_).trans ?_
  refine (zLet_eq (show fn20 [0] (γ 5) = (0, 1, γ 6) from l5.symm)).trans ?_
  refine (zLet_eq (show _ = γ 6 from rfl)).trans ?_
  refine (if_pos zQ1_).trans ?_
  refine (zLet_eq m23).trans ?_
  refine (zLet_eq m24).trans ?_
  refine (zLet_eq c7.symm).trans ?_
  refine (zLet_eq c8.symm).trans ?_
  refine (zLet_eq (show fn7 [] (γ 8) = (0, 0, γ 9) from l6.symm)).trans ?_
  refine (zLet_eq (show _ = γ 9 from rfl)).trans ?_
  refine (zLet_eq m28).trans ?_
  refine (if_neg w_1).trans ?_
  refine (zLet_eq (show fn6 [ρ 28] (γ 9) = (0, ρ 29, γ 10) from l7.symm)).trans ?_
  refine (zLet_eq (show _ = γ 10 from rfl)).trans ?_
  refine (if_pos w_2).trans ?_
  refine (zLet_eq (show _ = ρ 29 from rfl)).trans ?_
  refine (zLet_eq (show fn9 [ρ 29] (γ 10) = (0, 1, γ 11) from l8.symm)).trans ?_
  refine (zLet_eq (show _ = γ 11 from rfl)).trans ?_
  refine (if_pos zQ1_).trans ?_
  refine (zLet_eq (show fn12 [] (γ 11) = (0, 1, γ 12) from l9.symm)).trans ?_
  refine (zLet_eq (show _ = γ 12 from rfl)).trans ?_
  refine (if_pos zQ1_).trans ?_
  refine (zLet_eq (show fn13 [105, 115, 0, 0, 0] (γ 12) = (0, 1, γ 13) from l10.symm)).trans ?_
  refine (zLet_eq (show _ = γ 13 from rfl)).trans ?_
  refine (if_pos zQ1_).trans ?_
  refine (zLet_eq (show fn18 [ρ 24] (γ 13) = (0, 0, γ 14) from l11.symm)).trans ?_
  refine (zLet_eq (show _ = γ 14 from rfl)).trans ?_
  refine (if_neg zQ0_).trans ?_
  refine (zLet_eq (show fn34 [1] (γ 14) = (0, 0, γ 15) from l12.symm)).trans ?_
  refine (zLet_eq (show _ = γ 15 from rfl)).trans ?_
  refine (if_neg zQ0_).trans ?_
  rfl
theorem vn42_8 {S : Nat → zSpc} (hS6 : ∀ x g o v gz, S 6 x g o v gz → sn6 x g o v gz) (hS7 : ∀ x g o v gz, S 7 x g o v gz → sn7 x g o v gz) (hS8 : ∀ x g o v gz, S 8 x g o v gz → sn8 x g o v gz) (hS9 : ∀ x g o v gz, S 9 x g o v gz → sn9 x g o v gz) (hS12 : ∀ x g o v gz, S 12 x g o v gz → sn12 x g o v gz) (hS13 : ∀ x g o v gz, S 13 x g o v gz → sn13 x g o v gz) (hS15 : ∀ x g o v gz, S 15 x g o v gz → sn15 x g o v gz) (hS18 : ∀ x g o v gz, S 18 x g o v gz → sn18 x g o v gz) (hS20 : ∀ x g o v gz, S 20 x g o v gz → sn20 x g o v gz) (hS23 : ∀ x g o v gz, S 23 x g o v gz → sn23 x g o v gz) (hS33 : ∀ x g o v gz, S 33 x g o v gz → sn33 x g o v gz) (hS34 : ∀ x g o v gz, S 34 x g o v gz → sn34 x g o v gz) (hS40 : ∀ x g o v gz, S 40 x g o v gz → sn40 x g o v gz) (hS41 : ∀ x g o v gz, S 41 x g o v gz → sn41 x g o v gz) {a : List Int} {g : rHp} : ∀ (ρ : Nat → Int) (γ : Nat → rHp), zO 18 S a g q42_8 ρ γ → zGl (fun _ _ _ => True) (sn42 a g) q42_8 ρ γ := by
  intro ρ γ h
  obtain ⟨ha, hg, hr, hf, hm, hc, hl⟩ := h
  have ha : a = [ρ 0, ρ 1, ρ 2, ρ 3, ρ 4, ρ 5, ρ 6, ρ 7, ρ 8, ρ 9, ρ 10, ρ 11, ρ 12, ρ 13, ρ 14, ρ 15, ρ 16, ρ 17] := ha
  subst ha
  subst hg
  obtain ⟨-, -, -, -, -, -, -, -, -, -, -, -, -, -, -, -, -, -, -, r19, -, -, -, -, -, r25, -, -, -, -, -, -, -, -, -, -, -, -, -, r39, -⟩ := hr
  have r19 : ((-128) : Int) ≤ ρ 19 ∧ ρ 19 ≤ 127 := r19
  have r25 : (1 : Int) ≤ ρ 25 ∧ ρ 25 ≤ 1 := r25
  have r39 : (43 : Int) ≤ ρ 39 ∧ ρ 39 ≤ 43 := r39
  obtain ⟨-, -, f2, -, -, -, -, -, -, -, -, -, -, -, -, -, -, -, -, -, -, -, f22, -, -, -, -, -, -, -, -, -, -, -, -, f35, -⟩ := hf
  have f2 : (0 : Int) ≤ -ρ 38 + ρ 1 + (-1) := f2
  have f22 : (0 : Int) ≤ -ρ 28 + ρ 1 + (-1) := f22
  have f35 : (0 : Int) ≤ -ρ 18 + ρ 1 + (-1) := f35
  obtain ⟨w_0, w_1, w_2, w_3, w_4⟩ : (0 ≤ -ρ 18 + ρ 1 + (-1)) ∧ (¬ (ρ 25 ≠ 1)) ∧ (0 ≤ -ρ 28 + ρ 1 + (-1)) ∧ (0 ≤ -ρ 38 + ρ 1 + (-1)) ∧ (ρ 39 = 43) := ⟨by omega, by omega, by omega, by omega, by omega⟩
  obtain ⟨-, m1, -, -, -, -, -, -, m8, m9, -, -, -, -, -, -, -, m17, m18, -, -, -, -, m23, m24, -, -, -, m28, -, -, -, -, -, -, -, -, -, -, -, -, m41, -⟩ := hm
  have m1 : γ 0 15 0 34 = ρ 1 := m1
  have m8 : γ 0 15 0 44 = ρ 8 := m8
  have m9 : γ 0 73 0 (ρ 8) = ρ 9 := m9
  have m17 : γ 0 15 0 45 = ρ 17 := m17
  have m18 : γ 1 15 0 35 = ρ 18 := m18
  have m23 : γ 6 15 0 39 = ρ 24 := m23
  have m24 : γ 6 15 0 40 = ρ 25 := m24
  have m28 : γ 9 15 0 35 = ρ 28 := m28
  have m41 : γ 16 15 0 35 = ρ 38 := m41
  obtain ⟨⟨⟨⟨⟨⟨⟨⟨⟨⟨⟨⟨⟨⟨⟨⟨⟨⟨-, c3⟩, -⟩, -⟩, -⟩, c7⟩, c8⟩, -⟩, -⟩, -⟩, -⟩, -⟩, -⟩, -⟩, -⟩, -⟩, c18⟩, c19⟩, -⟩ := hc
  have c3 : γ 3 = rUp (γ 2) 79 0 (ρ 9 + 8 * ρ 8) (ρ 17) := c3
  have c7 : γ 7 = rUp (γ 6) 80 0 (4 * ρ 9 + 32 * ρ 8) (ρ 25) := c7
  have c8 : γ 8 = rUp (γ 7) 81 0 (4 * ρ 9 + 32 * ρ 8) (ρ 24) := c8
  have c18 : γ 18 = rUp (γ 17) 15 0 35 (ρ 38 + 1) := c18
  have c19 : γ 19 = rUp (γ 18) 77 0 (ρ 9 + 8 * ρ 8) 5 := c19
  obtain ⟨l0, l1, l2, l3, l4, l5, l6, l7, l8, l9, l10, l11, l12, l13, l14, l15, -⟩ := hl
  have l0 : sn7 [ρ 0, ρ 1] (γ 0) 0 0 (γ 1) := hS7 _ _ _ _ _ l0
  have l1 : sn33 [ρ 8, ρ 9] (γ 1) 0 (ρ 9 + 8 * ρ 8) (γ 2) := hS33 _ _ _ _ _ l1
  have l2 : sn6 [ρ 18, ρ 1] (γ 3) 0 (ρ 19) (γ 4) := hS6 _ _ _ _ _ l2
  have l3 : ρ 19 ≠ 33 := l3
  have l4 : sn9 [ρ 19] (γ 4) 0 0 (γ 5) := hS9 _ _ _ _ _ l4
  have l5 : sn20 [0, ρ 18, ρ 1, ρ 2, ρ 3, ρ 20, ρ 16, ρ 13, ρ 14, ρ 15, ρ 8] (γ 5) 0 1 (γ 6) := hS20 _ _ _ _ _ l5
  have l6 : sn7 [ρ 21, ρ 1] (γ 8) 0 0 (γ 9) := hS7 _ _ _ _ _ l6
  have l7 : sn6 [ρ 28, ρ 1] (γ 9) 0 (ρ 29) (γ 10) := hS6 _ _ _ _ _ l7
  have l8 : sn9 [ρ 29] (γ 10) 0 1 (γ 11) := hS9 _ _ _ _ _ l8
  have l9 : sn12 [ρ 28, ρ 1, ρ 26, ρ 13, ρ 27] (γ 11) 0 1 (γ 12) := hS12 _ _ _ _ _ l9
  have l10 : sn13 [105, 115, 0, 0, 0, ρ 28, ρ 31] (γ 12) 0 1 (γ 13) := hS13 _ _ _ _ _ l10
  have l11 : sn18 [ρ 24, ρ 17] (γ 13) 0 0 (γ 14) := hS18 _ _ _ _ _ l11
  have l12 : sn34 [1, ρ 30, ρ 1, ρ 22, ρ 23, ρ 8, ρ 9, ρ 10, ρ 24, ρ 13, ρ 28, ρ 31, ρ 25, ρ 17] (γ 14) 0 1 (γ 15) := hS34 _ _ _ _ _ l12
  have l13 : sn7 [ρ 32, ρ 1] (γ 15) 0 0 (γ 16) := hS7 _ _ _ _ _ l13
  have l14 : sn6 [ρ 38, ρ 1] (γ 16) 0 (ρ 39) (γ 17) := hS6 _ _ _ _ _ l14
  have l15 : sn34 [2, ρ 38 + 1, ρ 1, ρ 33, ρ 34, ρ 8, ρ 9, 5, ρ 24, ρ 13, ρ 35, ρ 36, ρ 37, ρ 17] (γ 19) 0 0 (γ 20) := hS34 _ _ _ _ _ l15
  have wl_0 : ρ 19 ≠ 33 := by omega
  show sn42 [ρ 0, ρ 1, ρ 2, ρ 3, ρ 4, ρ 5, ρ 6, ρ 7, ρ 8, ρ 9, ρ 10, ρ 11, ρ 12, ρ 13, ρ 14, ρ 15, ρ 16, ρ 17] (γ 0) 0 0 (γ 20)
  refine Eq.symm ?_
  show fn42 [] (γ 0) = _
  unfold fn42
  refine (zLet_eq m1).trans ?_
  refine (zLet_eq m8).trans ?_
  refine (zLet_eq m9).trans ?_
  refine (zLet_eq m17).trans ?_
  refine (zLet_eq (show fn7 [] (γ 0) = (0, 0, γ 1) from l0.symm)).trans ?_
  refine (zLet_eq (show _ = γ 1 from rfl)).trans ?_
  refine (zLet_eq m18).trans ?_
  refine (zLet_eq (show fn33 [] (γ 1) = (0, ρ 9 + 8 * ρ 8, γ 2) from l1.symm)).trans ?_
  refine (zLet_eq (show _ = γ 2 from rfl)).trans ?_
  refine (zLet_eq c3.symm).trans ?_
  refine (zLet_eq (show fn6 [ρ 18] (γ 3) = (0, ρ 19, γ 4) from l2.symm)).trans ?_
  refine (zLet_eq (show _ = γ 4 from rfl)).trans ?_
  refine (if_pos w_0).trans ?_
  refine (zLet_eq (show _ = ρ 19 from rfl)).trans ?_
  refine (if_pos wl_0).trans ?_
  refine (zLet_eq (show fn9 [ρ 19] (γ 4) = (0, 0, γ 5) from l4.symm)).trans ?_
  refine (zLet_eq (show _ = γ 5 from rfl)).trans ?_
  refine (if_neg zQ0_).trans ?_
  refine (zLet_eq (show fn20 [0] (γ 5) = (0, 1, γ 6) from l5.symm)).trans ?_
  refine (zLet_eq (show _ = γ 6 from rfl)).trans ?_
  refine (if_pos zQ1_).trans ?_
  refine (zLet_eq m23).trans ?_
  refine (zLet_eq m24).trans ?_
  refine (zLet_eq c7.symm).trans ?_
  refine (zLet_eq c8.symm).trans ?_
  refine (zLet_eq (show fn7 [] (γ 8) = (0, 0, γ 9) from l6.symm)).trans ?_
  refine (zLet_eq (show _ = γ 9 from rfl)).trans ?_
  refine (zLet_eq m28).trans ?_
  refine (if_neg w_1).trans ?_
  refine (zLet_eq (show fn6 [ρ 28] (γ 9) = (0, ρ 29, γ 10) from l7.symm)).trans ?_
  refine (zLet_eq (show _ = γ 10 from rfl)).trans ?_
  refine (if_pos w_2).trans ?_
  refine (zLet_eq (show _ = ρ 29 from rfl)).trans ?_
  refine (zLet_eq (show fn9 [ρ 29] (γ 10) = (0, 1, γ 11) from l8.symm)).trans ?_
  refine (zLet_eq (show _ = γ 11 from rfl)).trans ?_
  refine (if_pos zQ1_).trans ?_
  refine (zLet_eq (show fn12 [] (γ 11) = (0, 1, γ 12) from l9.symm)).trans ?_
  refine (zLet_eq (show _ = γ 12 from rfl)).trans ?_
  refine (if_pos zQ1_).trans ?_
  refine (zLet_eq (show fn13 [105, 115, 0, 0, 0] (γ 12) = (0, 1, γ 13) from l10.symm)).trans ?_
  refine (zLet_eq (show _ = γ 13 from rfl)).trans ?_
  refine (if_pos zQ1_).trans ?_
  refine (zLet_eq (show fn18 [ρ 24] (γ 13) = (0, 0, γ 14) from l11.symm)).trans ?_
  refine (zLet_eq (show _ = γ 14 from rfl)).trans ?_
  refine (if_neg zQ0_).trans ?_
  refine (zLet_eq (show fn34 [1] (γ 14) = (0, 1, γ 15) from l12.symm)).trans ?_
  refine (zLet_eq (show _ = γ 15 from rfl)).trans ?_
  refine (if_pos zQ1_).trans ?_
  refine (zLet_eq (show fn7 [] (γ 15) = (0, 0, γ 16) from l13.symm)).trans ?_
  refine (zLet_eq (show _ = γ 16 from rfl)).trans ?_
  refine (zLet_eq m41).trans ?_
  refine (zLet_eq (show fn6 [ρ 38] (γ 16) = (0, ρ 39, γ 17) from l14.symm)).trans ?_
  refine (zLet_eq (show _ = γ 17 from rfl)).trans ?_
  refine (if_pos w_3).trans ?_
  refine (zLet_eq (show _ = ρ 39 from rfl)).trans ?_
  refine (if_pos w_4).trans ?_
  refine (zLet_eq c18.symm).trans ?_
  refine (zLet_eq c19.symm).trans ?_
  refine (zLet_eq (show fn34 [2] (γ 19) = (0, 0, γ 20) from l15.symm)).trans ?_
  refine (zLet_eq (show _ = γ 20 from rfl)).trans ?_
  refine (if_neg zQ0_).trans ?_
  rfl
theorem vn42_9 {S : Nat → zSpc} (hS6 : ∀ x g o v gz, S 6 x g o v gz → sn6 x g o v gz) (hS7 : ∀ x g o v gz, S 7 x g o v gz → sn7 x g o v gz) (hS8 : ∀ x g o v gz, S 8 x g o v gz → sn8 x g o v gz) (hS9 : ∀ x g o v gz, S 9 x g o v gz → sn9 x g o v gz) (hS12 : ∀ x g o v gz, S 12 x g o v gz → sn12 x g o v gz) (hS13 : ∀ x g o v gz, S 13 x g o v gz → sn13 x g o v gz) (hS15 : ∀ x g o v gz, S 15 x g o v gz → sn15 x g o v gz) (hS18 : ∀ x g o v gz, S 18 x g o v gz → sn18 x g o v gz) (hS20 : ∀ x g o v gz, S 20 x g o v gz → sn20 x g o v gz) (hS23 : ∀ x g o v gz, S 23 x g o v gz → sn23 x g o v gz) (hS33 : ∀ x g o v gz, S 33 x g o v gz → sn33 x g o v gz) (hS34 : ∀ x g o v gz, S 34 x g o v gz → sn34 x g o v gz) (hS40 : ∀ x g o v gz, S 40 x g o v gz → sn40 x g o v gz) (hS41 : ∀ x g o v gz, S 41 x g o v gz → sn41 x g o v gz) {a : List Int} {g : rHp} : ∀ (ρ : Nat → Int) (γ : Nat → rHp), zO 18 S a g q42_9 ρ γ → zGl (fun _ _ _ => True) (sn42 a g) q42_9 ρ γ := by
  intro ρ γ h
  obtain ⟨ha, hg, hr, hf, hm, hc, hl⟩ := h
  have ha : a = [ρ 0, ρ 1, ρ 2, ρ 3, ρ 4, ρ 5, ρ 6, ρ 7, ρ 8, ρ 9, ρ 10, ρ 11, ρ 12, ρ 13, ρ 14, ρ 15, ρ 16, ρ 17] := ha
  subst ha
  subst hg
  obtain ⟨-, -, -, -, -, -, -, -, -, -, -, -, -, -, -, -, -, -, -, r19, -, -, -, -, -, r25, -, -, -, -, -, -, -, -, -, -, -, -, -, r39, -⟩ := hr
  have r19 : ((-128) : Int) ≤ ρ 19 ∧ ρ 19 ≤ 127 := r19
  have r25 : (1 : Int) ≤ ρ 25 ∧ ρ 25 ≤ 1 := r25
  have r39 : (43 : Int) ≤ ρ 39 ∧ ρ 39 ≤ 43 := r39
  obtain ⟨-, -, f2, -, -, -, -, -, -, -, -, -, -, -, -, -, -, -, -, -, -, -, f22, -, -, -, -, -, -, -, -, -, -, -, -, f35, -⟩ := hf
  have f2 : (0 : Int) ≤ -ρ 38 + ρ 1 + (-1) := f2
  have f22 : (0 : Int) ≤ -ρ 28 + ρ 1 + (-1) := f22
  have f35 : (0 : Int) ≤ -ρ 18 + ρ 1 + (-1) := f35
  obtain ⟨w_0, w_1, w_2, w_3, w_4⟩ : (0 ≤ -ρ 18 + ρ 1 + (-1)) ∧ (¬ (ρ 25 ≠ 1)) ∧ (0 ≤ -ρ 28 + ρ 1 + (-1)) ∧ (0 ≤ -ρ 38 + ρ 1 + (-1)) ∧ (ρ 39 = 43) := ⟨by omega, by omega, by omega, by omega, by omega⟩
  obtain ⟨-, m1, -, -, -, -, -, -, m8, m9, -, -, -, -, -, -, -, m17, m18, -, -, -, -, m23, m24, -, -, -, m28, -, -, -, -, -, -, -, -, -, -, -, -, m41, -⟩ := hm
  have m1 : γ 0 15 0 34 = ρ 1 := m1
  have m8 : γ 0 15 0 44 = ρ 8 := m8
  have m9 : γ 0 73 0 (ρ 8) = ρ 9 := m9
  have m17 : γ 0 15 0 45 = ρ 17 := m17
  have m18 : γ 1 15 0 35 = ρ 18 := m18
  have m23 : γ 6 15 0 39 = ρ 24 := m23
  have m24 : γ 6 15 0 40 = ρ 25 := m24
  have m28 : γ 9 15 0 35 = ρ 28 := m28
  have m41 : γ 16 15 0 35 = ρ 38 := m41
  obtain ⟨⟨⟨⟨⟨⟨⟨⟨⟨⟨⟨⟨⟨⟨⟨⟨⟨⟨⟨-, c3⟩, -⟩, -⟩, -⟩, c7⟩, c8⟩, -⟩, -⟩, -⟩, -⟩, -⟩, -⟩, -⟩, -⟩, -⟩, c18⟩, c19⟩, -⟩, c21⟩ := hc
  have c3 : γ 3 = rUp (γ 2) 79 0 (ρ 9 + 8 * ρ 8) (ρ 17) := c3
  have c7 : γ 7 = rUp (γ 6) 80 0 (4 * ρ 9 + 32 * ρ 8) (ρ 25) := c7
  have c8 : γ 8 = rUp (γ 7) 81 0 (4 * ρ 9 + 32 * ρ 8) (ρ 24) := c8
  have c18 : γ 18 = rUp (γ 17) 15 0 35 (ρ 38 + 1) := c18
  have c19 : γ 19 = rUp (γ 18) 77 0 (ρ 9 + 8 * ρ 8) 5 := c19
  have c21 : γ 21 = rUp (γ 20) 15 0 45 (ρ 47) := c21
  obtain ⟨l0, l1, l2, l3, l4, l5, l6, l7, l8, l9, l10, l11, l12, l13, l14, l15, l16, l17, -⟩ := hl
  have l0 : sn7 [ρ 0, ρ 1] (γ 0) 0 0 (γ 1) := hS7 _ _ _ _ _ l0
  have l1 : sn33 [ρ 8, ρ 9] (γ 1) 0 (ρ 9 + 8 * ρ 8) (γ 2) := hS33 _ _ _ _ _ l1
  have l2 : sn6 [ρ 18, ρ 1] (γ 3) 0 (ρ 19) (γ 4) := hS6 _ _ _ _ _ l2
  have l3 : ρ 19 ≠ 33 := l3
  have l4 : sn9 [ρ 19] (γ 4) 0 0 (γ 5) := hS9 _ _ _ _ _ l4
  have l5 : sn20 [0, ρ 18, ρ 1, ρ 2, ρ 3, ρ 20, ρ 16, ρ 13, ρ 14, ρ 15, ρ 8] (γ 5) 0 1 (γ 6) := hS20 _ _ _ _ _ l5
  have l6 : sn7 [ρ 21, ρ 1] (γ 8) 0 0 (γ 9) := hS7 _ _ _ _ _ l6
  have l7 : sn6 [ρ 28, ρ 1] (γ 9) 0 (ρ 29) (γ 10) := hS6 _ _ _ _ _ l7
  have l8 : sn9 [ρ 29] (γ 10) 0 1 (γ 11) := hS9 _ _ _ _ _ l8
  have l9 : sn12 [ρ 28, ρ 1, ρ 26, ρ 13, ρ 27] (γ 11) 0 1 (γ 12) := hS12 _ _ _ _ _ l9
  have l10 : sn13 [105, 115, 0, 0, 0, ρ 28, ρ 31] (γ 12) 0 1 (γ 13) := hS13 _ _ _ _ _ l10
  have l11 : sn18 [ρ 24, ρ 17] (γ 13) 0 0 (γ 14) := hS18 _ _ _ _ _ l11
  have l12 : sn34 [1, ρ 30, ρ 1, ρ 22, ρ 23, ρ 8, ρ 9, ρ 10, ρ 24, ρ 13, ρ 28, ρ 31, ρ 25, ρ 17] (γ 14) 0 1 (γ 15) := hS34 _ _ _ _ _ l12
  have l13 : sn7 [ρ 32, ρ 1] (γ 15) 0 0 (γ 16) := hS7 _ _ _ _ _ l13
  have l14 : sn6 [ρ 38, ρ 1] (γ 16) 0 (ρ 39) (γ 17) := hS6 _ _ _ _ _ l14
  have l15 : sn34 [2, ρ 38 + 1, ρ 1, ρ 33, ρ 34, ρ 8, ρ 9, 5, ρ 24, ρ 13, ρ 35, ρ 36, ρ 37, ρ 17] (γ 19) 0 1 (γ 20) := hS34 _ _ _ _ _ l15
  have l16 : zOpP (.ishl) (γ 0) (γ 1) [1, ρ 24] (ρ 46) := l16
  have l17 : zOpP (.ior) (γ 0) (γ 1) [ρ 17, ρ 46] (ρ 47) := l17
  have wl_0 : ρ 19 ≠ 33 := by omega
  show sn42 [ρ 0, ρ 1, ρ 2, ρ 3, ρ 4, ρ 5, ρ 6, ρ 7, ρ 8, ρ 9, ρ 10, ρ 11, ρ 12, ρ 13, ρ 14, ρ 15, ρ 16, ρ 17] (γ 0) 0 1 (γ 21)
  refine Eq.symm ?_
  show fn42 [] (γ 0) = _
  unfold fn42
  refine (zLet_eq m1).trans ?_
  refine (zLet_eq m8).trans ?_
  refine (zLet_eq m9).trans ?_
  refine (zLet_eq m17).trans ?_
  refine (zLet_eq (show fn7 [] (γ 0) = (0, 0, γ 1) from l0.symm)).trans ?_
  refine (zLet_eq (show _ = γ 1 from rfl)).trans ?_
  refine (zLet_eq m18).trans ?_
  refine (zLet_eq (show fn33 [] (γ 1) = (0, ρ 9 + 8 * ρ 8, γ 2) from l1.symm)).trans ?_
  refine (zLet_eq (show _ = γ 2 from rfl)).trans ?_
  refine (zLet_eq c3.symm).trans ?_
  refine (zLet_eq (show fn6 [ρ 18] (γ 3) = (0, ρ 19, γ 4) from l2.symm)).trans ?_
  refine (zLet_eq (show _ = γ 4 from rfl)).trans ?_
  refine (if_pos w_0).trans ?_
  refine (zLet_eq (show _ = ρ 19 from rfl)).trans ?_
  refine (if_pos wl_0).trans ?_
  refine (zLet_eq (show fn9 [ρ 19] (γ 4) = (0, 0, γ 5) from l4.symm)).trans ?_
  refine (zLet_eq (show _ = γ 5 from rfl)).trans ?_
  refine (if_neg zQ0_).trans ?_
  refine (zLet_eq (show fn20 [0] (γ 5) = (0, 1, γ 6) from l5.symm)).trans ?_
  refine (zLet_eq (show _ = γ 6 from rfl)).trans ?_
  refine (if_pos zQ1_).trans ?_
  refine (zLet_eq m23).trans ?_
  refine (zLet_eq m24).trans ?_
  refine (zLet_eq c7.symm).trans ?_
  refine (zLet_eq c8.symm).trans ?_
  refine (zLet_eq (show fn7 [] (γ 8) = (0, 0, γ 9) from l6.symm)).trans ?_
  refine (zLet_eq (show _ = γ 9 from rfl)).trans ?_
  refine (zLet_eq m28).trans ?_
  refine (if_neg w_1).trans ?_
  refine (zLet_eq (show fn6 [ρ 28] (γ 9) = (0, ρ 29, γ 10) from l7.symm)).trans ?_
  refine (zLet_eq (show _ = γ 10 from rfl)).trans ?_
  refine (if_pos w_2).trans ?_
  refine (zLet_eq (show _ = ρ 29 from rfl)).trans ?_
  refine (zLet_eq (show fn9 [ρ 29] (γ 10) = (0, 1, γ 11) from l8.symm)).trans ?_
  refine (zLet_eq (show _ = γ 11 from rfl)).trans ?_
  refine (if_pos zQ1_).trans ?_
  refine (zLet_eq (show fn12 [] (γ 11) = (0, 1, γ 12) from l9.symm)).trans ?_
  refine (zLet_eq (show _ = γ 12 from rfl)).trans ?_
  refine (if_pos zQ1_).trans ?_
  refine (zLet_eq (show fn13 [105, 115, 0, 0, 0] (γ 12) = (0, 1, γ 13) from l10.symm)).trans ?_
  refine (zLet_eq (show _ = γ 13 from rfl)).trans ?_
  refine (if_pos zQ1_).trans ?_
  refine (zLet_eq (show fn18 [ρ 24] (γ 13) = (0, 0, γ 14) from l11.symm)).trans ?_
  refine (zLet_eq (show _ = γ 14 from rfl)).trans ?_
  refine (if_neg zQ0_).trans ?_
  refine (zLet_eq (show fn34 [1] (γ 14) = (0, 1, γ 15) from l12.symm)).trans ?_
  refine (zLet_eq (show _ = γ 15 from rfl)).trans ?_
  refine (if_pos zQ1_).trans ?_
  refine (zLet_eq (show fn7 [] (γ 15) = (0, 0, γ 16) from l13.symm)).trans ?_
  refine (zLet_eq (show _ = γ 16 from rfl)).trans ?_
  refine (zLet_eq m41).trans ?_
  refine (zLet_eq (show fn6 [ρ 38] (γ 16) = (0, ρ 39, γ 17) from l14.symm)).trans ?_
  refine (zLet_eq (show _ = γ 17 from rfl)).trans ?_
  refine (if_pos w_3).trans ?_
  refine (zLet_eq (show _ = ρ 39 from rfl)).trans ?_
  refine (if_pos w_4).trans ?_
  refine (zLet_eq c18.symm).trans ?_
  refine (zLet_eq c19.symm).trans ?_
  refine (zLet_eq (show fn34 [2] (γ 19) = (0, 1, γ 20) from l15.symm)).trans ?_
  refine (zLet_eq (show _ = γ 20 from rfl)).trans ?_
  refine (if_pos zQ1_).trans ?_
  refine (zLet_eq (zF2_ok l16)).trans ?_
  refine (zLet_eq (zF2_ok l17)).trans ?_
  refine (zLet_eq c21.symm).trans ?_
  rfl
theorem vn42_10 {S : Nat → zSpc} (hS6 : ∀ x g o v gz, S 6 x g o v gz → sn6 x g o v gz) (hS7 : ∀ x g o v gz, S 7 x g o v gz → sn7 x g o v gz) (hS8 : ∀ x g o v gz, S 8 x g o v gz → sn8 x g o v gz) (hS9 : ∀ x g o v gz, S 9 x g o v gz → sn9 x g o v gz) (hS12 : ∀ x g o v gz, S 12 x g o v gz → sn12 x g o v gz) (hS13 : ∀ x g o v gz, S 13 x g o v gz → sn13 x g o v gz) (hS15 : ∀ x g o v gz, S 15 x g o v gz → sn15 x g o v gz) (hS18 : ∀ x g o v gz, S 18 x g o v gz → sn18 x g o v gz) (hS20 : ∀ x g o v gz, S 20 x g o v gz → sn20 x g o v gz) (hS23 : ∀ x g o v gz, S 23 x g o v gz → sn23 x g o v gz) (hS33 : ∀ x g o v gz, S 33 x g o v gz → sn33 x g o v gz) (hS34 : ∀ x g o v gz, S 34 x g o v gz → sn34 x g o v gz) (hS40 : ∀ x g o v gz, S 40 x g o v gz → sn40 x g o v gz) (hS41 : ∀ x g o v gz, S 41 x g o v gz → sn41 x g o v gz) {a : List Int} {g : rHp} : ∀ (ρ : Nat → Int) (γ : Nat → rHp), zO 18 S a g q42_10 ρ γ → zGl (fun _ _ _ => True) (sn42 a g) q42_10 ρ γ := by
  intro ρ γ h
  obtain ⟨ha, hg, hr, hf, hm, hc, hl⟩ := h
  have ha : a = [ρ 0, ρ 1, ρ 2, ρ 3, ρ 4, ρ 5, ρ 6, ρ 7, ρ 8, ρ 9, ρ 10, ρ 11, ρ 12, ρ 13, ρ 14, ρ 15, ρ 16, ρ 17] := ha
  subst ha
  subst hg
  obtain ⟨-, -, -, -, -, -, -, -, -, -, -, -, -, -, -, -, -, -, -, r19, -, -, -, -, -, r25, -, -, -, -, -, -, -, -, -, -, -, -, -, r39, -⟩ := hr
  have r19 : ((-128) : Int) ≤ ρ 19 ∧ ρ 19 ≤ 127 := r19
  have r25 : (1 : Int) ≤ ρ 25 ∧ ρ 25 ≤ 1 := r25
  have r39 : (45 : Int) ≤ ρ 39 ∧ ρ 39 ≤ 45 := r39
  obtain ⟨-, -, f2, -, -, -, -, -, -, -, -, -, -, -, -, -, -, -, -, -, -, -, f22, -, -, -, -, -, -, -, -, -, -, -, -, f35, -⟩ := hf
  have f2 : (0 : Int) ≤ -ρ 38 + ρ 1 + (-1) := f2
  have f22 : (0 : Int) ≤ -ρ 28 + ρ 1 + (-1) := f22
  have f35 : (0 : Int) ≤ -ρ 18 + ρ 1 + (-1) := f35
  obtain ⟨w_0, w_1, w_2, w_3, w_4, w_5⟩ : (0 ≤ -ρ 18 + ρ 1 + (-1)) ∧ (¬ (ρ 25 ≠ 1)) ∧ (0 ≤ -ρ 28 + ρ 1 + (-1)) ∧ (0 ≤ -ρ 38 + ρ 1 + (-1)) ∧ (¬ (ρ 39 = 43)) ∧ (ρ 39 = 45) := ⟨by omega, by omega, by omega, by omega, by omega, by omega⟩
  obtain ⟨-, m1, -, -, -, -, -, -, m8, m9, -, -, -, -, -, -, -, m17, m18, -, -, -, -, m23, m24, -, -, -, m28, -, -, -, -, -, -, -, -, -, -, -, -, m41, -⟩ := hm
  have m1 : γ 0 15 0 34 = ρ 1 := m1
  have m8 : γ 0 15 0 44 = ρ 8 := m8
  have m9 : γ 0 73 0 (ρ 8) = ρ 9 := m9
  have m17 : γ 0 15 0 45 = ρ 17 := m17
  have m18 : γ 1 15 0 35 = ρ 18 := m18
  have m23 : γ 6 15 0 39 = ρ 24 := m23
  have m24 : γ 6 15 0 40 = ρ 25 := m24
  have m28 : γ 9 15 0 35 = ρ 28 := m28
  have m41 : γ 16 15 0 35 = ρ 38 := m41
  obtain ⟨⟨⟨⟨⟨⟨⟨⟨⟨⟨⟨⟨⟨⟨⟨⟨⟨⟨-, c3⟩, -⟩, -⟩, -⟩, c7⟩, c8⟩, -⟩, -⟩, -⟩, -⟩, -⟩, -⟩, -⟩, -⟩, -⟩, c18⟩, c19⟩, -⟩ := hc
  have c3 : γ 3 = rUp (γ 2) 79 0 (ρ 9 + 8 * ρ 8) (ρ 17) := c3
  have c7 : γ 7 = rUp (γ 6) 80 0 (4 * ρ 9 + 32 * ρ 8) (ρ 25) := c7
  have c8 : γ 8 = rUp (γ 7) 81 0 (4 * ρ 9 + 32 * ρ 8) (ρ 24) := c8
  have c18 : γ 18 = rUp (γ 17) 15 0 35 (ρ 38 + 1) := c18
  have c19 : γ 19 = rUp (γ 18) 77 0 (ρ 9 + 8 * ρ 8) 6 := c19
  obtain ⟨l0, l1, l2, l3, l4, l5, l6, l7, l8, l9, l10, l11, l12, l13, l14, l15, l16, -⟩ := hl
  have l0 : sn7 [ρ 0, ρ 1] (γ 0) 0 0 (γ 1) := hS7 _ _ _ _ _ l0
  have l1 : sn33 [ρ 8, ρ 9] (γ 1) 0 (ρ 9 + 8 * ρ 8) (γ 2) := hS33 _ _ _ _ _ l1
  have l2 : sn6 [ρ 18, ρ 1] (γ 3) 0 (ρ 19) (γ 4) := hS6 _ _ _ _ _ l2
  have l3 : ρ 19 ≠ 33 := l3
  have l4 : sn9 [ρ 19] (γ 4) 0 0 (γ 5) := hS9 _ _ _ _ _ l4
  have l5 : sn20 [0, ρ 18, ρ 1, ρ 2, ρ 3, ρ 20, ρ 16, ρ 13, ρ 14, ρ 15, ρ 8] (γ 5) 0 1 (γ 6) := hS20 _ _ _ _ _ l5
  have l6 : sn7 [ρ 21, ρ 1] (γ 8) 0 0 (γ 9) := hS7 _ _ _ _ _ l6
  have l7 : sn6 [ρ 28, ρ 1] (γ 9) 0 (ρ 29) (γ 10) := hS6 _ _ _ _ _ l7
  have l8 : sn9 [ρ 29] (γ 10) 0 1 (γ 11) := hS9 _ _ _ _ _ l8
  have l9 : sn12 [ρ 28, ρ 1, ρ 26, ρ 13, ρ 27] (γ 11) 0 1 (γ 12) := hS12 _ _ _ _ _ l9
  have l10 : sn13 [105, 115, 0, 0, 0, ρ 28, ρ 31] (γ 12) 0 1 (γ 13) := hS13 _ _ _ _ _ l10
  have l11 : sn18 [ρ 24, ρ 17] (γ 13) 0 0 (γ 14) := hS18 _ _ _ _ _ l11
  have l12 : sn34 [1, ρ 30, ρ 1, ρ 22, ρ 23, ρ 8, ρ 9, ρ 10, ρ 24, ρ 13, ρ 28, ρ 31, ρ 25, ρ 17] (γ 14) 0 1 (γ 15) := hS34 _ _ _ _ _ l12
  have l13 : sn7 [ρ 32, ρ 1] (γ 15) 0 0 (γ 16) := hS7 _ _ _ _ _ l13
  have l14 : sn6 [ρ 38, ρ 1] (γ 16) 0 (ρ 39) (γ 17) := hS6 _ _ _ _ _ l14
  have l15 : ρ 39 ≠ 43 := l15
  have l16 : sn34 [2, ρ 38 + 1, ρ 1, ρ 33, ρ 34, ρ 8, ρ 9, 6, ρ 24, ρ 13, ρ 35, ρ 36, ρ 37, ρ 17] (γ 19) 0 0 (γ 20) := hS34 _ _ _ _ _ l16
  have wl_0 : ρ 19 ≠ 33 := by omega
  show sn42 [ρ 0, ρ 1, ρ 2, ρ 3, ρ 4, ρ 5, ρ 6, ρ 7, ρ 8, ρ 9, ρ 10, ρ 11, ρ 12, ρ 13, ρ 14, ρ 15, ρ 16, ρ 17] (γ 0) 0 0 (γ 20)
  refine Eq.symm ?_
  show fn42 [] (γ 0) = _
  unfold fn42
  refine (zLet_eq m1).trans ?_
  refine (zLet_eq m8).trans ?_
  refine (zLet_eq m9).trans ?_
  refine (zLet_eq m17).trans ?_
  refine (zLet_eq (show fn7 [] (γ 0) = (0, 0, γ 1) from l0.symm)).trans ?_
  refine (zLet_eq (show _ = γ 1 from rfl)).trans ?_
  refine (zLet_eq m18).trans ?_
  refine (zLet_eq (show fn33 [] (γ 1) = (0, ρ 9 + 8 * ρ 8, γ 2) from l1.symm)).trans ?_
  refine (zLet_eq (show _ = γ 2 from rfl)).trans ?_
  refine (zLet_eq c3.symm).trans ?_
  refine (zLet_eq (show fn6 [ρ 18] (γ 3) = (0, ρ 19, γ 4) from l2.symm)).trans ?_
  refine (zLet_eq (show _ = γ 4 from rfl)).trans ?_
  refine (if_pos w_0).trans ?_
  refine (zLet_eq (show _ = ρ 19 from rfl)).trans ?_
  refine (if_pos wl_0).trans ?_
  refine (zLet_eq (show fn9 [ρ 19] (γ 4) = (0, 0, γ 5) from l4.symm)).trans ?_
  refine (zLet_eq (show _ = γ 5 from rfl)).trans ?_
  refine (if_neg zQ0_).trans ?_
  refine (zLet_eq (show fn20 [0] (γ 5) = (0, 1, γ 6) from l5.symm)).trans ?_
  refine (zLet_eq (show _ = γ 6 from rfl)).trans ?_
  refine (if_pos zQ1_).trans ?_
  refine (zLet_eq m23).trans ?_
  refine (zLet_eq m24).trans ?_
  refine (zLet_eq c7.symm).trans ?_
  refine (zLet_eq c8.symm).trans ?_
  refine (zLet_eq (show fn7 [] (γ 8) = (0, 0, γ 9) from l6.symm)).trans ?_
  refine (zLet_eq (show _ = γ 9 from rfl)).trans ?_
  refine (zLet_eq m28).trans ?_
  refine (if_neg w_1).trans ?_
  refine (zLet_eq (show fn6 [ρ 28] (γ 9) = (0, ρ 29, γ 10) from l7.symm)).trans ?_
  refine (zLet_eq (show _ = γ 10 from rfl)).trans ?_
  refine (if_pos w_2).trans ?_
  refine (zLet_eq (show _ = ρ 29 from rfl)).trans ?_
  refine (zLet_eq (show fn9 [ρ 29] (γ 10) = (0, 1, γ 11) from l8.symm)).trans ?_
  refine (zLet_eq (show _ = γ 11 from rfl)).trans ?_
  refine (if_pos zQ1_).trans ?_
  refine (zLet_eq (show fn12 [] (γ 11) = (0, 1, γ 12) from l9.symm)).trans ?_
  refine (zLet_eq (show _ = γ 12 from rfl)).trans ?_
  refine (if_pos zQ1_).trans ?_
  refine (zLet_eq (show fn13 [105, 115, 0, 0, 0] (γ 12) = (0, 1, γ 13) from l10.symm)).trans ?_
  refine (zLet_eq (show _ = γ 13 from rfl)).trans ?_
  refine (if_pos zQ1_).trans ?_
  refine (zLet_eq (show fn18 [ρ 24] (γ 13) = (0, 0, γ 14) from l11.symm)).trans ?_
  refine (zLet_eq (show _ = γ 14 from rfl)).trans ?_
  refine (if_neg zQ0_).trans ?_
  refine (zLet_eq (show fn34 [1] (γ 14) = (0, 1, γ 15) from l12.symm)).trans ?_
  refine (zLet_eq (show _ = γ 15 from rfl)).trans ?_
  refine (if_pos zQ1_).trans ?_
  refine (zLet_eq (show fn7 [] (γ 15) = (0, 0, γ 16) from l13.symm)).trans ?_
  refine (zLet_eq (show _ = γ 16 from rfl)).trans ?_
  refine (zLet_eq m41).trans ?_
  refine (zLet_eq (show fn6 [ρ 38] (γ 16) = (0, ρ 39, γ 17) from l14.symm)).trans ?_
  refine (zLet_eq (show _ = γ 17 from rfl)).trans ?_
  refine (if_pos w_3).trans ?_
  refine (zLet_eq (show _ = ρ 39 from rfl)).trans ?_
  refine (if_neg w_4).trans ?_
  refine (if_pos w_5).trans ?_
  refine (zLet_eq c18.symm).trans ?_
  refine (zLet_eq c19.symm).trans ?_
  refine (zLet_eq (show fn34 [2] (γ 19) = (0, 0, γ 20) from l16.symm)).trans ?_
  refine (zLet_eq (show _ = γ 20 from rfl)).trans ?_
  refine (if_neg zQ0_).trans ?_
  rfl
theorem vn42_11 {S : Nat → zSpc} (hS6 : ∀ x g o v gz, S 6 x g o v gz → sn6 x g o v gz) (hS7 : ∀ x g o v gz, S 7 x g o v gz → sn7 x g o v gz) (hS8 : ∀ x g o v gz, S 8 x g o v gz → sn8 x g o v gz) (hS9 : ∀ x g o v gz, S 9 x g o v gz → sn9 x g o v gz) (hS12 : ∀ x g o v gz, S 12 x g o v gz → sn12 x g o v gz) (hS13 : ∀ x g o v gz, S 13 x g o v gz → sn13 x g o v gz) (hS15 : ∀ x g o v gz, S 15 x g o v gz → sn15 x g o v gz) (hS18 : ∀ x g o v gz, S 18 x g o v gz → sn18 x g o v gz) (hS20 : ∀ x g o v gz, S 20 x g o v gz → sn20 x g o v gz) (hS23 : ∀ x g o v gz, S 23 x g o v gz → sn23 x g o v gz) (hS33 : ∀ x g o v gz, S 33 x g o v gz → sn33 x g o v gz) (hS34 : ∀ x g o v gz, S 34 x g o v gz → sn34 x g o v gz) (hS40 : ∀ x g o v gz, S 40 x g o v gz → sn40 x g o v gz) (hS41 : ∀ x g o v gz, S 41 x g o v gz → sn41 x g o v gz) {a : List Int} {g : rHp} : ∀ (ρ : Nat → Int) (γ : Nat → rHp), zO 18 S a g q42_11 ρ γ → zGl (fun _ _ _ => True) (sn42 a g) q42_11 ρ γ := by
  intro ρ γ h
  obtain ⟨ha, hg, hr, hf, hm, hc, hl⟩ := h
  have ha : a = [ρ 0, ρ 1, ρ 2, ρ 3, ρ 4, ρ 5, ρ 6, ρ 7, ρ 8, ρ 9, ρ 10, ρ 11, ρ 12, ρ 13, ρ 14, ρ 15, ρ 16, ρ 17] := ha
  subst ha
  subst hg
  obtain ⟨-, -, -, -, -, -, -, -, -, -, -, -, -, -, -, -, -, -, -, r19, -, -, -, -, -, r25, -, -, -, -, -, -, -, -, -, -, -, -, -, r39, -⟩ := hr
  have r19 : ((-128) : Int) ≤ ρ 19 ∧ ρ 19 ≤ 127 := r19
  have r25 : (1 : Int) ≤ ρ 25 ∧ ρ 25 ≤ 1 := r25
  have r39 : (45 : Int) ≤ ρ 39 ∧ ρ 39 ≤ 45 := r39
  obtain ⟨-, -, f2, -, -, -, -, -, -, -, -, -, -, -, -, -, -, -, -, -, -, -, f22, -, -, -, -, -, -, -, -, -, -, -, -, f35, -⟩ := hf
  have f2 : (0 : Int) ≤ -ρ 38 + ρ 1 + (-1) := f2
  have f22 : (0 : Int) ≤ -ρ 28 + ρ 1 + (-1) := f22
  have f35 : (0 : Int) ≤ -ρ 18 + ρ 1 + (-1) := f35
  obtain ⟨w_0, w_1, w_2, w_3, w_4, w_5⟩ : (0 ≤ -ρ 18 + ρ 1 + (-1)) ∧ (¬ (ρ 25 ≠ 1)) ∧ (0 ≤ -ρ 28 + ρ 1 + (-1)) ∧ (0 ≤ -ρ 38 + ρ 1 + (-1)) ∧ (¬ (ρ 39 = 43)) ∧ (ρ 39 = 45) := ⟨by omega, by omega, by omega, by omega, by omega, by omega⟩
  obtain ⟨-, m1, -, -, -, -, -, -, m8, m9, -, -, -, -, -, -, -, m17, m18, -, -, -, -, m23, m24, -, -, -, m28, -, -, -, -, -, -, -, -, -, -, -, -, m41, -⟩ := hm
  have m1 : γ 0 15 0 34 = ρ 1 := m1
  have m8 : γ 0 15 0 44 = ρ 8 := m8
  have m9 : γ 0 73 0 (ρ 8) = ρ 9 := m9
  have m17 : γ 0 15 0 45 = ρ 17 := m17
  have m18 : γ 1 15 0 35 = ρ 18 := m18
  have m23 : γ 6 15 0 39 = ρ 24 := m23
  have m24 : γ 6 15 0 40 = ρ 25 := m24
  have m28 : γ 9 15 0 35 = ρ 28 := m28
  have m41 : γ 16 15 0 35 = ρ 38 := m41
  obtain ⟨⟨⟨⟨⟨⟨⟨⟨⟨⟨⟨⟨⟨⟨⟨⟨⟨⟨⟨-, c3⟩, -⟩, -⟩, -⟩, c7⟩, c8⟩, -⟩, -⟩, -⟩, -⟩, -⟩, -⟩, -⟩, -⟩, -⟩, c18⟩, c19⟩, -⟩, c21⟩ := hc
  have c3 : γ 3 = rUp (γ 2) 79 0 (ρ 9 + 8 * ρ 8) (ρ 17) := c3
  have c7 : γ 7 = rUp (γ 6) 80 0 (4 * ρ 9 + 32 * ρ 8) (ρ 25) := c7
  have c8 : γ 8 = rUp (γ 7) 81 0 (4 * ρ 9 + 32 * ρ 8) (ρ 24) := c8
  have c18 : γ 18 = rUp (γ 17) 15 0 35 (ρ 38 + 1) := c18
  have c19 : γ 19 = rUp (γ 18) 77 0 (ρ 9 + 8 * ρ 8) 6 := c19
  have c21 : γ 21 = rUp (γ 20) 15 0 45 (ρ 47) := c21
  obtain ⟨l0, l1, l2, l3, l4, l5, l6, l7, l8, l9, l10, l11, l12, l13, l14, l15, l16, l17, l18, -⟩ := hl
  have l0 : sn7 [ρ 0, ρ 1] (γ 0) 0 0 (γ 1) := hS7 _ _ _ _ _ l0
  have l1 : sn33 [ρ 8, ρ 9] (γ 1) 0 (ρ 9 + 8 * ρ 8) (γ 2) := hS33 _ _ _ _ _ l1
  have l2 : sn6 [ρ 18, ρ 1] (γ 3) 0 (ρ 19) (γ 4) := hS6 _ _ _ _ _ l2
  have l3 : ρ 19 ≠ 33 := l3
  have l4 : sn9 [ρ 19] (γ 4) 0 0 (γ 5) := hS9 _ _ _ _ _ l4
  have l5 : sn20 [0, ρ 18, ρ 1, ρ 2, ρ 3, ρ 20, ρ 16, ρ 13, ρ 14, ρ 15, ρ 8] (γ 5) 0 1 (γ 6) := hS20 _ _ _ _ _ l5
  have l6 : sn7 [ρ 21, ρ 1] (γ 8) 0 0 (γ 9) := hS7 _ _ _ _ _ l6
  have l7 : sn6 [ρ 28, ρ 1] (γ 9) 0 (ρ 29) (γ 10) := hS6 _ _ _ _ _ l7
  have l8 : sn9 [ρ 29] (γ 10) 0 1 (γ 11) := hS9 _ _ _ _ _ l8
  have l9 : sn12 [ρ 28, ρ 1, ρ 26, ρ 13, ρ 27] (γ 11) 0 1 (γ 12) := hS12 _ _ _ _ _ l9
  have l10 : sn13 [105, 115, 0, 0, 0, ρ 28, ρ 31] (γ 12) 0 1 (γ 13) := hS13 _ _ _ _ _ l10
  have l11 : sn18 [ρ 24, ρ 17] (γ 13) 0 0 (γ 14) := hS18 _ _ _ _ _ l11
  have l12 : sn34 [1, ρ 30, ρ 1, ρ 22, ρ 23, ρ 8, ρ 9, ρ 10, ρ 24, ρ 13, ρ 28, ρ 31, ρ 25, ρ 17] (γ 14) 0 1 (γ 15) := hS34 _ _ _ _ _ l12
  have l13 : sn7 [ρ 32, ρ 1] (γ 15) 0 0 (γ 16) := hS7 _ _ _ _ _ l13
  have l14 : sn6 [ρ 38, ρ 1] (γ 16) 0 (ρ 39) (γ 17) := hS6 _ _ _ _ _ l14
  have l15 : ρ 39 ≠ 43 := l15
  have l16 : sn34 [2, ρ 38 + 1, ρ 1, ρ 33, ρ 34, ρ 8, ρ 9, 6, ρ 24, ρ 13, ρ 35, ρ 36, ρ 37, ρ 17] (γ 19) 0 1 (γ 20) := hS34 _ _ _ _ _ l16
  have l17 : zOpP (.ishl) (γ 0) (γ 1) [1, ρ 24] (ρ 46) := l17
  have l18 : zOpP (.ior) (γ 0) (γ 1) [ρ 17, ρ 46] (ρ 47) := l18
  have wl_0 : ρ 19 ≠ 33 := by omega
  show sn42 [ρ 0, ρ 1, ρ 2, ρ 3, ρ 4, ρ 5, ρ 6, ρ 7, ρ 8, ρ 9, ρ 10, ρ 11, ρ 12, ρ 13, ρ 14, ρ 15, ρ 16, ρ 17] (γ 0) 0 1 (γ 21)
  refine Eq.symm ?_
  show fn42 [] (γ 0) = _
  unfold fn42
  refine (zLet_eq m1).trans ?_
  refine (zLet_eq m8).trans ?_
  refine (zLet_eq m9).trans ?_
  refine (zLet_eq m17).trans ?_
  refine (zLet_eq (show fn7 [] (γ 0) = (0, 0, γ 1) from l0.symm)).trans ?_
  refine (zLet_eq (show _ = γ 1 from rfl)).trans ?_
  refine (zLet_eq m18).trans ?_
  refine (zLet_eq (show fn33 [] (γ 1) = (0, ρ 9 + 8 * ρ 8, γ 2) from l1.symm)).trans ?_
  refine (zLet_eq (show _ = γ 2 from rfl)).trans ?_
  refine (zLet_eq c3.symm).trans ?_
  refine (zLet_eq (show fn6 [ρ 18] (γ 3) = (0, ρ 19, γ 4) from l2.symm)).trans ?_
  refine (zLet_eq (show _ = γ 4 from rfl)).trans ?_
  refine (if_pos w_0).trans ?_
  refine (zLet_eq (show _ = ρ 19 from rfl)).trans ?_
  refine (if_pos wl_0).trans ?_
  refine (zLet_eq (show fn9 [ρ 19] (γ 4) = (0, 0, γ 5) from l4.symm)).trans ?_
  refine (zLet_eq (show _ = γ 5 from rfl)).trans ?_
  refine (if_neg zQ0_).trans ?_
  refine (zLet_eq (show fn20 [0] (γ 5) = (0, 1, γ 6) from l5.symm)).trans ?_
  refine (zLet_eq (show _ = γ 6 from rfl)).trans ?_
  refine (if_pos zQ1_).trans ?_
  refine (zLet_eq m23).trans ?_
  refine (zLet_eq m24).trans ?_
  refine (zLet_eq c7.symm).trans ?_
  refine (zLet_eq c8.symm).trans ?_
  refine (zLet_eq (show fn7 [] (γ 8) = (0, 0, γ 9) from l6.symm)).trans ?_
  refine (zLet_eq (show _ = γ 9 from rfl)).trans ?_
  refine (zLet_eq m28).trans ?_
  refine (if_neg w_1).trans ?_
  refine (zLet_eq (show fn6 [ρ 28] (γ 9) = (0, ρ 29, γ 10) from l7.symm)).trans ?_
  refine (zLet_eq (show _ = γ 10 from rfl)).trans ?_
  refine (if_pos w_2).trans ?_
  refine (zLet_eq (show _ = ρ 29 from rfl)).trans ?_
  refine (zLet_eq (show fn9 [ρ 29] (γ 10) = (0, 1, γ 11) from l8.symm)).trans ?_
  refine (zLet_eq (show _ = γ 11 from rfl)).trans ?_
  refine (if_pos zQ1_).trans ?_
  refine (zLet_eq (show fn12 [] (γ 11) = (0, 1, γ 12) from l9.symm)).trans ?_
  refine (zLet_eq (show _ = γ 12 from rfl)).trans ?_
  refine (if_pos zQ1_).trans ?_
  refine (zLet_eq (show fn13 [105, 115, 0, 0, 0] (γ 12) = (0, 1, γ 13) from l10.symm)).trans ?_
  refine (zLet_eq (show _ = γ 13 from rfl)).trans ?_
  refine (if_pos zQ1_).trans ?_
  refine (zLet_eq (show fn18 [ρ 24] (γ 13) = (0, 0, γ 14) from l11.symm)).trans ?_
  refine (zLet_eq (show _ = γ 14 from rfl)).trans ?_
  refine (if_neg zQ0_).trans ?_
  refine (zLet_eq (show fn34 [1] (γ 14) = (0, 1, γ 15) from l12.symm)).trans ?_
  refine (zLet_eq (show _ = γ 15 from rfl)).trans ?_
  refine (if_pos zQ1_).trans ?_
  refine (zLet_eq (show fn7 [] (γ 15) = (0, 0, γ 16) from l13.symm)).trans ?_
  refine (zLet_eq (show _ = γ 16 from rfl)).trans ?_
  refine (zLet_eq m41).trans ?_
  refine (zLet_eq (show fn6 [ρ 38] (γ 16) = (0, ρ 39, γ 17) from l14.symm)).trans ?_
  refine (zLet_eq (show _ = γ 17 from rfl)).trans ?_
  refine (if_pos w_3).trans ?_
  refine (zLet_eq (show _ = ρ 39 from rfl)).trans ?_
  refine (if_neg w_4).trans ?_
  refine (if_pos w_5).trans ?_
  refine (zLet_eq c18.symm).trans ?_
  refine (zLet_eq c19.symm).trans ?_
  refine (zLet_eq (show fn34 [2] (γ 19) = (0, 1, γ 20) from l16.symm)).trans ?_
  refine (zLet_eq (show _ = γ 20 from rfl)).trans ?_
  refine (if_pos zQ1_).trans ?_
  refine (zLet_eq (zF2_ok l17)).trans ?_
  refine (zLet_eq (zF2_ok l18)).trans ?_
  refine (zLet_eq c21.symm).trans ?_
  rfl
theorem vn42_12 {S : Nat → zSpc} (hS6 : ∀ x g o v gz, S 6 x g o v gz → sn6 x g o v gz) (hS7 : ∀ x g o v gz, S 7 x g o v gz → sn7 x g o v gz) (hS8 : ∀ x g o v gz, S 8 x g o v gz → sn8 x g o v gz) (hS9 : ∀ x g o v gz, S 9 x g o v gz → sn9 x g o v gz) (hS12 : ∀ x g o v gz, S 12 x g o v gz → sn12 x g o v gz) (hS13 : ∀ x g o v gz, S 13 x g o v gz → sn13 x g o v gz) (hS15 : ∀ x g o v gz, S 15 x g o v gz → sn15 x g o v gz) (hS18 : ∀ x g o v gz, S 18 x g o v gz → sn18 x g o v gz) (hS20 : ∀ x g o v gz, S 20 x g o v gz → sn20 x g o v gz) (hS23 : ∀ x g o v gz, S 23 x g o v gz → sn23 x g o v gz) (hS33 : ∀ x g o v gz, S 33 x g o v gz → sn33 x g o v gz) (hS34 : ∀ x g o v gz, S 34 x g o v gz → sn34 x g o v gz) (hS40 : ∀ x g o v gz, S 40 x g o v gz → sn40 x g o v gz) (hS41 : ∀ x g o v gz, S 41 x g o v gz → sn41 x g o v gz) {a : List Int} {g : rHp} : ∀ (ρ : Nat → Int) (γ : Nat → rHp), zO 18 S a g q42_12 ρ γ → zGl (fun _ _ _ => True) (sn42 a g) q42_12 ρ γ := by
  intro ρ γ h
  obtain ⟨ha, hg, hr, hf, hm, hc, hl⟩ := h
  have ha : a = [ρ 0, ρ 1, ρ 2, ρ 3, ρ 4, ρ 5, ρ 6, ρ 7, ρ 8, ρ 9, ρ 10, ρ 11, ρ 12, ρ 13, ρ 14, ρ 15, ρ 16, ρ 17] := ha
  subst ha
  subst hg
  obtain ⟨-, -, -, -, -, -, -, -, -, -, -, -, -, -, -, -, -, -, -, r19, -, -, -, -, -, r25, -, -, -, -, -, -, -, -, -, -, -, -, -, r39, -⟩ := hr
  have r19 : ((-128) : Int) ≤ ρ 19 ∧ ρ 19 ≤ 127 := r19
  have r25 : (1 : Int) ≤ ρ 25 ∧ ρ 25 ≤ 1 := r25
  have r39 : (42 : Int) ≤ ρ 39 ∧ ρ 39 ≤ 42 := r39
  obtain ⟨-, -, f2, -, -, -, -, -, -, -, -, -, -, -, -, -, -, -, -, -, -, -, f22, -, -, -, -, -, -, -, -, -, -, -, -, f35, -⟩ := hf
  have f2 : (0 : Int) ≤ -ρ 38 + ρ 1 + (-1) := f2
  have f22 : (0 : Int) ≤ -ρ 28 + ρ 1 + (-1) := f22
  have f35 : (0 : Int) ≤ -ρ 18 + ρ 1 + (-1) := f35
  obtain ⟨w_0, w_1, w_2, w_3, w_4, w_5, w_6⟩ : (0 ≤ -ρ 18 + ρ 1 + (-1)) ∧ (¬ (ρ 25 ≠ 1)) ∧ (0 ≤ -ρ 28 + ρ 1 + (-1)) ∧ (0 ≤ -ρ 38 + ρ 1 + (-1)) ∧ (¬ (ρ 39 = 43)) ∧ (¬ (ρ 39 = 45)) ∧ (ρ 39 = 42) := ⟨by omega, by omega, by omega, by omega, by omega, by omega, by omega⟩
  obtain ⟨-, m1, -, -, -, -, -, -, m8, m9, -, -, -, -, -, -, -, m17, m18, -, -, -, -, m23, m24, -, -, -, m28, -, -, -, -, -, -, -, -, -, -, -, -, m41, -⟩ := hm
  have m1 : γ 0 15 0 34 = ρ 1 := m1
  have m8 : γ 0 15 0 44 = ρ 8 := m8
  have m9 : γ 0 73 0 (ρ 8) = ρ 9 := m9
  have m17 : γ 0 15 0 45 = ρ 17 := m17
  have m18 : γ 1 15 0 35 = ρ 18 := m18
  have m23 : γ 6 15 0 39 = ρ 24 := m23
  have m24 : γ 6 15 0 40 = ρ 25 := m24
  have m28 : γ 9 15 0 35 = ρ 28 := m28
  have m41 : γ 16 15 0 35 = ρ 38 := m41
  obtain ⟨⟨⟨⟨⟨⟨⟨⟨⟨⟨⟨⟨⟨⟨⟨⟨⟨⟨-, c3⟩, -⟩, -⟩, -⟩, c7⟩, c8⟩, -⟩, -⟩, -⟩, -⟩, -⟩, -⟩, -⟩, -⟩, -⟩, c18⟩, c19⟩, -⟩ := hc
  have c3 : γ 3 = rUp (γ 2) 79 0 (ρ 9 + 8 * ρ 8) (ρ 17) := c3
  have c7 : γ 7 = rUp (γ 6) 80 0 (4 * ρ 9 + 32 * ρ 8) (ρ 25) := c7
  have c8 : γ 8 = rUp (γ 7) 81 0 (4 * ρ 9 + 32 * ρ 8) (ρ 24) := c8
  have c18 : γ 18 = rUp (γ 17) 15 0 35 (ρ 38 + 1) := c18
  have c19 : γ 19 = rUp (γ 18) 77 0 (ρ 9 + 8 * ρ 8) 7 := c19
  obtain ⟨l0, l1, l2, l3, l4, l5, l6, l7, l8, l9, l10, l11, l12, l13, l14, l15, l16, l17, -⟩ := hl
  have l0 : sn7 [ρ 0, ρ 1] (γ 0) 0 0 (γ 1) := hS7 _ _ _ _ _ l0
  have l1 : sn33 [ρ 8, ρ 9] (γ 1) 0 (ρ 9 + 8 * ρ 8) (γ 2) := hS33 _ _ _ _ _ l1
  have l2 : sn6 [ρ 18, ρ 1] (γ 3) 0 (ρ 19) (γ 4) := hS6 _ _ _ _ _ l2
  have l3 : ρ 19 ≠ 33 := l3
  have l4 : sn9 [ρ 19] (γ 4) 0 0 (γ 5) := hS9 _ _ _ _ _ l4
  have l5 : sn20 [0, ρ 18, ρ 1, ρ 2, ρ 3, ρ 20, ρ 16, ρ 13, ρ 14, ρ 15, ρ 8] (γ 5) 0 1 (γ 6) := hS20 _ _ _ _ _ l5
  have l6 : sn7 [ρ 21, ρ 1] (γ 8) 0 0 (γ 9) := hS7 _ _ _ _ _ l6
  have l7 : sn6 [ρ 28, ρ 1] (γ 9) 0 (ρ 29) (γ 10) := hS6 _ _ _ _ _ l7
  have l8 : sn9 [ρ 29] (γ 10) 0 1 (γ 11) := hS9 _ _ _ _ _ l8
  have l9 : sn12 [ρ 28, ρ 1, ρ 26, ρ 13, ρ 27] (γ 11) 0 1 (γ 12) := hS12 _ _ _ _ _ l9
  have l10 : sn13 [105, 115, 0, 0, 0, ρ 28, ρ 31] (γ 12) 0 1 (γ 13) := hS13 _ _ _ _ _ l10
  have l11 : sn18 [ρ 24, ρ 17] (γ 13) 0 0 (γ 14) := hS18 _ _ _ _ _ l11
  have l12 : sn34 [1, ρ 30, ρ 1, ρ 22, ρ 23, ρ 8, ρ 9, ρ 10, ρ 24, ρ 13, ρ 28, ρ 31, ρ 25, ρ 17] (γ 14) 0 1 (γ 15) := hS34 _ _ _ _ _ l12
  have l13 : sn7 [ρ 32, ρ 1] (γ 15) 0 0 (γ 16) := hS7 _ _ _ _ _ l13
  have l14 : sn6 [ρ 38, ρ 1] (γ 16) 0 (ρ 39) (γ 17) := hS6 _ _ _ _ _ l14
  have l15 : ρ 39 ≠ 43 := l15
  have l16 : ρ 39 ≠ 45 := l16
  have l17 : sn34 [2, ρ 38 + 1, ρ 1, ρ 33, ρ 34, ρ 8, ρ 9, 7, ρ 24, ρ 13, ρ 35, ρ 36, ρ 37, ρ 17] (γ 19) 0 0 (γ 20) := hS34 _ _ _ _ _ l17
  have wl_0 : ρ 19 ≠ 33 := by omega
  show sn42 [ρ 0, ρ 1, ρ 2, ρ 3, ρ 4, ρ 5, ρ 6, ρ 7, ρ 8, ρ 9, ρ 10, ρ 11, ρ 12, ρ 13, ρ 14, ρ 15, ρ 16, ρ 17] (γ 0) 0 0 (γ 20)
  refine Eq.symm ?_
  show fn42 [] (γ 0) = _
  unfold fn42
  refine (zLet_eq m1).trans ?_
  refine (zLet_eq m8).trans ?_
  refine (zLet_eq m9).trans ?_
  refine (zLet_eq m17).trans ?_
  refine (zLet_eq (show fn7 [] (γ 0) = (0, 0, γ 1) from l0.symm)).trans ?_
  refine (zLet_eq (show _ = γ 1 from rfl)).trans ?_
  refine (zLet_eq m18).trans ?_
  refine (zLet_eq (show fn33 [] (γ 1) = (0, ρ 9 + 8 * ρ 8, γ 2) from l1.symm)).trans ?_
  refine (zLet_eq (show _ = γ 2 from rfl)).trans ?_
  refine (zLet_eq c3.symm).trans ?_
  refine (zLet_eq (show fn6 [ρ 18] (γ 3) = (0, ρ 19, γ 4) from l2.symm)).trans ?_
  refine (zLet_eq (show _ = γ 4 from rfl)).trans ?_
  refine (if_pos w_0).trans ?_
  refine (zLet_eq (show _ = ρ 19 from rfl)).trans ?_
  refine (if_pos wl_0).trans ?_
  refine (zLet_eq (show fn9 [ρ 19] (γ 4) = (0, 0, γ 5) from l4.symm)).trans ?_
  refine (zLet_eq (show _ = γ 5 from rfl)).trans ?_
  refine (if_neg zQ0_).trans ?_
  refine (zLet_eq (show fn20 [0] (γ 5) = (0, 1, γ 6) from l5.symm)).trans ?_
  refine (zLet_eq (show _ = γ 6 from rfl)).trans ?_
  refine (if_pos zQ1_).trans ?_
  refine (zLet_eq m23).trans ?_
  refine (zLet_eq m24).trans ?_
  refine (zLet_eq c7.symm).trans ?_
  refine (zLet_eq c8.symm).trans ?_
  refine (zLet_eq (show fn7 [] (γ 8) = (0, 0, γ 9) from l6.symm)).trans ?_
  refine (zLet_eq (show _ = γ 9 from rfl)).trans ?_
  refine (zLet_eq m28).trans ?_
  refine (if_neg w_1).trans ?_
  refine (zLet_eq (show fn6 [ρ 28] (γ 9) = (0, ρ 29, γ 10) from l7.symm)).trans ?_
  refine (zLet_eq (show _ = γ 10 from rfl)).trans ?_
  refine (if_pos w_2).trans ?_
  refine (zLet_eq (show _ = ρ 29 from rfl)).trans ?_
  refine (zLet_eq (show fn9 [ρ 29] (γ 10) = (0, 1, γ 11) from l8.symm)).trans ?_
  refine (zLet_eq (show _ = γ 11 from rfl)).trans ?_
  refine (if_pos zQ1_).trans ?_
  refine (zLet_eq (show fn12 [] (γ 11) = (0, 1, γ 12) from l9.symm)).trans ?_
  refine (zLet_eq (show _ = γ 12 from rfl)).trans ?_
  refine (if_pos zQ1_).trans ?_
  refine (zLet_eq (show fn13 [105, 115, 0, 0, 0] (γ 12) = (0, 1, γ 13) from l10.symm)).trans ?_
  refine (zLet_eq (show _ = γ 13 from rfl)).trans ?_
  refine (if_pos zQ1_).trans ?_
  refine (zLet_eq (show fn18 [ρ 24] (γ 13) = (0, 0, γ 14) from l11.symm)).trans ?_
  refine (zLet_eq (show _ = γ 14 from rfl)).trans ?_
  refine (if_neg zQ0_).trans ?_
  refine (zLet_eq (show fn34 [1] (γ 14) = (0, 1, γ 15) from l12.symm)).trans ?_
  refine (zLet_eq (show _ = γ 15 from rfl)).trans ?_
  refine (if_pos zQ1_).trans ?_
  refine (zLet_eq (show fn7 [] (γ 15) = (0, 0, γ 16) from l13.symm)).trans ?_
  refine (zLet_eq (show _ = γ 16 from rfl)).trans ?_
  refine (zLet_eq m41).trans ?_
  refine (zLet_eq (show fn6 [ρ 38] (γ 16) = (0, ρ 39, γ 17) from l14.symm)).trans ?_
  refine (zLet_eq (show _ = γ 17 from rfl)).trans ?_
  refine (if_pos w_3).trans ?_
  refine (zLet_eq (show _ = ρ 39 from rfl)).trans ?_
  refine (if_neg w_4).trans ?_
  refine (if_neg w_5).trans ?_
  refine (if_pos w_6).trans ?_
  refine (zLet_eq c18.symm).trans ?_
  refine (zLet_eq c19.symm).trans ?_
  refine (zLet_eq (show fn34 [2] (γ 19) = (0, 0, γ 20) from l17.symm)).trans ?_
  refine (zLet_eq (show _ = γ 20 from rfl)).trans ?_
  refine (if_neg zQ0_).trans ?_
  rfl
theorem vn42_13 {S : Nat → zSpc} (hS6 : ∀ x g o v gz, S 6 x g o v gz → sn6 x g o v gz) (hS7 : ∀ x g o v gz, S 7 x g o v gz → sn7 x g o v gz) (hS8 : ∀ x g o v gz, S 8 x g o v gz → sn8 x g o v gz) (hS9 : ∀ x g o v gz, S 9 x g o v gz → sn9 x g o v gz) (hS12 : ∀ x g o v gz, S 12 x g o v gz → sn12 x g o v gz) (hS13 : ∀ x g o v gz, S 13 x g o v gz → sn13 x g o v gz) (hS15 : ∀ x g o v gz, S 15 x g o v gz → sn15 x g o v gz) (hS18 : ∀ x g o v gz, S 18 x g o v gz → sn18 x g o v gz) (hS20 : ∀ x g o v gz, S 20 x g o v gz → sn20 x g o v gz) (hS23 : ∀ x g o v gz, S 23 x g o v gz → sn23 x g o v gz) (hS33 : ∀ x g o v gz, S 33 x g o v gz → sn33 x g o v gz) (hS34 : ∀ x g o v gz, S 34 x g o v gz → sn34 x g o v gz) (hS40 : ∀ x g o v gz, S 40 x g o v gz → sn40 x g o v gz) (hS41 : ∀ x g o v gz, S 41 x g o v gz → sn41 x g o v gz) {a : List Int} {g : rHp} : ∀ (ρ : Nat → Int) (γ : Nat → rHp), zO 18 S a g q42_13 ρ γ → zGl (fun _ _ _ => True) (sn42 a g) q42_13 ρ γ := by
  intro ρ γ h
  obtain ⟨ha, hg, hr, hf, hm, hc, hl⟩ := h
  have ha : a = [ρ 0, ρ 1, ρ 2, ρ 3, ρ 4, ρ 5, ρ 6, ρ 7, ρ 8, ρ 9, ρ 10, ρ 11, ρ 12, ρ 13, ρ 14, ρ 15, ρ 16, ρ 17] := ha
  subst ha
  subst hg
  obtain ⟨-, -, -, -, -, -, -, -, -, -, -, -, -, -, -, -, -, -, -, r19, -, -, -, -, -, r25, -, -, -, -, -, -, -, -, -, -, -, -, -, r39, -⟩ := hr
  have r19 : ((-128) : Int) ≤ ρ 19 ∧ ρ 19 ≤ 127 := r19
  have r25 : (1 : Int) ≤ ρ 25 ∧ ρ 25 ≤ 1 := r25
  have r39 : (42 : Int) ≤ ρ 39 ∧ ρ 39 ≤ 42 := r39
  obtain ⟨-, -, f2, -, -, -, -, -, -, -, -, -, -, -, -, -, -, -, -, -, -, -, f22, -, -, -, -, -, -, -, -, -, -, -, -, f35, -⟩ := hf
  have f2 : (0 : Int) ≤ -ρ 38 + ρ 1 + (-1) := f2
  have f22 : (0 : Int) ≤ -ρ 28 + ρ 1 + (-1) := f22
  have f35 : (0 : Int) ≤ -ρ 18 + ρ 1 + (-1) := f35
  obtain ⟨w_0, w_1, w_2, w_3, w_4, w_5, w_6⟩ : (0 ≤ -ρ 18 + ρ 1 + (-1)) ∧ (¬ (ρ 25 ≠ 1)) ∧ (0 ≤ -ρ 28 + ρ 1 + (-1)) ∧ (0 ≤ -ρ 38 + ρ 1 + (-1)) ∧ (¬ (ρ 39 = 43)) ∧ (¬ (ρ 39 = 45)) ∧ (ρ 39 = 42) := ⟨by omega, by omega, by omega, by omega, by omega, by omega, by omega⟩
  obtain ⟨-, m1, -, -, -, -, -, -, m8, m9, -, -, -, -, -, -, -, m17, m18, -, -, -, -, m23, m24, -, -, -, m28, -, -, -, -, -, -, -, -, -, -, -, -, m41, -⟩ := hm
  have m1 : γ 0 15 0 34 = ρ 1 := m1
  have m8 : γ 0 15 0 44 = ρ 8 := m8
  have m9 : γ 0 73 0 (ρ 8) = ρ 9 := m9
  have m17 : γ 0 15 0 45 = ρ 17 := m17
  have m18 : γ 1 15 0 35 = ρ 18 := m18
  have m23 : γ 6 15 0 39 = ρ 24 := m23
  have m24 : γ 6 15 0 40 = ρ 25 := m24
  have m28 : γ 9 15 0 35 = ρ 28 := m28
  have m41 : γ 16 15 0 35 = ρ 38 := m41
  obtain ⟨⟨⟨⟨⟨⟨⟨⟨⟨⟨⟨⟨⟨⟨⟨⟨⟨⟨⟨-, c3⟩, -⟩, -⟩, -⟩, c7⟩, c8⟩, -⟩, -⟩, -⟩, -⟩, -⟩, -⟩, -⟩, -⟩, -⟩, c18⟩, c19⟩, -⟩, c21⟩ := hc
  have c3 : γ 3 = rUp (γ 2) 79 0 (ρ 9 + 8 * ρ 8) (ρ 17) := c3
  have c7 : γ 7 = rUp (γ 6) 80 0 (4 * ρ 9 + 32 * ρ 8) (ρ 25) := c7
  have c8 : γ 8 = rUp (γ 7) 81 0 (4 * ρ 9 + 32 * ρ 8) (ρ 24) := c8
  have c18 : γ 18 = rUp (γ 17) 15 0 35 (ρ 38 + 1) := c18
  have c19 : γ 19 = rUp (γ 18) 77 0 (ρ 9 + 8 * ρ 8) 7 := c19
  have c21 : γ 21 = rUp (γ 20) 15 0 45 (ρ 47) := c21
  obtain ⟨l0, l1, l2, l3, l4, l5, l6, l7, l8, l9, l10, l11, l12, l13, l14, l15, l16, l17, l18, l19, -⟩ := hl
  have l0 : sn7 [ρ 0, ρ 1] (γ 0) 0 0 (γ 1) := hS7 _ _ _ _ _ l0
  have l1 : sn33 [ρ 8, ρ 9] (γ 1) 0 (ρ 9 + 8 * ρ 8) (γ 2) := hS33 _ _ _ _ _ l1
  have l2 : sn6 [ρ 18, ρ 1] (γ 3) 0 (ρ 19) (γ 4) := hS6 _ _ _ _ _ l2
  have l3 : ρ 19 ≠ 33 := l3
  have l4 : sn9 [ρ 19] (γ 4) 0 0 (γ 5) := hS9 _ _ _ _ _ l4
  have l5 : sn20 [0, ρ 18, ρ 1, ρ 2, ρ 3, ρ 20, ρ 16, ρ 13, ρ 14, ρ 15, ρ 8] (γ 5) 0 1 (γ 6) := hS20 _ _ _ _ _ l5
  have l6 : sn7 [ρ 21, ρ 1] (γ 8) 0 0 (γ 9) := hS7 _ _ _ _ _ l6
  have l7 : sn6 [ρ 28, ρ 1] (γ 9) 0 (ρ 29) (γ 10) := hS6 _ _ _ _ _ l7
  have l8 : sn9 [ρ 29] (γ 10) 0 1 (γ 11) := hS9 _ _ _ _ _ l8
  have l9 : sn12 [ρ 28, ρ 1, ρ 26, ρ 13, ρ 27] (γ 11) 0 1 (γ 12) := hS12 _ _ _ _ _ l9
  have l10 : sn13 [105, 115, 0, 0, 0, ρ 28, ρ 31] (γ 12) 0 1 (γ 13) := hS13 _ _ _ _ _ l10
  have l11 : sn18 [ρ 24, ρ 17] (γ 13) 0 0 (γ 14) := hS18 _ _ _ _ _ l11
  have l12 : sn34 [1, ρ 30, ρ 1, ρ 22, ρ 23, ρ 8, ρ 9, ρ 10, ρ 24, ρ 13, ρ 28, ρ 31, ρ 25, ρ 17] (γ 14) 0 1 (γ 15) := hS34 _ _ _ _ _ l12
  have l13 : sn7 [ρ 32, ρ 1] (γ 15) 0 0 (γ 16) := hS7 _ _ _ _ _ l13
  have l14 : sn6 [ρ 38, ρ 1] (γ 16) 0 (ρ 39) (γ 17) := hS6 _ _ _ _ _ l14
  have l15 : ρ 39 ≠ 43 := l15
  have l16 : ρ 39 ≠ 45 := l16
  have l17 : sn34 [2, ρ 38 + 1, ρ 1, ρ 33, ρ 34, ρ 8, ρ 9, 7, ρ 24, ρ 13, ρ 35, ρ 36, ρ 37, ρ 17] (γ 19) 0 1 (γ 20) := hS34 _ _ _ _ _ l17
  have l18 : zOpP (.ishl) (γ 0) (γ 1) [1, ρ 24] (ρ 46) := l18
  have l19 : zOpP (.ior) (γ 0) (γ 1) [ρ 17, ρ 46] (ρ 47) := l19
  have wl_0 : ρ 19 ≠ 33 := by omega
  show sn42 [ρ 0, ρ 1, ρ 2, ρ 3, ρ 4, ρ 5, ρ 6, ρ 7, ρ 8, ρ 9, ρ 10, ρ 11, ρ 12, ρ 13, ρ 14, ρ 15, ρ 16, ρ 17] (γ 0) 0 1 (γ 21)
  refine Eq.symm ?_
  show fn42 [] (γ 0) = _
  unfold fn42
  refine (zLet_eq m1).trans ?_
  refine (zLet_eq m8).trans ?_
  refine (zLet_eq m9).trans ?_
  refine (zLet_eq m17).trans ?_
  refine (zLet_eq (show fn7 [] (γ 0) = (0, 0, γ 1) from l0.symm)).trans ?_
  refine (zLet_eq (show _ = γ 1 from rfl)).trans ?_
  refine (zLet_eq m18).trans ?_
  refine (zLet_eq (show fn33 [] (γ 1) = (0, ρ 9 + 8 * ρ 8, γ 2) from l1.symm)).trans ?_
  refine (zLet_eq (show _ = γ 2 from rfl)).trans ?_
  refine (zLet_eq c3.symm).trans ?_
  refine (zLet_eq (show fn6 [ρ 18] (γ 3) = (0, ρ 19, γ 4) from l2.symm)).trans ?_
  refine (zLet_eq (show _ = γ 4 from rfl)).trans ?_
  refine (if_pos w_0).trans ?_
  refine (zLet_eq (show _ = ρ 19 from rfl)).trans ?_
  refine (if_pos wl_0).trans ?_
  refine (zLet_eq (show fn9 [ρ 19] (γ 4) = (0, 0, γ 5) from l4.symm)).trans ?_
  refine (zLet_eq (show _ = γ 5 from rfl)).trans ?_
  refine (if_neg zQ0_).trans ?_
  refine (zLet_eq (show fn20 [0] (γ 5) = (0, 1, γ 6) from l5.symm)).trans ?_
  refine (zLet_eq (show _ = γ 6 from rfl)).trans ?_
  refine (if_pos zQ1_).trans ?_
  refine (zLet_eq m23).trans ?_
  refine (zLet_eq m24).trans ?_
  refine (zLet_eq c7.symm).trans ?_
  refine (zLet_eq c8.symm).trans ?_
  refine (zLet_eq (show fn7 [] (γ 8) = (0, 0, γ 9) from l6.symm)).trans ?_
  refine (zLet_eq (show _ = γ 9 from rfl)).trans ?_
  refine (zLet_eq m28).trans ?_
  refine (if_neg w_1).trans ?_
  refine (zLet_eq (show fn6 [ρ 28] (γ 9) = (0, ρ 29, γ 10) from l7.symm)).trans ?_
  refine (zLet_eq (show _ = γ 10 from rfl)).trans ?_
  refine (if_pos w_2).trans ?_
  refine (zLet_eq (show _ = ρ 29 from rfl)).trans ?_
  refine (zLet_eq (show fn9 [ρ 29] (γ 10) = (0, 1, γ 11) from l8.symm)).trans ?_
  refine (zLet_eq (show _ = γ 11 from rfl)).trans ?_
  refine (if_pos zQ1_).trans ?_
  refine (zLet_eq (show fn12 [] (γ 11) = (0, 1, γ 12) from l9.symm)).trans ?_
  refine (zLet_eq (show _ = γ 12 from rfl)).trans ?_
  refine (if_pos zQ1_).trans ?_
  refine (zLet_eq (show fn13 [105, 115, 0, 0, 0] (γ 12) = (0, 1, γ 13) from l10.symm)).trans ?_
  refine (zLet_eq (show _ = γ 13 from rfl)).trans ?_
  refine (if_pos zQ1_).trans ?_
  refine (zLet_eq (show fn18 [ρ 24] (γ 13) = (0, 0, γ 14) from l11.symm)).trans ?_
  refine (zLet_eq (show _ = γ 14 from rfl)).trans ?_
  refine (if_neg zQ0_).trans ?_
  refine (zLet_eq (show fn34 [1] (γ 14) = (0, 1, γ 15) from l12.symm)).trans ?_
  refine (zLet_eq (show _ = γ 15 from rfl)).trans ?_
  refine (if_pos zQ1_).trans ?_
  refine (zLet_eq (show fn7 [] (γ 15) = (0, 0, γ 16) from l13.symm)).trans ?_
  refine (zLet_eq (show _ = γ 16 from rfl)).trans ?_
  refine (zLet_eq m41).trans ?_
  refine (zLet_eq (show fn6 [ρ 38] (γ 16) = (0, ρ 39, γ 17) from l14.symm)).trans ?_
  refine (zLet_eq (show _ = γ 17 from rfl)).trans ?_
  refine (if_pos w_3).trans ?_
  refine (zLet_eq (show _ = ρ 39 from rfl)).trans ?_
  refine (if_neg w_4).trans ?_
  refine (if_neg w_5).trans ?_
  refine (if_pos w_6).trans ?_
  refine (zLet_eq c18.symm).trans ?_
  refine (zLet_eq c19.symm).trans ?_
  refine (zLet_eq (show fn34 [2] (γ 19) = (0, 1, γ 20) from l17.symm)).trans ?_
  refine (zLet_eq (show _ = γ 20 from rfl)).trans ?_
  refine (if_pos zQ1_).trans ?_
  refine (zLet_eq (zF2_ok l18)).trans ?_
  refine (zLet_eq (zF2_ok l19)).trans ?_
  refine (zLet_eq c21.symm).trans ?_
  rfl
theorem vn42_14 {S : Nat → zSpc} (hS6 : ∀ x g o v gz, S 6 x g o v gz → sn6 x g o v gz) (hS7 : ∀ x g o v gz, S 7 x g o v gz → sn7 x g o v gz) (hS8 : ∀ x g o v gz, S 8 x g o v gz → sn8 x g o v gz) (hS9 : ∀ x g o v gz, S 9 x g o v gz → sn9 x g o v gz) (hS12 : ∀ x g o v gz, S 12 x g o v gz → sn12 x g o v gz) (hS13 : ∀ x g o v gz, S 13 x g o v gz → sn13 x g o v gz) (hS15 : ∀ x g o v gz, S 15 x g o v gz → sn15 x g o v gz) (hS18 : ∀ x g o v gz, S 18 x g o v gz → sn18 x g o v gz) (hS20 : ∀ x g o v gz, S 20 x g o v gz → sn20 x g o v gz) (hS23 : ∀ x g o v gz, S 23 x g o v gz → sn23 x g o v gz) (hS33 : ∀ x g o v gz, S 33 x g o v gz → sn33 x g o v gz) (hS34 : ∀ x g o v gz, S 34 x g o v gz → sn34 x g o v gz) (hS40 : ∀ x g o v gz, S 40 x g o v gz → sn40 x g o v gz) (hS41 : ∀ x g o v gz, S 41 x g o v gz → sn41 x g o v gz) {a : List Int} {g : rHp} : ∀ (ρ : Nat → Int) (γ : Nat → rHp), zO 18 S a g q42_14 ρ γ → zGl (fun _ _ _ => True) (sn42 a g) q42_14 ρ γ := by
  intro ρ γ h
  obtain ⟨ha, hg, hr, hf, hm, hc, hl⟩ := h
  have ha : a = [ρ 0, ρ 1, ρ 2, ρ 3, ρ 4, ρ 5, ρ 6, ρ 7, ρ 8, ρ 9, ρ 10, ρ 11, ρ 12, ρ 13, ρ 14, ρ 15, ρ 16, ρ 17] := ha
  subst ha
  subst hg
  obtain ⟨-, -, -, -, -, -, -, -, -, -, -, -, -, -, -, -, -, -, -, r19, -, -, -, -, -, r25, -, -, -, -, -, -, -, -, -, -, -, -, -, r39, -⟩ := hr
  have r19 : ((-128) : Int) ≤ ρ 19 ∧ ρ 19 ≤ 127 := r19
  have r25 : (1 : Int) ≤ ρ 25 ∧ ρ 25 ≤ 1 := r25
  have r39 : ((-128) : Int) ≤ ρ 39 ∧ ρ 39 ≤ 127 := r39
  obtain ⟨-, -, f2, -, -, -, -, -, -, -, -, -, -, -, -, f15, -, -, -, -, -, -, -, -, -, -, -, -, f28, -⟩ := hf
  have f2 : (0 : Int) ≤ -ρ 38 + ρ 1 + (-1) := f2
  have f15 : (0 : Int) ≤ -ρ 28 + ρ 1 + (-1) := f15
  have f28 : (0 : Int) ≤ -ρ 18 + ρ 1 + (-1) := f28
  obtain ⟨w_0, w_1, w_2, w_3⟩ : (0 ≤ -ρ 18 + ρ 1 + (-1)) ∧ (¬ (ρ 25 ≠ 1)) ∧ (0 ≤ -ρ 28 + ρ 1 + (-1)) ∧ (0 ≤ -ρ 38 + ρ 1 + (-1)) := ⟨by omega, by omega, by omega, by omega⟩
  obtain ⟨-, m1, -, -, -, -, -, -, m8, m9, -, -, -, -, -, -, -, m17, m18, -, -, -, -, m23, m24, -, -, -, m28, -, -, -, -, -, -, -, -, -, -, -, -, m41, -⟩ := hm
  have m1 : γ 0 15 0 34 = ρ 1 := m1
  have m8 : γ 0 15 0 44 = ρ 8 := m8
  have m9 : γ 0 73 0 (ρ 8) = ρ 9 := m9
  have m17 : γ 0 15 0 45 = ρ 17 := m17
  have m18 : γ 1 15 0 35 = ρ 18 := m18
  have m23 : γ 6 15 0 39 = ρ 24 := m23
  have m24 : γ 6 15 0 40 = ρ 25 := m24
  have m28 : γ 9 15 0 35 = ρ 28 := m28
  have m41 : γ 16 15 0 35 = ρ 38 := m41
  obtain ⟨⟨⟨⟨⟨⟨⟨⟨⟨⟨⟨⟨⟨⟨⟨⟨-, c3⟩, -⟩, -⟩, -⟩, c7⟩, c8⟩, -⟩, -⟩, -⟩, -⟩, -⟩, -⟩, -⟩, -⟩, -⟩, -⟩ := hc
  have c3 : γ 3 = rUp (γ 2) 79 0 (ρ 9 + 8 * ρ 8) (ρ 17) := c3
  have c7 : γ 7 = rUp (γ 6) 80 0 (4 * ρ 9 + 32 * ρ 8) (ρ 25) := c7
  have c8 : γ 8 = rUp (γ 7) 81 0 (4 * ρ 9 + 32 * ρ 8) (ρ 24) := c8
  obtain ⟨l0, l1, l2, l3, l4, l5, l6, l7, l8, l9, l10, l11, l12, l13, l14, l15, l16, l17, l18, -⟩ := hl
  have l0 : sn7 [ρ 0, ρ 1] (γ 0) 0 0 (γ 1) := hS7 _ _ _ _ _ l0
  have l1 : sn33 [ρ 8, ρ 9] (γ 1) 0 (ρ 9 + 8 * ρ 8) (γ 2) := hS33 _ _ _ _ _ l1
  have l2 : sn6 [ρ 18, ρ 1] (γ 3) 0 (ρ 19) (γ 4) := hS6 _ _ _ _ _ l2
  have l3 : ρ 19 ≠ 33 := l3
  have l4 : sn9 [ρ 19] (γ 4) 0 0 (γ 5) := hS9 _ _ _ _ _ l4
  have l5 : sn20 [0, ρ 18, ρ 1, ρ 2, ρ 3, ρ 20, ρ 16, ρ 13, ρ 14, ρ 15, ρ 8] (γ 5) 0 1 (γ 6) := hS20 _ _ _ _ _ l5
  have l6 : sn7 [ρ 21, ρ 1] (γ 8) 0 0 (γ 9) := hS7 _ _ _ _ _ l6
  have l7 : sn6 [ρ 28, ρ 1] (γ 9) 0 (ρ 29) (γ 10) := hS6 _ _ _ _ _ l7
  have l8 : sn9 [ρ 29] (γ 10) 0 1 (γ 11) := hS9 _ _ _ _ _ l8
  have l9 : sn12 [ρ 28, ρ 1, ρ 26, ρ 13, ρ 27] (γ 11) 0 1 (γ 12) := hS12 _ _ _ _ _ l9
  have l10 : sn13 [105, 115, 0, 0, 0, ρ 28, ρ 31] (γ 12) 0 1 (γ 13) := hS13 _ _ _ _ _ l10
  have l11 : sn18 [ρ 24, ρ 17] (γ 13) 0 0 (γ 14) := hS18 _ _ _ _ _ l11
  have l12 : sn34 [1, ρ 30, ρ 1, ρ 22, ρ 23, ρ 8, ρ 9, ρ 10, ρ 24, ρ 13, ρ 28, ρ 31, ρ 25, ρ 17] (γ 14) 0 1 (γ 15) := hS34 _ _ _ _ _ l12
  have l13 : sn7 [ρ 32, ρ 1] (γ 15) 0 0 (γ 16) := hS7 _ _ _ _ _ l13
  have l14 : sn6 [ρ 38, ρ 1] (γ 16) 0 (ρ 39) (γ 17) := hS6 _ _ _ _ _ l14
  have l15 : ρ 39 ≠ 43 := l15
  have l16 : ρ 39 ≠ 45 := l16
  have l17 : ρ 39 ≠ 42 := l17
  have l18 : sn8 [ρ 38, ρ 1, ρ 13] (γ 17) 0 0 (γ 18) := hS8 _ _ _ _ _ l18
  obtain ⟨wl_0, wl_1, wl_2, wl_3⟩ : (ρ 19 ≠ 33) ∧ (¬ (ρ 39 = 43)) ∧ (¬ (ρ 39 = 45)) ∧ (¬ (ρ 39 = 42)) := ⟨by omega, by omega, by omega, by omega⟩
  show sn42 [ρ 0, ρ 1, ρ 2, ρ 3, ρ 4, ρ 5, ρ 6, ρ 7, ρ 8, ρ 9, ρ 10, ρ 11, ρ 12, ρ 13, ρ 14, ρ 15, ρ 16, ρ 17] (γ 0) 0 0 (γ 18)
  refine Eq.symm ?_
  show fn42 [] (γ 0) = _
  unfold fn42
  refine (zLet_eq m1).trans ?_
  refine (zLet_eq m8).trans ?_
  refine (zLet_eq m9).trans ?_
  refine (zLet_eq m17).trans ?_
  refine (zLet_eq (show fn7 [] (γ 0) = (0, 0, γ 1) from l0.symm)).trans ?_
  refine (zLet_eq (show _ = γ 1 from rfl)).trans ?_
  refine (zLet_eq m18).trans ?_
  refine (zLet_eq (show fn33 [] (γ 1) = (0, ρ 9 + 8 * ρ 8, γ 2) from l1.symm)).trans ?_
  refine (zLet_eq (show _ = γ 2 from rfl)).trans ?_
  refine (zLet_eq c3.symm).trans ?_
  refine (zLet_eq (show fn6 [ρ 18] (γ 3) = (0, ρ 19, γ 4) from l2.symm)).trans ?_
  refine (zLet_eq (show _ = γ 4 from rfl)).trans ?_
  refine (if_pos w_0).trans ?_
  refine (zLet_eq (show _ = ρ 19 from rfl)).trans ?_
  refine (if_pos wl_0).trans ?_
  refine (zLet_eq (show fn9 [ρ 19] (γ 4) = (0, 0, γ 5) from l4.symm)).trans ?_
  refine (zLet_eq (show _ = γ 5 from rfl)).trans ?_
  refine (if_neg zQ0_).trans ?_
  refine (zLet_eq (show fn20 [0] (γ 5) = (0, 1, γ 6) from l5.symm)).trans ?_
  refine (zLet_eq (show _ = γ 6 from rfl)).trans ?_
  refine (if_pos zQ1_).trans ?_
  refine (zLet_eq m23).trans ?_
  refine (zLet_eq m24).trans ?_
  refine (zLet_eq c7.symm).trans ?_
  refine (zLet_eq c8.symm).trans ?_
  refine (zLet_eq (show fn7 [] (γ 8) = (0, 0, γ 9) from l6.symm)).trans ?_
  refine (zLet_eq (show _ = γ 9 from rfl)).trans ?_
  refine (zLet_eq m28).trans ?_
  refine (if_neg w_1).trans ?_
  refine (zLet_eq (show fn6 [ρ 28] (γ 9) = (0, ρ 29, γ 10) from l7.symm)).trans ?_
  refine (zLet_eq (show _ = γ 10 from rfl)).trans ?_
  refine (if_pos w_2).trans ?_
  refine (zLet_eq (show _ = ρ 29 from rfl)).trans ?_
  refine (zLet_eq (show fn9 [ρ 29] (γ 10) = (0, 1, γ 11) from l8.symm)).trans ?_
  refine (zLet_eq (show _ = γ 11 from rfl)).trans ?_
  refine (if_pos zQ1_).trans ?_
  refine (zLet_eq (show fn12 [] (γ 11) = (0, 1, γ 12) from l9.symm)).trans ?_
  refine (zLet_eq (show _ = γ 12 from rfl)).trans ?_
  refine (if_pos zQ1_).trans ?_
  refine (zLet_eq (show fn13 [105, 115, 0, 0, 0] (γ 12) = (0, 1, γ 13) from l10.symm)).trans ?_
  refine (zLet_eq (show _ = γ 13 from rfl)).trans ?_
  refine (if_pos zQ1_).trans ?_
  refine (zLet_eq (show fn18 [ρ 24] (γ 13) = (0, 0, γ 14) from l11.symm)).trans ?_
  refine (zLet_eq (show _ = γ 14 from rfl)).trans ?_
  refine (if_neg zQ0_).trans ?_
  refine (zLet_eq (show fn34 [1] (γ 14) = (0, 1, γ 15) from l12.symm)).trans ?_
  refine (zLet_eq (show _ = γ 15 from rfl)).trans ?_
  refine (if_pos zQ1_).trans ?_
  refine (zLet_eq (show fn7 [] (γ 15) = (0, 0, γ 16) from l13.symm)).trans ?_
  refine (zLet_eq (show _ = γ 16 from rfl)).trans ?_
  refine (zLet_eq m41).trans ?_
  refine (zLet_eq (show fn6 [ρ 38] (γ 16) = (0, ρ 39, γ 17) from l14.symm)).trans ?_
  refine (zLet_eq (show _ = γ 17 from rfl)).trans ?_
  refine (if_pos w_3).trans ?_
  refine (zLet_eq (show _ = ρ 39 from rfl)).trans ?_
  refine (if_neg wl_1).trans ?_
  refine (if_neg wl_2).trans ?_
  refine (if_neg wl_3).trans ?_
  refine (zLet_eq (show fn8 [ρ 38] (γ 17) = (0, 0, γ 18) from l18.symm)).trans ?_
  refine (zLet_eq (show _ = γ 18 from rfl)).trans ?_
  rfl
theorem vn42_15 {S : Nat → zSpc} (hS6 : ∀ x g o v gz, S 6 x g o v gz → sn6 x g o v gz) (hS7 : ∀ x g o v gz, S 7 x g o v gz → sn7 x g o v gz) (hS8 : ∀ x g o v gz, S 8 x g o v gz → sn8 x g o v gz) (hS9 : ∀ x g o v gz, S 9 x g o v gz → sn9 x g o v gz) (hS12 : ∀ x g o v gz, S 12 x g o v gz → sn12 x g o v gz) (hS13 : ∀ x g o v gz, S 13 x g o v gz → sn13 x g o v gz) (hS15 : ∀ x g o v gz, S 15 x g o v gz → sn15 x g o v gz) (hS18 : ∀ x g o v gz, S 18 x g o v gz → sn18 x g o v gz) (hS20 : ∀ x g o v gz, S 20 x g o v gz → sn20 x g o v gz) (hS23 : ∀ x g o v gz, S 23 x g o v gz → sn23 x g o v gz) (hS33 : ∀ x g o v gz, S 33 x g o v gz → sn33 x g o v gz) (hS34 : ∀ x g o v gz, S 34 x g o v gz → sn34 x g o v gz) (hS40 : ∀ x g o v gz, S 40 x g o v gz → sn40 x g o v gz) (hS41 : ∀ x g o v gz, S 41 x g o v gz → sn41 x g o v gz) {a : List Int} {g : rHp} : ∀ (ρ : Nat → Int) (γ : Nat → rHp), zO 18 S a g q42_15 ρ γ → zGl (fun _ _ _ => True) (sn42 a g) q42_15 ρ γ := by
  intro ρ γ h
  obtain ⟨ha, hg, hr, hf, hm, hc, hl⟩ := h
  have ha : a = [ρ 0, ρ 1, ρ 2, ρ 3, ρ 4, ρ 5, ρ 6, ρ 7, ρ 8, ρ 9, ρ 10, ρ 11, ρ 12, ρ 13, ρ 14, ρ 15, ρ 16, ρ 17] := ha
  subst ha
  subst hg
  obtain ⟨-, -, -, -, -, -, -, -, -, -, -, -, -, -, -, -, -, -, -, r19, -, -, -, -, -, r25, -⟩ := hr
  have r19 : ((-128) : Int) ≤ ρ 19 ∧ ρ 19 ≤ 127 := r19
  have r25 : (1 : Int) ≤ ρ 25 ∧ ρ 25 ≤ 1 := r25
  obtain ⟨-, -, f2, -, -, -, -, -, -, -, -, -, -, -, -, f15, -, -, -, -, -, -, -, -, -, -, -, -, f28, -⟩ := hf
  have f2 : (0 : Int) ≤ ρ 38 + -ρ 1 := f2
  have f15 : (0 : Int) ≤ -ρ 28 + ρ 1 + (-1) := f15
  have f28 : (0 : Int) ≤ -ρ 18 + ρ 1 + (-1) := f28
  obtain ⟨w_0, w_1, w_2, w_3⟩ : (0 ≤ -ρ 18 + ρ 1 + (-1)) ∧ (¬ (ρ 25 ≠ 1)) ∧ (0 ≤ -ρ 28 + ρ 1 + (-1)) ∧ (¬ (0 ≤ -ρ 38 + ρ 1 + (-1))) := ⟨by omega, by omega, by omega, by omega⟩
  obtain ⟨-, m1, -, -, -, -, -, -, m8, m9, -, -, -, -, -, -, -, m17, m18, -, -, -, -, m23, m24, -, -, -, m28, -, -, -, -, -, -, -, -, -, -, -, -, m41, -⟩ := hm
  have m1 : γ 0 15 0 34 = ρ 1 := m1
  have m8 : γ 0 15 0 44 = ρ 8 := m8
  have m9 : γ 0 73 0 (ρ 8) = ρ 9 := m9
  have m17 : γ 0 15 0 45 = ρ 17 := m17
  have m18 : γ 1 15 0 35 = ρ 18 := m18
  have m23 : γ 6 15 0 39 = ρ 24 := m23
  have m24 : γ 6 15 0 40 = ρ 25 := m24
  have m28 : γ 9 15 0 35 = ρ 28 := m28
  have m41 : γ 16 15 0 35 = ρ 38 := m41
  obtain ⟨⟨⟨⟨⟨⟨⟨⟨⟨⟨⟨⟨⟨⟨⟨⟨-, c3⟩, -⟩, -⟩, -⟩, c7⟩, c8⟩, -⟩, -⟩, -⟩, -⟩, -⟩, -⟩, -⟩, -⟩, -⟩, -⟩ := hc
  have c3 : γ 3 = rUp (γ 2) 79 0 (ρ 9 + 8 * ρ 8) (ρ 17) := c3
  have c7 : γ 7 = rUp (γ 6) 80 0 (4 * ρ 9 + 32 * ρ 8) (ρ 25) := c7
  have c8 : γ 8 = rUp (γ 7) 81 0 (4 * ρ 9 + 32 * ρ 8) (ρ 24) := c8
  obtain ⟨l0, l1, l2, l3, l4, l5, l6, l7, l8, l9, l10, l11, l12, l13, l14, l15, -⟩ := hl
  have l0 : sn7 [ρ 0, ρ 1] (γ 0) 0 0 (γ 1) := hS7 _ _ _ _ _ l0
  have l1 : sn33 [ρ 8, ρ 9] (γ 1) 0 (ρ 9 + 8 * ρ 8) (γ 2) := hS33 _ _ _ _ _ l1
  have l2 : sn6 [ρ 18, ρ 1] (γ 3) 0 (ρ 19) (γ 4) := hS6 _ _ _ _ _ l2
  have l3 : ρ 19 ≠ 33 := l3
  have l4 : sn9 [ρ 19] (γ 4) 0 0 (γ 5) := hS9 _ _ _ _ _ l4
  have l5 : sn20 [0, ρ 18, ρ 1, ρ 2, ρ 3, ρ 20, ρ 16, ρ 13, ρ 14, ρ 15, ρ 8] (γ 5) 0 1 (γ 6) := hS20 _ _ _ _ _ l5
  have l6 : sn7 [ρ 21, ρ 1] (γ 8) 0 0 (γ 9) := hS7 _ _ _ _ _ l6
  have l7 : sn6 [ρ 28, ρ 1] (γ 9) 0 (ρ 29) (γ 10) := hS6 _ _ _ _ _ l7
  have l8 : sn9 [ρ 29] (γ 10) 0 1 (γ 11) := hS9 _ _ _ _ _ l8
  have l9 : sn12 [ρ 28, ρ 1, ρ 26, ρ 13, ρ 27] (γ 11) 0 1 (γ 12) := hS12 _ _ _ _ _ l9
  have l10 : sn13 [105, 115, 0, 0, 0, ρ 28, ρ 31] (γ 12) 0 1 (γ 13) := hS13 _ _ _ _ _ l10
  have l11 : sn18 [ρ 24, ρ 17] (γ 13) 0 0 (γ 14) := hS18 _ _ _ _ _ l11
  have l12 : sn34 [1, ρ 30, ρ 1, ρ 22, ρ 23, ρ 8, ρ 9, ρ 10, ρ 24, ρ 13, ρ 28, ρ 31, ρ 25, ρ 17] (γ 14) 0 1 (γ 15) := hS34 _ _ _ _ _ l12
  have l13 : sn7 [ρ 32, ρ 1] (γ 15) 0 0 (γ 16) := hS7 _ _ _ _ _ l13
  have l14 : sn6 [ρ 38, ρ 1] (γ 16) 0 (-1) (γ 17) := hS6 _ _ _ _ _ l14
  have l15 : sn8 [ρ 38, ρ 1, ρ 13] (γ 17) 0 0 (γ 18) := hS8 _ _ _ _ _ l15
  have wl_0 : ρ 19 ≠ 33 := by omega
  show sn42 [ρ 0, ρ 1, ρ 2, ρ 3, ρ 4, ρ 5, ρ 6, ρ 7, ρ 8, ρ 9, ρ 10, ρ 11, ρ 12, ρ 13, ρ 14, ρ 15, ρ 16, ρ 17] (γ 0) 0 0 (γ 18)
  refine Eq.symm ?_
  show fn42 [] (γ 0) = _
  unfold fn42
  refine (zLet_eq m1).trans ?_
  refine (zLet_eq m8).trans ?_
  refine (zLet_eq m9).trans ?_
  refine (zLet_eq m17).trans ?_
  refine (zLet_eq (show fn7 [] (γ 0) = (0, 0, γ 1) from l0.symm)).trans ?_
  refine (zLet_eq (show _ = γ 1 from rfl)).trans ?_
  refine (zLet_eq m18).trans ?_
  refine (zLet_eq (show fn33 [] (γ 1) = (0, ρ 9 + 8 * ρ 8, γ 2) from l1.symm)).trans ?_
  refine (zLet_eq (show _ = γ 2 from rfl)).trans ?_
  refine (zLet_eq c3.symm).trans ?_
  refine (zLet_eq (show fn6 [ρ 18] (γ 3) = (0, ρ 19, γ 4) from l2.symm)).trans ?_
  refine (zLet_eq (show _ = γ 4 from rfl)).trans ?_
  refine (if_pos w_0).trans ?_
  refine (zLet_eq (show _ = ρ 19 from rfl)).trans ?_
  refine (if_pos wl_0).trans ?_
  refine (zLet_eq (show fn9 [ρ 19] (γ 4) = (0, 0, γ 5) from l4.symm)).trans ?_
  refine (zLet_eq (show _ = γ 5 from rfl)).trans ?_
  refine (if_neg zQ0_).trans ?_
  refine (zLet_eq (show fn20 [0] (γ 5) = (0, 1, γ 6) from l5.symm)).trans ?_
  refine (zLet_eq (show _ = γ 6 from rfl)).trans ?_
  refine (if_pos zQ1_).trans ?_
  refine (zLet_eq m23).trans ?_
  refine (zLet_eq m24).trans ?_
  refine (zLet_eq c7.symm).trans ?_
  refine (zLet_eq c8.symm).trans ?_
  refine (zLet_eq (show fn7 [] (γ 8) = (0, 0, γ 9) from l6.symm)).trans ?_
  refine (zLet_eq (show _ = γ 9 from rfl)).trans ?_
  refine (zLet_eq m28).trans ?_
  refine (if_neg w_1).trans ?_
  refine (zLet_eq (show fn6 [ρ 28] (γ 9) = (0, ρ 29, γ 10) from l7.symm)).trans ?_
  refine (zLet_eq (show _ = γ 10 from rfl)).trans ?_
  refine (if_pos w_2).trans ?_
  refine (zLet_eq (show _ = ρ 29 from rfl)).trans ?_
  refine (zLet_eq (show fn9 [ρ 29] (γ 10) = (0, 1, γ 11) from l8.symm)).trans ?_
  refine (zLet_eq (show _ = γ 11 from rfl)).trans ?_
  refine (if_pos zQ1_).trans ?_
  refine (zLet_eq (show fn12 [] (γ 11) = (0, 1, γ 12) from l9.symm)).trans ?_
  refine (zLet_eq (show _ = γ 12 from rfl)).trans ?_
  refine (if_pos zQ1_).trans ?_
  refine (zLet_eq (show fn13 [105, 115, 0, 0, 0] (γ 12) = (0, 1, γ 13) from l10.symm)).trans ?_
  refine (zLet_eq (show _ = γ 13 from rfl)).trans ?_
  refine (if_pos zQ1_).trans ?_
  refine (zLet_eq (show fn18 [ρ 24] (γ 13) = (0, 0, γ 14) from l11.symm)).trans ?_
  refine (zLet_eq (show _ = γ 14 from rfl)).trans ?_
  refine (if_neg zQ0_).trans ?_
  refine (zLet_eq (show fn34 [1] (γ 14) = (0, 1, γ 15) from l12.symm)).trans ?_
  refine (zLet_eq (show _ = γ 15 from rfl)).trans ?_
  refine (if_pos zQ1_).trans ?_
  refine (zLet_eq (show fn7 [] (γ 15) = (0, 0, γ 16) from l13.symm)).trans ?_
  refine (zLet_eq (show _ = γ 16 from rfl)).trans ?_
  refine (zLet_eq m41).trans ?_
  refine (zLet_eq (show fn6 [ρ 38] (γ 16) = (0, (-1), γ 17) from l14.symm)).trans ?_
  refine (zLet_eq (show _ = γ 17 from rfl)).trans ?_
  refine (if_neg w_3).trans ?_
  refine (zLet_eq (show fn8 [ρ 38] (γ 17) = (0, 0, γ 18) from l15.symm)).trans ?_
  refine (zLet_eq (show _ = γ 18 from rfl)).trans ?_
  rfl
theorem vn42_16 {S : Nat → zSpc} (hS6 : ∀ x g o v gz, S 6 x g o v gz → sn6 x g o v gz) (hS7 : ∀ x g o v gz, S 7 x g o v gz → sn7 x g o v gz) (hS8 : ∀ x g o v gz, S 8 x g o v gz → sn8 x g o v gz) (hS9 : ∀ x g o v gz, S 9 x g o v gz → sn9 x g o v gz) (hS12 : ∀ x g o v gz, S 12 x g o v gz → sn12 x g o v gz) (hS13 : ∀ x g o v gz, S 13 x g o v gz → sn13 x g o v gz) (hS15 : ∀ x g o v gz, S 15 x g o v gz → sn15 x g o v gz) (hS18 : ∀ x g o v gz, S 18 x g o v gz → sn18 x g o v gz) (hS20 : ∀ x g o v gz, S 20 x g o v gz → sn20 x g o v gz) (hS23 : ∀ x g o v gz, S 23 x g o v gz → sn23 x g o v gz) (hS33 : ∀ x g o v gz, S 33 x g o v gz → sn33 x g o v gz) (hS34 : ∀ x g o v gz, S 34 x g o v gz → sn34 x g o v gz) (hS40 : ∀ x g o v gz, S 40 x g o v gz → sn40 x g o v gz) (hS41 : ∀ x g o v gz, S 41 x g o v gz → sn41 x g o v gz) {a : List Int} {g : rHp} : ∀ (ρ : Nat → Int) (γ : Nat → rHp), zO 18 S a g q42_16 ρ γ → zGl (fun _ _ _ => True) (sn42 a g) q42_16 ρ γ := by
  intro ρ γ h
  obtain ⟨ha, hg, hr, hf, hm, hc, hl⟩ := h
  have ha : a = [ρ 0, ρ 1, ρ 2, ρ 3, ρ 4, ρ 5, ρ 6, ρ 7, ρ 8, ρ 9, ρ 10, ρ 11, ρ 12, ρ 13, ρ 14, ρ 15, ρ 16, ρ 17] := ha
  subst ha
  subst hg
  obtain ⟨-, -, -, -, -, -, -, -, -, -, -, -, -, -, -, -, -, -, -, r19, -, -, -, -, -, r25, -⟩ := hr
  have r19 : ((-128) : Int) ≤ ρ 19 ∧ ρ 19 ≤ 127 := r19
  have r25 : (1 : Int) ≤ ρ 25 ∧ ρ 25 ≤ 1 := r25
  obtain ⟨-, -, f2, -, -, -, -, -, -, -, -, -, -, -, -, -, f16, -⟩ := hf
  have f2 : (0 : Int) ≤ -ρ 28 + ρ 1 + (-1) := f2
  have f16 : (0 : Int) ≤ -ρ 18 + ρ 1 + (-1) := f16
  obtain ⟨w_0, w_1, w_2⟩ : (0 ≤ -ρ 18 + ρ 1 + (-1)) ∧ (¬ (ρ 25 ≠ 1)) ∧ (0 ≤ -ρ 28 + ρ 1 + (-1)) := ⟨by omega, by omega, by omega⟩
  obtain ⟨-, m1, -, -, -, -, -, -, m8, m9, -, -, -, -, -, -, -, m17, m18, -, -, -, -, m23, m24, -, -, -, m28, -⟩ := hm
  have m1 : γ 0 15 0 34 = ρ 1 := m1
  have m8 : γ 0 15 0 44 = ρ 8 := m8
  have m9 : γ 0 73 0 (ρ 8) = ρ 9 := m9
  have m17 : γ 0 15 0 45 = ρ 17 := m17
  have m18 : γ 1 15 0 35 = ρ 18 := m18
  have m23 : γ 6 15 0 39 = ρ 24 := m23
  have m24 : γ 6 15 0 40 = ρ 25 := m24
  have m28 : γ 9 15 0 35 = ρ 28 := m28
  obtain ⟨⟨⟨⟨⟨⟨⟨⟨⟨⟨⟨⟨⟨-, c3⟩, -⟩, -⟩, -⟩, c7⟩, c8⟩, -⟩, -⟩, -⟩, -⟩, -⟩, -⟩, -⟩ := hc
  have c3 : γ 3 = rUp (γ 2) 79 0 (ρ 9 + 8 * ρ 8) (ρ 17) := c3
  have c7 : γ 7 = rUp (γ 6) 80 0 (4 * ρ 9 + 32 * ρ 8) (ρ 25) := c7
  have c8 : γ 8 = rUp (γ 7) 81 0 (4 * ρ 9 + 32 * ρ 8) (ρ 24) := c8
  obtain ⟨l0, l1, l2, l3, l4, l5, l6, l7, l8, l9, l10, l11, l12, -⟩ := hl
  have l0 : sn7 [ρ 0, ρ 1] (γ 0) 0 0 (γ 1) := hS7 _ _ _ _ _ l0
  have l1 : sn33 [ρ 8, ρ 9] (γ 1) 0 (ρ 9 + 8 * ρ 8) (γ 2) := hS33 _ _ _ _ _ l1
  have l2 : sn6 [ρ 18, ρ 1] (γ 3) 0 (ρ 19) (γ 4) := hS6 _ _ _ _ _ l2
  have l3 : ρ 19 ≠ 33 := l3
  have l4 : sn9 [ρ 19] (γ 4) 0 0 (γ 5) := hS9 _ _ _ _ _ l4
  have l5 : sn20 [0, ρ 18, ρ 1, ρ 2, ρ 3, ρ 20, ρ 16, ρ 13, ρ 14, ρ 15, ρ 8] (γ 5) 0 1 (γ 6) := hS20 _ _ _ _ _ l5
  have l6 : sn7 [ρ 21, ρ 1] (γ 8) 0 0 (γ 9) := hS7 _ _ _ _ _ l6
  have l7 : sn6 [ρ 28, ρ 1] (γ 9) 0 (ρ 29) (γ 10) := hS6 _ _ _ _ _ l7
  have l8 : sn9 [ρ 29] (γ 10) 0 1 (γ 11) := hS9 _ _ _ _ _ l8
  have l9 : sn12 [ρ 28, ρ 1, ρ 26, ρ 13, ρ 27] (γ 11) 0 1 (γ 12) := hS12 _ _ _ _ _ l9
  have l10 : sn13 [105, 115, 0, 0, 0, ρ 28, ρ 31] (γ 12) 0 1 (γ 13) := hS13 _ _ _ _ _ l10
  have l11 : sn18 [ρ 24, ρ 17] (γ 13) 0 1 (γ 14) := hS18 _ _ _ _ _ l11
  have l12 : sn8 [ρ 18, ρ 1, ρ 13] (γ 14) 0 0 (γ 15) := hS8 _ _ _ _ _ l12
  have wl_0 : ρ 19 ≠ 33 := by omega
  show sn42 [ρ 0, ρ 1, ρ 2, ρ 3, ρ 4, ρ 5, ρ 6, ρ 7, ρ 8, ρ 9, ρ 10, ρ 11, ρ 12, ρ 13, ρ 14, ρ 15, ρ 16, ρ 17] (γ 0) 0 0 (γ 15)
  refine Eq.symm ?_
  show fn42 [] (γ 0) = _
  unfold fn42
  refine (zLet_eq m1).trans ?_
  refine (zLet_eq m8).trans ?_
  refine (zLet_eq m9).trans ?_
  refine (zLet_eq m17).trans ?_
  refine (zLet_eq (show fn7 [] (γ 0) = (0, 0, γ 1) from l0.symm)).trans ?_
  refine (zLet_eq (show _ = γ 1 from rfl)).trans ?_
  refine (zLet_eq m18).trans ?_
  refine (zLet_eq (show fn33 [] (γ 1) = (0, ρ 9 + 8 * ρ 8, γ 2) from l1.symm)).trans ?_
  refine (zLet_eq (show _ = γ 2 from rfl)).trans ?_
  refine (zLet_eq c3.symm).trans ?_
  refine (zLet_eq (show fn6 [ρ 18] (γ 3) = (0, ρ 19, γ 4) from l2.symm)).trans ?_
  refine (zLet_eq (show _ = γ 4 from rfl)).trans ?_
  refine (if_pos w_0).trans ?_
  refine (zLet_eq (show _ = ρ 19 from rfl)).trans ?_
  refine (if_pos wl_0).trans ?_
  refine (zLet_eq (show fn9 [ρ 19] (γ 4) = (0, 0, γ 5) from l4.symm)).trans ?_
  refine (zLet_eq (show _ = γ 5 from rfl)).trans ?_
  refine (if_neg zQ0_).trans ?_
  refine (zLet_eq (show fn20 [0] (γ 5) = (0, 1, γ 6) from l5.symm)).trans ?_
  refine (zLet_eq (show _ = γ 6 from rfl)).trans ?_
  refine (if_pos zQ1_).trans ?_
  refine (zLet_eq m23).trans ?_
  refine (zLet_eq m24).trans ?_
  refine (zLet_eq c7.symm).trans ?_
  refine (zLet_eq c8.symm).trans ?_
  refine (zLet_eq (show fn7 [] (γ 8) = (0, 0, γ 9) from l6.symm)).trans ?_
  refine (zLet_eq (show _ = γ 9 from rfl)).trans ?_
  refine (zLet_eq m28).trans ?_
  refine (if_neg w_1).trans ?_
  refine (zLet_eq (show fn6 [ρ 28] (γ 9) = (0, ρ 29, γ 10) from l7.symm)).trans ?_
  refine (zLet_eq (show _ = γ 10 from rfl)).trans ?_
  refine (if_pos w_2).trans ?_
  refine (zLet_eq (show _ = ρ 29 from rfl)).trans ?_
  refine (zLet_eq (show fn9 [ρ 29] (γ 10) = (0, 1, γ 11) from l8.symm)).trans ?_
  refine (zLet_eq (show _ = γ 11 from rfl)).trans ?_
  refine (if_pos zQ1_).trans ?_
  refine (zLet_eq (show fn12 [] (γ 11) = (0, 1, γ 12) from l9.symm)).trans ?_
  refine (zLet_eq (show _ = γ 12 from rfl)).trans ?_
  refine (if_pos zQ1_).trans ?_
  refine (zLet_eq (show fn13 [105, 115, 0, 0, 0] (γ 12) = (0, 1, γ 13) from l10.symm)).trans ?_
  refine (zLet_eq (show _ = γ 13 from rfl)).trans ?_
  refine (if_pos zQ1_).trans ?_
  refine (zLet_eq (show fn18 [ρ 24] (γ 13) = (0, 1, γ 14) from l11.symm)).trans ?_
  refine (zLet_eq (show _ = γ 14 from rfl)).trans ?_
  refine (if_pos zQ1_).trans ?_
  refine (zLet_eq (show fn8 [ρ 18] (γ 14) = (0, 0, γ 15) from l12.symm)).trans ?_
  refine (zLet_eq (show _ = γ 15 from rfl)).trans ?_
  rfl
theorem vn42_17 {S : Nat → zSpc} (hS6 : ∀ x g o v gz, S 6 x g o v gz → sn6 x g o v gz) (hS7 : ∀ x g o v gz, S 7 x g o v gz → sn7 x g o v gz) (hS8 : ∀ x g o v gz, S 8 x g o v gz → sn8 x g o v gz) (hS9 : ∀ x g o v gz, S 9 x g o v gz → sn9 x g o v gz) (hS12 : ∀ x g o v gz, S 12 x g o v gz → sn12 x g o v gz) (hS13 : ∀ x g o v gz, S 13 x g o v gz → sn13 x g o v gz) (hS15 : ∀ x g o v gz, S 15 x g o v gz → sn15 x g o v gz) (hS18 : ∀ x g o v gz, S 18 x g o v gz → sn18 x g o v gz) (hS20 : ∀ x g o v gz, S 20 x g o v gz → sn20 x g o v gz) (hS23 : ∀ x g o v gz, S 23 x g o v gz → sn23 x g o v gz) (hS33 : ∀ x g o v gz, S 33 x g o v gz → sn33 x g o v gz) (hS34 : ∀ x g o v gz, S 34 x g o v gz → sn34 x g o v gz) (hS40 : ∀ x g o v gz, S 40 x g o v gz → sn40 x g o v gz) (hS41 : ∀ x g o v gz, S 41 x g o v gz → sn41 x g o v gz) {a : List Int} {g : rHp} : ∀ (ρ : Nat → Int) (γ : Nat → rHp), zO 18 S a g q42_17 ρ γ → zGl (fun _ _ _ => True) (sn42 a g) q42_17 ρ γ := by
  intro ρ γ h
  obtain ⟨ha, hg, hr, hf, hm, hc, hl⟩ := h
  have ha : a = [ρ 0, ρ 1, ρ 2, ρ 3, ρ 4, ρ 5, ρ 6, ρ 7, ρ 8, ρ 9, ρ 10, ρ 11, ρ 12, ρ 13, ρ 14, ρ 15, ρ 16, ρ 17] := ha
  subst ha
  subst hg
  obtain ⟨-, -, -, -, -, -, -, -, -, -, -, -, -, -, -, -, -, -, -, r19, -, -, -, -, -, r25, -⟩ := hr
  have r19 : ((-128) : Int) ≤ ρ 19 ∧ ρ 19 ≤ 127 := r19
  have r25 : (1 : Int) ≤ ρ 25 ∧ ρ 25 ≤ 1 := r25
  obtain ⟨-, -, -, -, -, -, -, -, -, -, -, -, f12, -, -, -, -, -, -, -, -, f21, -⟩ := hf
  have f12 : (0 : Int) ≤ ρ 28 + -ρ 1 := f12
  have f21 : (0 : Int) ≤ -ρ 18 + ρ 1 + (-1) := f21
  obtain ⟨w_0, w_1, w_2⟩ : (0 ≤ -ρ 18 + ρ 1 + (-1)) ∧ (¬ (ρ 25 ≠ 1)) ∧ (¬ (0 ≤ -ρ 28 + ρ 1 + (-1))) := ⟨by omega, by omega, by omega⟩
  obtain ⟨-, m1, -, -, -, -, -, -, m8, m9, -, -, -, -, -, -, -, m17, m18, -, -, -, -, m23, m24, -, -, -, m28, -⟩ := hm
  have m1 : γ 0 15 0 34 = ρ 1 := m1
  have m8 : γ 0 15 0 44 = ρ 8 := m8
  have m9 : γ 0 73 0 (ρ 8) = ρ 9 := m9
  have m17 : γ 0 15 0 45 = ρ 17 := m17
  have m18 : γ 1 15 0 35 = ρ 18 := m18
  have m23 : γ 6 15 0 39 = ρ 24 := m23
  have m24 : γ 6 15 0 40 = ρ 25 := m24
  have m28 : γ 9 15 0 35 = ρ 28 := m28
  obtain ⟨⟨⟨⟨⟨⟨⟨⟨⟨⟨-, c3⟩, -⟩, -⟩, -⟩, c7⟩, c8⟩, -⟩, -⟩, -⟩, -⟩ := hc
  have c3 : γ 3 = rUp (γ 2) 79 0 (ρ 9 + 8 * ρ 8) (ρ 17) := c3
  have c7 : γ 7 = rUp (γ 6) 80 0 (4 * ρ 9 + 32 * ρ 8) (ρ 25) := c7
  have c8 : γ 8 = rUp (γ 7) 81 0 (4 * ρ 9 + 32 * ρ 8) (ρ 24) := c8
  obtain ⟨l0, l1, l2, l3, l4, l5, l6, l7, l8, l9, -⟩ := hl
  have l0 : sn7 [ρ 0, ρ 1] (γ 0) 0 0 (γ 1) := hS7 _ _ _ _ _ l0
  have l1 : sn33 [ρ 8, ρ 9] (γ 1) 0 (ρ 9 + 8 * ρ 8) (γ 2) := hS33 _ _ _ _ _ l1
  have l2 : sn6 [ρ 18, ρ 1] (γ 3) 0 (ρ 19) (γ 4) := hS6 _ _ _ _ _ l2
  have l3 : ρ 19 ≠ 33 := l3
  have l4 : sn9 [ρ 19] (γ 4) 0 0 (γ 5) := hS9 _ _ _ _ _ l4
  have l5 : sn20 [0, ρ 18, ρ 1, ρ 2, ρ 3, ρ 20, ρ 16, ρ 13, ρ 14, ρ 15, ρ 8] (γ 5) 0 1 (γ 6) := hS20 _ _ _ _ _ l5
  have l6 : sn7 [ρ 21, ρ 1] (γ 8) 0 0 (γ 9) := hS7 _ _ _ _ _ l6
  have l7 : sn6 [ρ 28, ρ 1] (γ 9) 0 (-1) (γ 10) := hS6 _ _ _ _ _ l7
  have l8 : sn9 [(-1)] (γ 10) 0 0 (γ 11) := hS9 _ _ _ _ _ l8
  have l9 : sn40 [ρ 18, ρ 28, ρ 1, ρ 22, ρ 23, ρ 6, ρ 7, ρ 8, ρ 9, ρ 10, ρ 24, ρ 13, ρ 26, ρ 27, ρ 25, ρ 17] (γ 11) 0 0 (γ 12) := hS40 _ _ _ _ _ l9
  have wl_0 : ρ 19 ≠ 33 := by omega
  show sn42 [ρ 0, ρ 1, ρ 2, ρ 3, ρ 4, ρ 5, ρ 6, ρ 7, ρ 8, ρ 9, ρ 10, ρ 11, ρ 12, ρ 13, ρ 14, ρ 15, ρ 16, ρ 17] (γ 0) 0 0 (γ 12)
  refine Eq.symm ?_
  show fn42 [] (γ 0) = _
  unfold fn42
  refine (zLet_eq m1).trans ?_
  refine (zLet_eq m8).trans ?_
  refine (zLet_eq m9).trans ?_
  refine (zLet_eq m17).trans ?_
  refine (zLet_eq (show fn7 [] (γ 0) = (0, 0, γ 1) from l0.symm)).trans ?_
  refine (zLet_eq (show _ = γ 1 from rfl)).trans ?_
  refine (zLet_eq m18).trans ?_
  refine (zLet_eq (show fn33 [] (γ 1) = (0, ρ 9 + 8 * ρ 8, γ 2) from l1.symm)).trans ?_
  refine (zLet_eq (show _ = γ 2 from rfl)).trans ?_
  refine (zLet_eq c3.symm).trans ?_
  refine (zLet_eq (show fn6 [ρ 18] (γ 3) = (0, ρ 19, γ 4) from l2.symm)).trans ?_
  refine (zLet_eq (show _ = γ 4 from rfl)).trans ?_
  refine (if_pos w_0).trans ?_
  refine (zLet_eq (show _ = ρ 19 from rfl)).trans ?_
  refine (if_pos wl_0).trans ?_
  refine (zLet_eq (show fn9 [ρ 19] (γ 4) = (0, 0, γ 5) from l4.symm)).trans ?_
  refine (zLet_eq (show _ = γ 5 from rfl)).trans ?_
  refine (if_neg zQ0_).trans ?_
  refine (zLet_eq (show fn20 [0] (γ 5) = (0, 1, γ 6) from l5.symm)).trans ?_
  refine (zLet_eq (show _ = γ 6 from rfl)).trans ?_
  refine (if_pos zQ1_).trans ?_
  refine (zLet_eq m23).trans ?_
  refine (zLet_eq m24).trans ?_
  refine (zLet_eq c7.symm).trans ?_
  refine (zLet_eq c8.symm).trans ?_
  refine (zLet_eq (show fn7 [] (γ 8) = (0, 0, γ 9) from l6.symm)).trans ?_
  refine (zLet_eq (show _ = γ 9 from rfl)).trans ?_
  refine (zLet_eq m28).trans ?_
  refine (if_neg w_1).trans ?_
  refine (zLet_eq (show fn6 [ρ 28] (γ 9) = (0, (-1), γ 10) from l7.symm)).trans ?_
  refine (zLet_eq (show _ = γ 10 from rfl)).trans ?_
  refine (if_neg w_2).trans ?_
  refine (zLet_eq (show fn9 [(-1)] (γ 10) = (0, 0, γ 11) from l8.symm)).trans ?_
  refine (zLet_eq (show _ = γ 11 from rfl)).trans ?_
  refine (zLet_eq (show fn40 [ρ 18] (γ 11) = (0, 0, γ 12) from l9.symm)).trans ?_
  refine (zLet_eq (show _ = γ 12 from rfl)).trans ?_
  rfl
theorem vn42_18 {S : Nat → zSpc} (hS6 : ∀ x g o v gz, S 6 x g o v gz → sn6 x g o v gz) (hS7 : ∀ x g o v gz, S 7 x g o v gz → sn7 x g o v gz) (hS8 : ∀ x g o v gz, S 8 x g o v gz → sn8 x g o v gz) (hS9 : ∀ x g o v gz, S 9 x g o v gz → sn9 x g o v gz) (hS12 : ∀ x g o v gz, S 12 x g o v gz → sn12 x g o v gz) (hS13 : ∀ x g o v gz, S 13 x g o v gz → sn13 x g o v gz) (hS15 : ∀ x g o v gz, S 15 x g o v gz → sn15 x g o v gz) (hS18 : ∀ x g o v gz, S 18 x g o v gz → sn18 x g o v gz) (hS20 : ∀ x g o v gz, S 20 x g o v gz → sn20 x g o v gz) (hS23 : ∀ x g o v gz, S 23 x g o v gz → sn23 x g o v gz) (hS33 : ∀ x g o v gz, S 33 x g o v gz → sn33 x g o v gz) (hS34 : ∀ x g o v gz, S 34 x g o v gz → sn34 x g o v gz) (hS40 : ∀ x g o v gz, S 40 x g o v gz → sn40 x g o v gz) (hS41 : ∀ x g o v gz, S 41 x g o v gz → sn41 x g o v gz) {a : List Int} {g : rHp} : ∀ (ρ : Nat → Int) (γ : Nat → rHp), zO 18 S a g q42_18 ρ γ → zGl (fun _ _ _ => True) (sn42 a g) q42_18 ρ γ := by
  intro ρ γ h
  obtain ⟨ha, hg, hr, hf, hm, hc, hl⟩ := h
  have ha : a = [ρ 0, ρ 1, ρ 2, ρ 3, ρ 4, ρ 5, ρ 6, ρ 7, ρ 8, ρ 9, ρ 10, ρ 11, ρ 12, ρ 13, ρ 14, ρ 15, ρ 16, ρ 17] := ha
  subst ha
  subst hg
  obtain ⟨-, -, -, -, -, -, -, -, -, -, -, -, -, -, -, -, -, -, -, r19, -⟩ := hr
  have r19 : (97 : Int) ≤ ρ 19 ∧ ρ 19 ≤ 122 := r19
  obtain ⟨f0, -⟩ := hf
  have f0 : (0 : Int) ≤ -ρ 18 + ρ 1 + (-1) := f0
  obtain ⟨w_0, w_1⟩ : (0 ≤ -ρ 18 + ρ 1 + (-1)) ∧ (ρ 19 ≠ 33) := ⟨by omega, by omega⟩
  obtain ⟨-, m1, -, -, -, -, -, -, m8, m9, -, -, -, -, -, -, -, m17, m18, -⟩ := hm
  have m1 : γ 0 15 0 34 = ρ 1 := m1
  have m8 : γ 0 15 0 44 = ρ 8 := m8
  have m9 : γ 0 73 0 (ρ 8) = ρ 9 := m9
  have m17 : γ 0 15 0 45 = ρ 17 := m17
  have m18 : γ 1 15 0 35 = ρ 18 := m18
  obtain ⟨⟨⟨⟨-, c3⟩, -⟩, -⟩, -⟩ := hc
  have c3 : γ 3 = rUp (γ 2) 79 0 (ρ 9 + 8 * ρ 8) (ρ 17) := c3
  obtain ⟨l0, l1, l2, l3, l4, l5, -⟩ := hl
  have l0 : sn7 [ρ 0, ρ 1] (γ 0) 0 0 (γ 1) := hS7 _ _ _ _ _ l0
  have l1 : sn33 [ρ 8, ρ 9] (γ 1) 0 (ρ 9 + 8 * ρ 8) (γ 2) := hS33 _ _ _ _ _ l1
  have l2 : sn6 [ρ 18, ρ 1] (γ 3) 0 (ρ 19) (γ 4) := hS6 _ _ _ _ _ l2
  have l3 : ρ 19 ≠ 33 := l3
  have l4 : sn9 [ρ 19] (γ 4) 0 1 (γ 5) := hS9 _ _ _ _ _ l4
  have l5 : sn12 [ρ 18, ρ 1, ρ 14, ρ 13, ρ 15] (γ 5) 0 0 (γ 6) := hS12 _ _ _ _ _ l5
  show sn42 [ρ 0, ρ 1, ρ 2, ρ 3, ρ 4, ρ 5, ρ 6, ρ 7, ρ 8, ρ 9, ρ 10, ρ 11, ρ 12, ρ 13, ρ 14, ρ 15, ρ 16, ρ 17] (γ 0) 0 0 (γ 6)
  refine Eq.symm ?_
  show fn42 [] (γ 0) = _
  unfold fn42
  refine (zLet_eq m1).trans ?_
  refine (zLet_eq m8).trans ?_
  refine (zLet_eq m9).trans ?_
  refine (zLet_eq m17).trans ?_
  refine (zLet_eq (show fn7 [] (γ 0) = (0, 0, γ 1) from l0.symm)).trans ?_
  refine (zLet_eq (show _ = γ 1 from rfl)).trans ?_
  refine (zLet_eq m18).trans ?_
  refine (zLet_eq (show fn33 [] (γ 1) = (0, ρ 9 + 8 * ρ 8, γ 2) from l1.symm)).trans ?_
  refine (zLet_eq (show _ = γ 2 from rfl)).trans ?_
  refine (zLet_eq c3.symm).trans ?_
  refine (zLet_eq (show fn6 [ρ 18] (γ 3) = (0, ρ 19, γ 4) from l2.symm)).trans ?_
  refine (zLet_eq (show _ = γ 4 from rfl)).trans ?_
  refine (if_pos w_0).trans ?_
  refine (zLet_eq (show _ = ρ 19 from rfl)).trans ?_
  refine (if_pos w_1).trans ?_
  refine (zLet_eq (show fn9 [ρ 19] (γ 4) = (0, 1, γ 5) from l4.symm)).trans ?_
  refine (zLet_eq (show _ = γ 5 from rfl)).trans ?_
  refine (if_pos zQ1_).trans ?_
  refine (zLet_eq (show fn12 [] (γ 5) = (0, 0, γ 6) from l5.symm)).trans ?_
  refine (zLet_eq (show _ = γ 6 from rfl)).trans ?_
  refine (if_neg zQ0_).trans ?_
  rfl
theorem vn42_19 {S : Nat → zSpc} (hS6 : ∀ x g o v gz, S 6 x g o v gz → sn6 x g o v gz) (hS7 : ∀ x g o v gz, S 7 x g o v gz → sn7 x g o v gz) (hS8 : ∀ x g o v gz, S 8 x g o v gz → sn8 x g o v gz) (hS9 : ∀ x g o v gz, S 9 x g o v gz → sn9 x g o v gz) (hS12 : ∀ x g o v gz, S 12 x g o v gz → sn12 x g o v gz) (hS13 : ∀ x g o v gz, S 13 x g o v gz → sn13 x g o v gz) (hS15 : ∀ x g o v gz, S 15 x g o v gz → sn15 x g o v gz) (hS18 : ∀ x g o v gz, S 18 x g o v gz → sn18 x g o v gz) (hS20 : ∀ x g o v gz, S 20 x g o v gz → sn20 x g o v gz) (hS23 : ∀ x g o v gz, S 23 x g o v gz → sn23 x g o v gz) (hS33 : ∀ x g o v gz, S 33 x g o v gz → sn33 x g o v gz) (hS34 : ∀ x g o v gz, S 34 x g o v gz → sn34 x g o v gz) (hS40 : ∀ x g o v gz, S 40 x g o v gz → sn40 x g o v gz) (hS41 : ∀ x g o v gz, S 41 x g o v gz → sn41 x g o v gz) {a : List Int} {g : rHp} : ∀ (ρ : Nat → Int) (γ : Nat → rHp), zO 18 S a g q42_19 ρ γ → zGl (fun _ _ _ => True) (sn42 a g) q42_19 ρ γ := by
  intro ρ γ h
  obtain ⟨ha, hg, hr, hf, hm, hc, hl⟩ := h
  have ha : a = [ρ 0, ρ 1, ρ 2, ρ 3, ρ 4, ρ 5, ρ 6, ρ 7, ρ 8, ρ 9, ρ 10, ρ 11, ρ 12, ρ 13, ρ 14, ρ 15, ρ 16, ρ 17] := ha
  subst ha
  subst hg
  obtain ⟨-, -, -, -, -, -, -, -, -, -, -, -, -, -, -, -, -, -, -, r19, -, -, -, r23, -⟩ := hr
  have r19 : (97 : Int) ≤ ρ 19 ∧ ρ 19 ≤ 122 := r19
  have r23 : ((-128) : Int) ≤ ρ 23 ∧ ρ 23 ≤ 127 := r23
  obtain ⟨-, -, -, -, -, -, -, -, -, -, -, -, -, -, -, -, -, -, -, -, -, f21, -, -, f24, -⟩ := hf
  have f21 : (0 : Int) ≤ -ρ 22 + ρ 1 + (-1) := f21
  have f24 : (0 : Int) ≤ -ρ 18 + ρ 1 + (-1) := f24
  obtain ⟨w_0, w_1, w_2⟩ : (0 ≤ -ρ 18 + ρ 1 + (-1)) ∧ (ρ 19 ≠ 33) ∧ (0 ≤ -ρ 22 + ρ 1 + (-1)) := ⟨by omega, by omega, by omega⟩
  obtain ⟨-, m1, -, -, -, -, -, -, m8, m9, -, -, -, -, -, -, -, m17, m18, -, -, -, -, m23, -⟩ := hm
  have m1 : γ 0 15 0 34 = ρ 1 := m1
  have m8 : γ 0 15 0 44 = ρ 8 := m8
  have m9 : γ 0 73 0 (ρ 8) = ρ 9 := m9
  have m17 : γ 0 15 0 45 = ρ 17 := m17
  have m18 : γ 1 15 0 35 = ρ 18 := m18
  have m23 : γ 7 15 0 35 = ρ 22 := m23
  obtain ⟨⟨⟨⟨⟨⟨⟨⟨⟨⟨⟨⟨⟨-, c3⟩, -⟩, -⟩, -⟩, -⟩, -⟩, -⟩, c10⟩, c11⟩, c12⟩, c13⟩, -⟩, -⟩ := hc
  have c3 : γ 3 = rUp (γ 2) 79 0 (ρ 9 + 8 * ρ 8) (ρ 17) := c3
  have c10 : γ 10 = rUp (γ 9) 15 0 39 (ρ 24) := c10
  have c11 : γ 11 = rUp (γ 10) 15 0 40 0 := c11
  have c12 : γ 12 = rUp (γ 11) 80 0 (4 * ρ 9 + 32 * ρ 8) 0 := c12
  have c13 : γ 13 = rUp (γ 12) 81 0 (4 * ρ 9 + 32 * ρ 8) (ρ 24) := c13
  obtain ⟨l0, l1, l2, l3, l4, l5, l6, l7, l8, l9, l10, l11, -⟩ := hl
  have l0 : sn7 [ρ 0, ρ 1] (γ 0) 0 0 (γ 1) := hS7 _ _ _ _ _ l0
  have l1 : sn33 [ρ 8, ρ 9] (γ 1) 0 (ρ 9 + 8 * ρ 8) (γ 2) := hS33 _ _ _ _ _ l1
  have l2 : sn6 [ρ 18, ρ 1] (γ 3) 0 (ρ 19) (γ 4) := hS6 _ _ _ _ _ l2
  have l3 : ρ 19 ≠ 33 := l3
  have l4 : sn9 [ρ 19] (γ 4) 0 1 (γ 5) := hS9 _ _ _ _ _ l4
  have l5 : sn12 [ρ 18, ρ 1, ρ 14, ρ 13, ρ 15] (γ 5) 0 1 (γ 6) := hS12 _ _ _ _ _ l5
  have l6 : sn7 [ρ 20, ρ 1] (γ 6) 0 0 (γ 7) := hS7 _ _ _ _ _ l6
  have l7 : sn6 [ρ 22, ρ 1] (γ 7) 0 (ρ 23) (γ 8) := hS6 _ _ _ _ _ l7
  have l8 : ρ 23 ≠ 40 := l8
  have l9 : sn15 [ρ 1, ρ 2, ρ 3, ρ 18, ρ 21] (γ 8) 0 (ρ 24) (γ 9) := hS15 _ _ _ _ _ l9
  have l10 : sn7 [ρ 22, ρ 1] (γ 13) 0 0 (γ 14) := hS7 _ _ _ _ _ l10
  have l11 : sn40 [ρ 18, ρ 27, ρ 1, ρ 25, ρ 26, ρ 6, ρ 7, ρ 8, ρ 9, ρ 10, ρ 24, ρ 13, ρ 18, ρ 21, 0, ρ 17] (γ 14) 0 0 (γ 15) := hS40 _ _ _ _ _ l11
  have wl_0 : ρ 23 ≠ 40 := by omega
  show sn42 [ρ 0, ρ 1, ρ 2, ρ 3, ρ 4, ρ 5, ρ 6, ρ 7, ρ 8, ρ 9, ρ 10, ρ 11, ρ 12, ρ 13, ρ 14, ρ 15, ρ 16, ρ 17] (γ 0) 0 0 (γ 15)
  refine Eq.symm ?_
  show fn42 [] (γ 0) = _
  unfold fn42
  refine (zLet_eq m1).trans ?_
  refine (zLet_eq m8).trans ?_
  refine (zLet_eq m9).trans ?_
  refine (zLet_eq m17).trans ?_
  refine (zLet_eq (show fn7 [] (γ 0) = (0, 0, γ 1) from l0.symm)).trans ?_
  refine (zLet_eq (show _ = γ 1 from rfl)).trans ?_
  refine (zLet_eq m18).trans ?_
  refine (zLet_eq (show fn33 [] (γ 1) = (0, ρ 9 + 8 * ρ 8, γ 2) from l1.symm)).trans ?_
  refine (zLet_eq (show _ = γ 2 from rfl)).trans ?_
  refine (zLet_eq c3.symm).trans ?_
  refine (zLet_eq (show fn6 [ρ 18] (γ 3) = (0, ρ 19, γ 4) from l2.symm)).trans ?_
  refine (zLet_eq (show _ = γ 4 from rfl)).trans ?_
  refine (if_pos w_0).trans ?_
  refine (zLet_eq (show _ = ρ 19 from rfl)).trans ?_
  refine (if_pos w_1).trans ?_
  refine (zLet_eq (show fn9 [ρ 19] (γ 4) = (0, 1, γ 5) from l4.symm)).trans ?_
  refine (zLet_eq (show _ = γ 5 from rfl)).trans ?_
  refine (if_pos zQ1_).trans ?_
  refine (zLet_eq (show fn12 [] (γ 5) = (0, 1, γ 6) from l5.symm)).trans ?_
  refine (zLet_eq (show _ = γ 6 from rfl)).trans ?_
  refine (if_pos zQ1_).trans ?_
  refine (zLet_eq (show fn7 [] (γ 6) = (0, 0, γ 7) from l6.symm)).trans ?_
  refine (zLet_eq (show _ = γ 7 from rfl)).trans ?_
  refine (zLet_eq m23).trans ?_
  refine (zLet_eq (show fn6 [ρ 22] (γ 7) = (0, ρ 23, γ 8) from l7.symm)).trans ?_
  refine (zLet_eq (show _ = γ 8 from rfl)).trans ?_
  refine (if_pos w_2).trans ?_
  refine (zLet_eq (show _ = ρ 23 from rfl)).trans ?_
  refine (if_pos wl_0).trans ?_
  refine (zLet_eq (show fn15 [] (γ 8) = (0, ρ 24, γ 9) from l9.symm)).trans ?_
  refine (zLet_eq (show _ = γ 9 from rfl)).trans ?_
  refine (zLet_eq (show _ = ρ 24 from rfl)).trans ?_
  refine (zLet_eq c10.symm).trans ?_
  refine (zLet_eq c11.symm).trans ?_
  refine (zLet_eq c12.symm).trans ?_
  refine (zLet_eq c13.symm).trans ?_
  refine (zLet_eq (show fn7 [] (γ 13) = (0, 0, γ 14) from l10.symm)).trans ?_
  refine (zLet_eq (show _ = γ 14 from rfl)).trans ?_
  refine (zLet_eq (show fn40 [ρ 18] (γ 14) = (0, 0, γ 15) from l11.symm)).trans ?_
  refine (zLet_eq (show _ = γ 15 from rfl)).trans ?_
  refine (if_neg zQ0_).trans ?_
  rfl
theorem vn42_20 {S : Nat → zSpc} (hS6 : ∀ x g o v gz, S 6 x g o v gz → sn6 x g o v gz) (hS7 : ∀ x g o v gz, S 7 x g o v gz → sn7 x g o v gz) (hS8 : ∀ x g o v gz, S 8 x g o v gz → sn8 x g o v gz) (hS9 : ∀ x g o v gz, S 9 x g o v gz → sn9 x g o v gz) (hS12 : ∀ x g o v gz, S 12 x g o v gz → sn12 x g o v gz) (hS13 : ∀ x g o v gz, S 13 x g o v gz → sn13 x g o v gz) (hS15 : ∀ x g o v gz, S 15 x g o v gz → sn15 x g o v gz) (hS18 : ∀ x g o v gz, S 18 x g o v gz → sn18 x g o v gz) (hS20 : ∀ x g o v gz, S 20 x g o v gz → sn20 x g o v gz) (hS23 : ∀ x g o v gz, S 23 x g o v gz → sn23 x g o v gz) (hS33 : ∀ x g o v gz, S 33 x g o v gz → sn33 x g o v gz) (hS34 : ∀ x g o v gz, S 34 x g o v gz → sn34 x g o v gz) (hS40 : ∀ x g o v gz, S 40 x g o v gz → sn40 x g o v gz) (hS41 : ∀ x g o v gz, S 41 x g o v gz → sn41 x g o v gz) {a : List Int} {g : rHp} : ∀ (ρ : Nat → Int) (γ : Nat → rHp), zO 18 S a g q42_20 ρ γ → zGl (fun _ _ _ => True) (sn42 a g) q42_20 ρ γ := by
  intro ρ γ h
  obtain ⟨ha, hg, hr, hf, hm, hc, hl⟩ := h
  have ha : a = [ρ 0, ρ 1, ρ 2, ρ 3, ρ 4, ρ 5, ρ 6, ρ 7, ρ 8, ρ 9, ρ 10, ρ 11, ρ 12, ρ 13, ρ 14, ρ 15, ρ 16, ρ 17] := ha
  subst ha
  subst hg
  obtain ⟨-, -, -, -, -, -, -, -, -, -, -, -, -, -, -, -, -, -, -, r19, -, -, -, r23, -⟩ := hr
  have r19 : (97 : Int) ≤ ρ 19 ∧ ρ 19 ≤ 122 := r19
  have r23 : ((-128) : Int) ≤ ρ 23 ∧ ρ 23 ≤ 127 := r23
  obtain ⟨-, -, -, -, -, -, -, -, -, -, -, -, -, -, -, -, -, -, -, -, -, -, f22, -, -, f25, -⟩ := hf
  have f22 : (0 : Int) ≤ -ρ 22 + ρ 1 + (-1) := f22
  have f25 : (0 : Int) ≤ -ρ 18 + ρ 1 + (-1) := f25
  obtain ⟨w_0, w_1, w_2⟩ : (0 ≤ -ρ 18 + ρ 1 + (-1)) ∧ (ρ 19 ≠ 33) ∧ (0 ≤ -ρ 22 + ρ 1 + (-1)) := ⟨by omega, by omega, by omega⟩
  obtain ⟨-, m1, -, -, -, -, -, -, m8, m9, -, -, -, -, -, -, -, m17, m18, -, -, -, -, m23, -⟩ := hm
  have m1 : γ 0 15 0 34 = ρ 1 := m1
  have m8 : γ 0 15 0 44 = ρ 8 := m8
  have m9 : γ 0 73 0 (ρ 8) = ρ 9 := m9
  have m17 : γ 0 15 0 45 = ρ 17 := m17
  have m18 : γ 1 15 0 35 = ρ 18 := m18
  have m23 : γ 7 15 0 35 = ρ 22 := m23
  obtain ⟨⟨⟨⟨⟨⟨⟨⟨⟨⟨⟨⟨⟨-, c3⟩, -⟩, -⟩, -⟩, -⟩, -⟩, -⟩, c10⟩, c11⟩, c12⟩, c13⟩, -⟩, -⟩ := hc
  have c3 : γ 3 = rUp (γ 2) 79 0 (ρ 9 + 8 * ρ 8) (ρ 17) := c3
  have c10 : γ 10 = rUp (γ 9) 15 0 39 (ρ 24) := c10
  have c11 : γ 11 = rUp (γ 10) 15 0 40 0 := c11
  have c12 : γ 12 = rUp (γ 11) 80 0 (4 * ρ 9 + 32 * ρ 8) 0 := c12
  have c13 : γ 13 = rUp (γ 12) 81 0 (4 * ρ 9 + 32 * ρ 8) (ρ 24) := c13
  obtain ⟨l0, l1, l2, l3, l4, l5, l6, l7, l8, l9, l10, l11, -⟩ := hl
  have l0 : sn7 [ρ 0, ρ 1] (γ 0) 0 0 (γ 1) := hS7 _ _ _ _ _ l0
  have l1 : sn33 [ρ 8, ρ 9] (γ 1) 0 (ρ 9 + 8 * ρ 8) (γ 2) := hS33 _ _ _ _ _ l1
  have l2 : sn6 [ρ 18, ρ 1] (γ 3) 0 (ρ 19) (γ 4) := hS6 _ _ _ _ _ l2
  have l3 : ρ 19 ≠ 33 := l3
  have l4 : sn9 [ρ 19] (γ 4) 0 1 (γ 5) := hS9 _ _ _ _ _ l4
  have l5 : sn12 [ρ 18, ρ 1, ρ 14, ρ 13, ρ 15] (γ 5) 0 1 (γ 6) := hS12 _ _ _ _ _ l5
  have l6 : sn7 [ρ 20, ρ 1] (γ 6) 0 0 (γ 7) := hS7 _ _ _ _ _ l6
  have l7 : sn6 [ρ 22, ρ 1] (γ 7) 0 (ρ 23) (γ 8) := hS6 _ _ _ _ _ l7
  have l8 : ρ 23 ≠ 40 := l8
  have l9 : sn15 [ρ 1, ρ 2, ρ 3, ρ 18, ρ 21] (γ 8) 0 (ρ 24) (γ 9) := hS15 _ _ _ _ _ l9
  have l10 : sn7 [ρ 22, ρ 1] (γ 13) 0 0 (γ 14) := hS7 _ _ _ _ _ l10
  have l11 : sn40 [ρ 18, ρ 27, ρ 1, ρ 25, ρ 26, ρ 6, ρ 7, ρ 8, ρ 9, ρ 10, ρ 24, ρ 13, ρ 18, ρ 21, 0, ρ 17] (γ 14) 0 1 (γ 15) := hS40 _ _ _ _ _ l11
  have wl_0 : ρ 23 ≠ 40 := by omega
  show sn42 [ρ 0, ρ 1, ρ 2, ρ 3, ρ 4, ρ 5, ρ 6, ρ 7, ρ 8, ρ 9, ρ 10, ρ 11, ρ 12, ρ 13, ρ 14, ρ 15, ρ 16, ρ 17] (γ 0) 0 1 (γ 15)
  refine Eq.symm ?_
  show fn42 [] (γ 0) = _
  unfold fn42
  refine (zLet_eq m1).trans ?_
  refine (zLet_eq m8).trans ?_
  refine (zLet_eq m9).trans ?_
  refine (zLet_eq m17).trans ?_
  refine (zLet_eq (show fn7 [] (γ 0) = (0, 0, γ 1) from l0.symm)).trans ?_
  refine (zLet_eq (show _ = γ 1 from rfl)).trans ?_
  refine (zLet_eq m18).trans ?_
  refine (zLet_eq (show fn33 [] (γ 1) = (0, ρ 9 + 8 * ρ 8, γ 2) from l1.symm)).trans ?_
  refine (zLet_eq (show _ = γ 2 from rfl)).trans ?_
  refine (zLet_eq c3.symm).trans ?_
  refine (zLet_eq (show fn6 [ρ 18] (γ 3) = (0, ρ 19, γ 4) from l2.symm)).trans ?_
  refine (zLet_eq (show _ = γ 4 from rfl)).trans ?_
  refine (if_pos w_0).trans ?_
  refine (zLet_eq (show _ = ρ 19 from rfl)).trans ?_
  refine (if_pos w_1).trans ?_
  refine (zLet_eq (show fn9 [ρ 19] (γ 4) = (0, 1, γ 5) from l4.symm)).trans ?_
  refine (zLet_eq (show _ = γ 5 from rfl)).trans ?_
  refine (if_pos zQ1_).trans ?_
  refine (zLet_eq (show fn12 [] (γ 5) = (0, 1, γ 6) from l5.symm)).trans ?_
  refine (zLet_eq (show _ = γ 6 from rfl)).trans ?_
  refine (if_pos zQ1_).trans ?_
  refine (zLet_eq (show fn7 [] (γ 6) = (0, 0, γ 7) from l6.symm)).trans ?_
  refine (zLet_eq (show _ = γ 7 from rfl)).trans ?_
  refine (zLet_eq m23).trans ?_
  refine (zLet_eq (show fn6 [ρ 22] (γ 7) = (0, ρ 23, γ 8) from l7.symm)).trans ?_
  refine (zLet_eq (show _ = γ 8 from rfl)).trans ?_
  refine (if_pos w_2).trans ?_
  refine (zLet_eq (show _ = ρ 23 from rfl)).trans ?_
  refine (if_pos wl_0).trans ?_
  refine (zLet_eq (show fn15 [] (γ 8) = (0, ρ 24, γ 9) from l9.symm)).trans ?_
  refine (zLet_eq (show _ = γ 9 from rfl)).trans ?_
  refine (zLet_eq (show _ = ρ 24 from rfl)).trans ?_
  refine (zLet_eq c10.symm).trans ?_
  refine (zLet_eq c11.symm).trans ?_
  refine (zLet_eq c12.symm).trans ?_
  refine (zLet_eq c13.symm).trans ?_
  refine (zLet_eq (show fn7 [] (γ 13) = (0, 0, γ 14) from l10.symm)).trans ?_
  refine (zLet_eq (show _ = γ 14 from rfl)).trans ?_
  refine (zLet_eq (show fn40 [ρ 18] (γ 14) = (0, 1, γ 15) from l11.symm)).trans ?_
  refine (zLet_eq (show _ = γ 15 from rfl)).trans ?_
  refine (if_pos zQ1_).trans ?_
  rfl
theorem vn42_21 {S : Nat → zSpc} (hS6 : ∀ x g o v gz, S 6 x g o v gz → sn6 x g o v gz) (hS7 : ∀ x g o v gz, S 7 x g o v gz → sn7 x g o v gz) (hS8 : ∀ x g o v gz, S 8 x g o v gz → sn8 x g o v gz) (hS9 : ∀ x g o v gz, S 9 x g o v gz → sn9 x g o v gz) (hS12 : ∀ x g o v gz, S 12 x g o v gz → sn12 x g o v gz) (hS13 : ∀ x g o v gz, S 13 x g o v gz → sn13 x g o v gz) (hS15 : ∀ x g o v gz, S 15 x g o v gz → sn15 x g o v gz) (hS18 : ∀ x g o v gz, S 18 x g o v gz → sn18 x g o v gz) (hS20 : ∀ x g o v gz, S 20 x g o v gz → sn20 x g o v gz) (hS23 : ∀ x g o v gz, S 23 x g o v gz → sn23 x g o v gz) (hS33 : ∀ x g o v gz, S 33 x g o v gz → sn33 x g o v gz) (hS34 : ∀ x g o v gz, S 34 x g o v gz → sn34 x g o v gz) (hS40 : ∀ x g o v gz, S 40 x g o v gz → sn40 x g o v gz) (hS41 : ∀ x g o v gz, S 41 x g o v gz → sn41 x g o v gz) {a : List Int} {g : rHp} : ∀ (ρ : Nat → Int) (γ : Nat → rHp), zO 18 S a g q42_21 ρ γ → zGl (fun _ _ _ => True) (sn42 a g) q42_21 ρ γ := by
  intro ρ γ h
  obtain ⟨ha, hg, hr, hf, hm, hc, hl⟩ := h
  have ha : a = [ρ 0, ρ 1, ρ 2, ρ 3, ρ 4, ρ 5, ρ 6, ρ 7, ρ 8, ρ 9, ρ 10, ρ 11, ρ 12, ρ 13, ρ 14, ρ 15, ρ 16, ρ 17] := ha
  subst ha
  subst hg
  obtain ⟨-, -, -, -, -, -, -, -, -, -, -, -, -, -, -, -, -, -, -, r19, -, -, -, r23, -⟩ := hr
  have r19 : (97 : Int) ≤ ρ 19 ∧ ρ 19 ≤ 122 := r19
  have r23 : (40 : Int) ≤ ρ 23 ∧ ρ 23 ≤ 40 := r23
  obtain ⟨-, -, f2, -, -, -, -, -, -, -, -, -, -, -, -, -, -, -, f18, -⟩ := hf
  have f2 : (0 : Int) ≤ -ρ 22 + ρ 1 + (-1) := f2
  have f18 : (0 : Int) ≤ -ρ 18 + ρ 1 + (-1) := f18
  obtain ⟨w_0, w_1, w_2, w_3⟩ : (0 ≤ -ρ 18 + ρ 1 + (-1)) ∧ (ρ 19 ≠ 33) ∧ (0 ≤ -ρ 22 + ρ 1 + (-1)) ∧ (¬ (ρ 23 ≠ 40)) := ⟨by omega, by omega, by omega, by omega⟩
  obtain ⟨-, m1, -, -, -, -, -, -, m8, m9, -, -, -, -, -, -, -, m17, m18, -, -, -, -, m23, -⟩ := hm
  have m1 : γ 0 15 0 34 = ρ 1 := m1
  have m8 : γ 0 15 0 44 = ρ 8 := m8
  have m9 : γ 0 73 0 (ρ 8) = ρ 9 := m9
  have m17 : γ 0 15 0 45 = ρ 17 := m17
  have m18 : γ 1 15 0 35 = ρ 18 := m18
  have m23 : γ 7 15 0 35 = ρ 22 := m23
  obtain ⟨⟨⟨⟨⟨⟨⟨-, c3⟩, -⟩, -⟩, -⟩, -⟩, -⟩, -⟩ := hc
  have c3 : γ 3 = rUp (γ 2) 79 0 (ρ 9 + 8 * ρ 8) (ρ 17) := c3
  obtain ⟨l0, l1, l2, l3, l4, l5, l6, l7, l8, -⟩ := hl
  have l0 : sn7 [ρ 0, ρ 1] (γ 0) 0 0 (γ 1) := hS7 _ _ _ _ _ l0
  have l1 : sn33 [ρ 8, ρ 9] (γ 1) 0 (ρ 9 + 8 * ρ 8) (γ 2) := hS33 _ _ _ _ _ l1
  have l2 : sn6 [ρ 18, ρ 1] (γ 3) 0 (ρ 19) (γ 4) := hS6 _ _ _ _ _ l2
  have l3 : ρ 19 ≠ 33 := l3
  have l4 : sn9 [ρ 19] (γ 4) 0 1 (γ 5) := hS9 _ _ _ _ _ l4
  have l5 : sn12 [ρ 18, ρ 1, ρ 14, ρ 13, ρ 15] (γ 5) 0 1 (γ 6) := hS12 _ _ _ _ _ l5
  have l6 : sn7 [ρ 20, ρ 1] (γ 6) 0 0 (γ 7) := hS7 _ _ _ _ _ l6
  have l7 : sn6 [ρ 22, ρ 1] (γ 7) 0 (ρ 23) (γ 8) := hS6 _ _ _ _ _ l7
  have l8 : sn41 [0, ρ 22, ρ 1, ρ 2, ρ 3, ρ 4, ρ 18, ρ 21, ρ 5, ρ 6, ρ 7, ρ 8, ρ 9, ρ 10, ρ 11, ρ 12, ρ 13, ρ 16, ρ 17] (γ 8) 0 0 (γ 9) := hS41 _ _ _ _ _ l8
  show sn42 [ρ 0, ρ 1, ρ 2, ρ 3, ρ 4, ρ 5, ρ 6, ρ 7, ρ 8, ρ 9, ρ 10, ρ 11, ρ 12, ρ 13, ρ 14, ρ 15, ρ 16, ρ 17] (γ 0) 0 0 (γ 9)
  refine Eq.symm ?_
  show fn42 [] (γ 0) = _
  unfold fn42
  refine (zLet_eq m1).trans ?_
  refine (zLet_eq m8).trans ?_
  refine (zLet_eq m9).trans ?_
  refine (zLet_eq m17).trans ?_
  refine (zLet_eq (show fn7 [] (γ 0) = (0, 0, γ 1) from l0.symm)).trans ?_
  refine (zLet_eq (show _ = γ 1 from rfl)).trans ?_
  refine (zLet_eq m18).trans ?_
  refine (zLet_eq (show fn33 [] (γ 1) = (0, ρ 9 + 8 * ρ 8, γ 2) from l1.symm)).trans ?_
  refine (zLet_eq (show _ = γ 2 from rfl)).trans ?_
  refine (zLet_eq c3.symm).trans ?_
  refine (zLet_eq (show fn6 [ρ 18] (γ 3) = (0, ρ 19, γ 4) from l2.symm)).trans ?_
  refine (zLet_eq (show _ = γ 4 from rfl)).trans ?_
  refine (if_pos w_0).trans ?_
  refine (zLet_eq (show _ = ρ 19 from rfl)).trans ?_
  refine (if_pos w_1).trans ?_
  refine (zLet_eq (show fn9 [ρ 19] (γ 4) = (0, 1, γ 5) from l4.symm)).trans ?_
  refine (zLet_eq (show _ = γ 5 from rfl)).trans ?_
  refine (if_pos zQ1_).trans ?_
  refine (zLet_eq (show fn12 [] (γ 5) = (0, 1, γ 6) from l5.symm)).trans ?_
  refine (zLet_eq (show _ = γ 6 from rfl)).trans ?_
  refine (if_pos zQ1_).trans ?_
  refine (zLet_eq (show fn7 [] (γ 6) = (0, 0, γ 7) from l6.symm)).trans ?_
  refine (zLet_eq (show _ = γ 7 from rfl)).trans ?_
  refine (zLet_eq m23).trans ?_
  refine (zLet_eq (show fn6 [ρ 22] (γ 7) = (0, ρ 23, γ 8) from l7.symm)).trans ?_
  refine (zLet_eq (show _ = γ 8 from rfl)).trans ?_
  refine (if_pos w_2).trans ?_
  refine (zLet_eq (show _ = ρ 23 from rfl)).trans ?_
  refine (if_neg w_3).trans ?_
  refine (zLet_eq (show fn41 [0] (γ 8) = (0, 0, γ 9) from l8.symm)).trans ?_
  refine (zLet_eq (show _ = γ 9 from rfl)).trans ?_
  refine (if_neg zQ0_).trans ?_
  rfl
theorem vn42_22 {S : Nat → zSpc} (hS6 : ∀ x g o v gz, S 6 x g o v gz → sn6 x g o v gz) (hS7 : ∀ x g o v gz, S 7 x g o v gz → sn7 x g o v gz) (hS8 : ∀ x g o v gz, S 8 x g o v gz → sn8 x g o v gz) (hS9 : ∀ x g o v gz, S 9 x g o v gz → sn9 x g o v gz) (hS12 : ∀ x g o v gz, S 12 x g o v gz → sn12 x g o v gz) (hS13 : ∀ x g o v gz, S 13 x g o v gz → sn13 x g o v gz) (hS15 : ∀ x g o v gz, S 15 x g o v gz → sn15 x g o v gz) (hS18 : ∀ x g o v gz, S 18 x g o v gz → sn18 x g o v gz) (hS20 : ∀ x g o v gz, S 20 x g o v gz → sn20 x g o v gz) (hS23 : ∀ x g o v gz, S 23 x g o v gz → sn23 x g o v gz) (hS33 : ∀ x g o v gz, S 33 x g o v gz → sn33 x g o v gz) (hS34 : ∀ x g o v gz, S 34 x g o v gz → sn34 x g o v gz) (hS40 : ∀ x g o v gz, S 40 x g o v gz → sn40 x g o v gz) (hS41 : ∀ x g o v gz, S 41 x g o v gz → sn41 x g o v gz) {a : List Int} {g : rHp} : ∀ (ρ : Nat → Int) (γ : Nat → rHp), zO 18 S a g q42_22 ρ γ → zGl (fun _ _ _ => True) (sn42 a g) q42_22 ρ γ := by
  intro ρ γ h
  obtain ⟨ha, hg, hr, hf, hm, hc, hl⟩ := h
  have ha : a = [ρ 0, ρ 1, ρ 2, ρ 3, ρ 4, ρ 5, ρ 6, ρ 7, ρ 8, ρ 9, ρ 10, ρ 11, ρ 12, ρ 13, ρ 14, ρ 15, ρ 16, ρ 17] := ha
  subst ha
  subst hg
  obtain ⟨-, -, -, -, -, -, -, -, -, -, -, -, -, -, -, -, -, -, -, r19, -, -, -, r23, -⟩ := hr
  have r19 : (97 : Int) ≤ ρ 19 ∧ ρ 19 ≤ 122 := r19
  have r23 : (40 : Int) ≤ ρ 23 ∧ ρ 23 ≤ 40 := r23
  obtain ⟨-, -, f2, -, -, -, -, -, -, -, -, -, -, -, -, -, -, -, -, -, f20, -⟩ := hf
  have f2 : (0 : Int) ≤ -ρ 22 + ρ 1 + (-1) := f2
  have f20 : (0 : Int) ≤ -ρ 18 + ρ 1 + (-1) := f20
  obtain ⟨w_0, w_1, w_2, w_3⟩ : (0 ≤ -ρ 18 + ρ 1 + (-1)) ∧ (ρ 19 ≠ 33) ∧ (0 ≤ -ρ 22 + ρ 1 + (-1)) ∧ (¬ (ρ 23 ≠ 40)) := ⟨by omega, by omega, by omega, by omega⟩
  obtain ⟨-, m1, -, -, -, -, -, -, m8, m9, -, -, -, -, -, -, -, m17, m18, -, -, -, -, m23, -⟩ := hm
  have m1 : γ 0 15 0 34 = ρ 1 := m1
  have m8 : γ 0 15 0 44 = ρ 8 := m8
  have m9 : γ 0 73 0 (ρ 8) = ρ 9 := m9
  have m17 : γ 0 15 0 45 = ρ 17 := m17
  have m18 : γ 1 15 0 35 = ρ 18 := m18
  have m23 : γ 7 15 0 35 = ρ 22 := m23
  obtain ⟨⟨⟨⟨⟨⟨⟨-, c3⟩, -⟩, -⟩, -⟩, -⟩, -⟩, -⟩ := hc
  have c3 : γ 3 = rUp (γ 2) 79 0 (ρ 9 + 8 * ρ 8) (ρ 17) := c3
  obtain ⟨l0, l1, l2, l3, l4, l5, l6, l7, l8, -⟩ := hl
  have l0 : sn7 [ρ 0, ρ 1] (γ 0) 0 0 (γ 1) := hS7 _ _ _ _ _ l0
  have l1 : sn33 [ρ 8, ρ 9] (γ 1) 0 (ρ 9 + 8 * ρ 8) (γ 2) := hS33 _ _ _ _ _ l1
  have l2 : sn6 [ρ 18, ρ 1] (γ 3) 0 (ρ 19) (γ 4) := hS6 _ _ _ _ _ l2
  have l3 : ρ 19 ≠ 33 := l3
  have l4 : sn9 [ρ 19] (γ 4) 0 1 (γ 5) := hS9 _ _ _ _ _ l4
  have l5 : sn12 [ρ 18, ρ 1, ρ 14, ρ 13, ρ 15] (γ 5) 0 1 (γ 6) := hS12 _ _ _ _ _ l5
  have l6 : sn7 [ρ 20, ρ 1] (γ 6) 0 0 (γ 7) := hS7 _ _ _ _ _ l6
  have l7 : sn6 [ρ 22, ρ 1] (γ 7) 0 (ρ 23) (γ 8) := hS6 _ _ _ _ _ l7
  have l8 : sn41 [0, ρ 22, ρ 1, ρ 2, ρ 3, ρ 4, ρ 18, ρ 21, ρ 5, ρ 6, ρ 7, ρ 8, ρ 9, ρ 10, ρ 11, ρ 12, ρ 13, ρ 16, ρ 17] (γ 8) 0 1 (γ 9) := hS41 _ _ _ _ _ l8
  show sn42 [ρ 0, ρ 1, ρ 2, ρ 3, ρ 4, ρ 5, ρ 6, ρ 7, ρ 8, ρ 9, ρ 10, ρ 11, ρ 12, ρ 13, ρ 14, ρ 15, ρ 16, ρ 17] (γ 0) 0 1 (γ 9)
  refine Eq.symm ?_
  show fn42 [] (γ 0) = _
  unfold fn42
  refine (zLet_eq m1).trans ?_
  refine (zLet_eq m8).trans ?_
  refine (zLet_eq m9).trans ?_
  refine (zLet_eq m17).trans ?_
  refine (zLet_eq (show fn7 [] (γ 0) = (0, 0, γ 1) from l0.symm)).trans ?_
  refine (zLet_eq (show _ = γ 1 from rfl)).trans ?_
  refine (zLet_eq m18).trans ?_
  refine (zLet_eq (show fn33 [] (γ 1) = (0, ρ 9 + 8 * ρ 8, γ 2) from l1.symm)).trans ?_
  refine (zLet_eq (show _ = γ 2 from rfl)).trans ?_
  refine (zLet_eq c3.symm).trans ?_
  refine (zLet_eq (show fn6 [ρ 18] (γ 3) = (0, ρ 19, γ 4) from l2.symm)).trans ?_
  refine (zLet_eq (show _ = γ 4 from rfl)).trans ?_
  refine (if_pos w_0).trans ?_
  refine (zLet_eq (show _ = ρ 19 from rfl)).trans ?_
  refine (if_pos w_1).trans ?_
  refine (zLet_eq (show fn9 [ρ 19] (γ 4) = (0, 1, γ 5) from l4.symm)).trans ?_
  refine (zLet_eq (show _ = γ 5 from rfl)).trans ?_
  refine (if_pos zQ1_).trans ?_
  refine (zLet_eq (show fn12 [] (γ 5) = (0, 1, γ 6) from l5.symm)).trans ?_
  refine (zLet_eq (show _ = γ 6 from rfl)).trans ?_
  refine (if_pos zQ1_).trans ?_
  refine (zLet_eq (show fn7 [] (γ 6) = (0, 0, γ 7) from l6.symm)).trans ?_
  refine (zLet_eq (show _ = γ 7 from rfl)).trans ?_
  refine (zLet_eq m23).trans ?_
  refine (zLet_eq (show fn6 [ρ 22] (γ 7) = (0, ρ 23, γ 8) from l7.symm)).trans ?_
  refine (zLet_eq (show _ = γ 8 from rfl)).trans ?_
  refine (if_pos w_2).trans ?_
  refine (zLet_eq (show _ = ρ 23 from rfl)).trans ?_
  refine (if_neg w_3).trans ?_
  refine (zLet_eq (show fn41 [0] (γ 8) = (0, 1, γ 9) from l8.symm)).trans ?_
  refine (zLet_eq (show _ = γ 9 from rfl)).trans ?_
  refine (if_pos zQ1_).trans ?_
  rfl
theorem vn42_23 {S : Nat → zSpc} (hS6 : ∀ x g o v gz, S 6 x g o v gz → sn6 x g o v gz) (hS7 : ∀ x g o v gz, S 7 x g o v gz → sn7 x g o v gz) (hS8 : ∀ x g o v gz, S 8 x g o v gz → sn8 x g o v gz) (hS9 : ∀ x g o v gz, S 9 x g o v gz → sn9 x g o v gz) (hS12 : ∀ x g o v gz, S 12 x g o v gz → sn12 x g o v gz) (hS13 : ∀ x g o v gz, S 13 x g o v gz → sn13 x g o v gz) (hS15 : ∀ x g o v gz, S 15 x g o v gz → sn15 x g o v gz) (hS18 : ∀ x g o v gz, S 18 x g o v gz → sn18 x g o v gz) (hS20 : ∀ x g o v gz, S 20 x g o v gz → sn20 x g o v gz) (hS23 : ∀ x g o v gz, S 23 x g o v gz → sn23 x g o v gz) (hS33 : ∀ x g o v gz, S 33 x g o v gz → sn33 x g o v gz) (hS34 : ∀ x g o v gz, S 34 x g o v gz → sn34 x g o v gz) (hS40 : ∀ x g o v gz, S 40 x g o v gz → sn40 x g o v gz) (hS41 : ∀ x g o v gz, S 41 x g o v gz → sn41 x g o v gz) {a : List Int} {g : rHp} : ∀ (ρ : Nat → Int) (γ : Nat → rHp), zO 18 S a g q42_23 ρ γ → zGl (fun _ _ _ => True) (sn42 a g) q42_23 ρ γ := by
  intro ρ γ h
  obtain ⟨ha, hg, hr, hf, hm, hc, hl⟩ := h
  have ha : a = [ρ 0, ρ 1, ρ 2, ρ 3, ρ 4, ρ 5, ρ 6, ρ 7, ρ 8, ρ 9, ρ 10, ρ 11, ρ 12, ρ 13, ρ 14, ρ 15, ρ 16, ρ 17] := ha
  subst ha
  subst hg
  obtain ⟨-, -, -, -, -, -, -, -, -, -, -, -, -, -, -, -, -, -, -, r19, -⟩ := hr
  have r19 : (97 : Int) ≤ ρ 19 ∧ ρ 19 ≤ 122 := r19
  obtain ⟨-, -, -, -, -, -, -, -, -, -, -, -, -, -, -, -, -, -, -, -, -, f21, -, -, f24, -⟩ := hf
  have f21 : (0 : Int) ≤ ρ 22 + -ρ 1 := f21
  have f24 : (0 : Int) ≤ -ρ 18 + ρ 1 + (-1) := f24
  obtain ⟨w_0, w_1, w_2⟩ : (0 ≤ -ρ 18 + ρ 1 + (-1)) ∧ (ρ 19 ≠ 33) ∧ (¬ (0 ≤ -ρ 22 + ρ 1 + (-1))) := ⟨by omega, by omega, by omega⟩
  obtain ⟨-, m1, -, -, -, -, -, -, m8, m9, -, -, -, -, -, -, -, m17, m18, -, -, -, -, m23, -⟩ := hm
  have m1 : γ 0 15 0 34 = ρ 1 := m1
  have m8 : γ 0 15 0 44 = ρ 8 := m8
  have m9 : γ 0 73 0 (ρ 8) = ρ 9 := m9
  have m17 : γ 0 15 0 45 = ρ 17 := m17
  have m18 : γ 1 15 0 35 = ρ 18 := m18
  have m23 : γ 7 15 0 35 = ρ 22 := m23
  obtain ⟨⟨⟨⟨⟨⟨⟨⟨⟨⟨⟨⟨⟨-, c3⟩, -⟩, -⟩, -⟩, -⟩, -⟩, -⟩, c10⟩, c11⟩, c12⟩, c13⟩, -⟩, -⟩ := hc
  have c3 : γ 3 = rUp (γ 2) 79 0 (ρ 9 + 8 * ρ 8) (ρ 17) := c3
  have c10 : γ 10 = rUp (γ 9) 15 0 39 (ρ 23) := c10
  have c11 : γ 11 = rUp (γ 10) 15 0 40 0 := c11
  have c12 : γ 12 = rUp (γ 11) 80 0 (4 * ρ 9 + 32 * ρ 8) 0 := c12
  have c13 : γ 13 = rUp (γ 12) 81 0 (4 * ρ 9 + 32 * ρ 8) (ρ 23) := c13
  obtain ⟨l0, l1, l2, l3, l4, l5, l6, l7, l8, l9, l10, -⟩ := hl
  have l0 : sn7 [ρ 0, ρ 1] (γ 0) 0 0 (γ 1) := hS7 _ _ _ _ _ l0
  have l1 : sn33 [ρ 8, ρ 9] (γ 1) 0 (ρ 9 + 8 * ρ 8) (γ 2) := hS33 _ _ _ _ _ l1
  have l2 : sn6 [ρ 18, ρ 1] (γ 3) 0 (ρ 19) (γ 4) := hS6 _ _ _ _ _ l2
  have l3 : ρ 19 ≠ 33 := l3
  have l4 : sn9 [ρ 19] (γ 4) 0 1 (γ 5) := hS9 _ _ _ _ _ l4
  have l5 : sn12 [ρ 18, ρ 1, ρ 14, ρ 13, ρ 15] (γ 5) 0 1 (γ 6) := hS12 _ _ _ _ _ l5
  have l6 : sn7 [ρ 20, ρ 1] (γ 6) 0 0 (γ 7) := hS7 _ _ _ _ _ l6
  have l7 : sn6 [ρ 22, ρ 1] (γ 7) 0 (-1) (γ 8) := hS6 _ _ _ _ _ l7
  have l8 : sn15 [ρ 1, ρ 2, ρ 3, ρ 18, ρ 21] (γ 8) 0 (ρ 23) (γ 9) := hS15 _ _ _ _ _ l8
  have l9 : sn7 [ρ 22, ρ 1] (γ 13) 0 0 (γ 14) := hS7 _ _ _ _ _ l9
  have l10 : sn40 [ρ 18, ρ 26, ρ 1, ρ 24, ρ 25, ρ 6, ρ 7, ρ 8, ρ 9, ρ 10, ρ 23, ρ 13, ρ 18, ρ 21, 0, ρ 17] (γ 14) 0 0 (γ 15) := hS40 _ _ _ _ _ l10
  show sn42 [ρ 0, ρ 1, ρ 2, ρ 3, ρ 4, ρ 5, ρ 6, ρ 7, ρ 8, ρ 9, ρ 10, ρ 11, ρ 12, ρ 13, ρ 14, ρ 15, ρ 16, ρ 17] (γ 0) 0 0 (γ 15)
  refine Eq.symm ?_
  show fn42 [] (γ 0) = _
  unfold fn42
  refine (zLet_eq m1).trans ?_
  refine (zLet_eq m8).trans ?_
  refine (zLet_eq m9).trans ?_
  refine (zLet_eq m17).trans ?_
  refine (zLet_eq (show fn7 [] (γ 0) = (0, 0, γ 1) from l0.symm)).trans ?_
  refine (zLet_eq (show _ = γ 1 from rfl)).trans ?_
  refine (zLet_eq m18).trans ?_
  refine (zLet_eq (show fn33 [] (γ 1) = (0, ρ 9 + 8 * ρ 8, γ 2) from l1.symm)).trans ?_
  refine (zLet_eq (show _ = γ 2 from rfl)).trans ?_
  refine (zLet_eq c3.symm).trans ?_
  refine (zLet_eq (show fn6 [ρ 18] (γ 3) = (0, ρ 19, γ 4) from l2.symm)).trans ?_
  refine (zLet_eq (show _ = γ 4 from rfl)).trans ?_
  refine (if_pos w_0).trans ?_
  refine (zLet_eq (show _ = ρ 19 from rfl)).trans ?_
  refine (if_pos w_1).trans ?_
  refine (zLet_eq (show fn9 [ρ 19] (γ 4) = (0, 1, γ 5) from l4.symm)).trans ?_
  refine (zLet_eq (show _ = γ 5 from rfl)).trans ?_
  refine (if_pos zQ1_).trans ?_
  refine (zLet_eq (show fn12 [] (γ 5) = (0, 1, γ 6) from l5.symm)).trans ?_
  refine (zLet_eq (show _ = γ 6 from rfl)).trans ?_
  refine (if_pos zQ1_).trans ?_
  refine (zLet_eq (show fn7 [] (γ 6) = (0, 0, γ 7) from l6.symm)).trans ?_
  refine (zLet_eq (show _ = γ 7 from rfl)).trans ?_
  refine (zLet_eq m23).trans ?_
  refine (zLet_eq (show fn6 [ρ 22] (γ 7) = (0, (-1), γ 8) from l7.symm)).trans ?_
  refine (zLet_eq (show _ = γ 8 from rfl)).trans ?_
  refine (if_neg w_2).trans ?_
  refine (zLet_eq (show fn15 [] (γ 8) = (0, ρ 23, γ 9) from l8.symm)).trans ?_
  refine (zLet_eq (show _ = γ 9 from rfl)).trans ?_
  refine (zLet_eq (show _ = ρ 23 from rfl)).trans ?_
  refine (zLet_eq c10.symm).trans ?_
  refine (zLet_eq c11.symm).trans ?_
  refine (zLet_eq c12.symm).trans ?_
  refine (zLet_eq c13.symm).trans ?_
  refine (zLet_eq (show fn7 [] (γ 13) = (0, 0, γ 14) from l9.symm)).trans ?_
  refine (zLet_eq (show _ = γ 14 from rfl)).trans ?_
  refine (zLet_eq (show fn40 [ρ 18] (γ 14) = (0, 0, γ 15) from l10.symm)).trans ?_
  refine (zLet_eq (show _ = γ 15 from rfl)).trans ?_
  rfl
theorem vn42_24 {S : Nat → zSpc} (hS6 : ∀ x g o v gz, S 6 x g o v gz → sn6 x g o v gz) (hS7 : ∀ x g o v gz, S 7 x g o v gz → sn7 x g o v gz) (hS8 : ∀ x g o v gz, S 8 x g o v gz → sn8 x g o v gz) (hS9 : ∀ x g o v gz, S 9 x g o v gz → sn9 x g o v gz) (hS12 : ∀ x g o v gz, S 12 x g o v gz → sn12 x g o v gz) (hS13 : ∀ x g o v gz, S 13 x g o v gz → sn13 x g o v gz) (hS15 : ∀ x g o v gz, S 15 x g o v gz → sn15 x g o v gz) (hS18 : ∀ x g o v gz, S 18 x g o v gz → sn18 x g o v gz) (hS20 : ∀ x g o v gz, S 20 x g o v gz → sn20 x g o v gz) (hS23 : ∀ x g o v gz, S 23 x g o v gz → sn23 x g o v gz) (hS33 : ∀ x g o v gz, S 33 x g o v gz → sn33 x g o v gz) (hS34 : ∀ x g o v gz, S 34 x g o v gz → sn34 x g o v gz) (hS40 : ∀ x g o v gz, S 40 x g o v gz → sn40 x g o v gz) (hS41 : ∀ x g o v gz, S 41 x g o v gz → sn41 x g o v gz) {a : List Int} {g : rHp} : ∀ (ρ : Nat → Int) (γ : Nat → rHp), zO 18 S a g q42_24 ρ γ → zGl (fun _ _ _ => True) (sn42 a g) q42_24 ρ γ := by
  intro ρ γ h
  obtain ⟨ha, hg, hr, hf, hm, hc, hl⟩ := h
  have ha : a = [ρ 0, ρ 1, ρ 2, ρ 3, ρ 4, ρ 5, ρ 6, ρ 7, ρ 8, ρ 9, ρ 10, ρ 11, ρ 12, ρ 13, ρ 14, ρ 15, ρ 16, ρ 17] := ha
  subst ha
  subst hg
  obtain ⟨-, -, -, -, -, -, -, -, -, -, -, -, -, -, -, -, -, -, -, r19, -⟩ := hr
  have r19 : (33 : Int) ≤ ρ 19 ∧ ρ 19 ≤ 33 := r19
  obtain ⟨f0, -⟩ := hf
  have f0 : (0 : Int) ≤ -ρ 18 + ρ 1 + (-1) := f0
  obtain ⟨w_0, w_1⟩ : (0 ≤ -ρ 18 + ρ 1 + (-1)) ∧ (¬ (ρ 19 ≠ 33)) := ⟨by omega, by omega⟩
  obtain ⟨-, m1, -, -, -, -, -, -, m8, m9, -, -, -, -, -, -, -, m17, m18, -⟩ := hm
  have m1 : γ 0 15 0 34 = ρ 1 := m1
  have m8 : γ 0 15 0 44 = ρ 8 := m8
  have m9 : γ 0 73 0 (ρ 8) = ρ 9 := m9
  have m17 : γ 0 15 0 45 = ρ 17 := m17
  have m18 : γ 1 15 0 35 = ρ 18 := m18
  obtain ⟨⟨⟨⟨-, c3⟩, -⟩, c5⟩, -⟩ := hc
  have c3 : γ 3 = rUp (γ 2) 79 0 (ρ 9 + 8 * ρ 8) (ρ 17) := c3
  have c5 : γ 5 = rUp (γ 4) 15 0 35 (ρ 18 + 1) := c5
  obtain ⟨l0, l1, l2, l3, -⟩ := hl
  have l0 : sn7 [ρ 0, ρ 1] (γ 0) 0 0 (γ 1) := hS7 _ _ _ _ _ l0
  have l1 : sn33 [ρ 8, ρ 9] (γ 1) 0 (ρ 9 + 8 * ρ 8) (γ 2) := hS33 _ _ _ _ _ l1
  have l2 : sn6 [ρ 18, ρ 1] (γ 3) 0 (ρ 19) (γ 4) := hS6 _ _ _ _ _ l2
  have l3 : sn23 [ρ 18 + 1, ρ 1, ρ 13, ρ 14, ρ 15] (γ 5) 0 0 (γ 6) := hS23 _ _ _ _ _ l3
  show sn42 [ρ 0, ρ 1, ρ 2, ρ 3, ρ 4, ρ 5, ρ 6, ρ 7, ρ 8, ρ 9, ρ 10, ρ 11, ρ 12, ρ 13, ρ 14, ρ 15, ρ 16, ρ 17] (γ 0) 0 0 (γ 6)
  refine Eq.symm ?_
  show fn42 [] (γ 0) = _
  unfold fn42
  refine (zLet_eq m1).trans ?_
  refine (zLet_eq m8).trans ?_
  refine (zLet_eq m9).trans ?_
  refine (zLet_eq m17).trans ?_
  refine (zLet_eq (show fn7 [] (γ 0) = (0, 0, γ 1) from l0.symm)).trans ?_
  refine (zLet_eq (show _ = γ 1 from rfl)).trans ?_
  refine (zLet_eq m18).trans ?_
  refine (zLet_eq (show fn33 [] (γ 1) = (0, ρ 9 + 8 * ρ 8, γ 2) from l1.symm)).trans ?_
  refine (zLet_eq (show _ = γ 2 from rfl)).trans ?_
  refine (zLet_eq c3.symm).trans ?_
  refine (zLet_eq (show fn6 [ρ 18] (γ 3) = (0, ρ 19, γ 4) from l2.symm)).trans ?_
  refine (zLet_eq (show _ = γ 4 from rfl)).trans ?_
  refine (if_pos w_0).trans ?_
  refine (zLet_eq (show _ = ρ 19 from rfl)).trans ?_
  refine (if_neg w_1).trans ?_
  refine (zLet_eq c5.symm).trans ?_
  refine (zLet_eq (show fn23 [] (γ 5) = (0, 0, γ 6) from l3.symm)).trans ?_
  refine (zLet_eq (show _ = γ 6 from rfl)).trans ?_
  refine (if_neg zQ0_).trans ?_
  rfl
theorem vn42_25 {S : Nat → zSpc} (hS6 : ∀ x g o v gz, S 6 x g o v gz → sn6 x g o v gz) (hS7 : ∀ x g o v gz, S 7 x g o v gz → sn7 x g o v gz) (hS8 : ∀ x g o v gz, S 8 x g o v gz → sn8 x g o v gz) (hS9 : ∀ x g o v gz, S 9 x g o v gz → sn9 x g o v gz) (hS12 : ∀ x g o v gz, S 12 x g o v gz → sn12 x g o v gz) (hS13 : ∀ x g o v gz, S 13 x g o v gz → sn13 x g o v gz) (hS15 : ∀ x g o v gz, S 15 x g o v gz → sn15 x g o v gz) (hS18 : ∀ x g o v gz, S 18 x g o v gz → sn18 x g o v gz) (hS20 : ∀ x g o v gz, S 20 x g o v gz → sn20 x g o v gz) (hS23 : ∀ x g o v gz, S 23 x g o v gz → sn23 x g o v gz) (hS33 : ∀ x g o v gz, S 33 x g o v gz → sn33 x g o v gz) (hS34 : ∀ x g o v gz, S 34 x g o v gz → sn34 x g o v gz) (hS40 : ∀ x g o v gz, S 40 x g o v gz → sn40 x g o v gz) (hS41 : ∀ x g o v gz, S 41 x g o v gz → sn41 x g o v gz) {a : List Int} {g : rHp} : ∀ (ρ : Nat → Int) (γ : Nat → rHp), zO 18 S a g q42_25 ρ γ → zGl (fun _ _ _ => True) (sn42 a g) q42_25 ρ γ := by
  intro ρ γ h
  obtain ⟨ha, hg, hr, hf, hm, hc, hl⟩ := h
  have ha : a = [ρ 0, ρ 1, ρ 2, ρ 3, ρ 4, ρ 5, ρ 6, ρ 7, ρ 8, ρ 9, ρ 10, ρ 11, ρ 12, ρ 13, ρ 14, ρ 15, ρ 16, ρ 17] := ha
  subst ha
  subst hg
  obtain ⟨-, -, -, -, -, -, -, -, -, -, -, -, -, -, -, -, -, -, -, r19, -, -, -, -, r24, -⟩ := hr
  have r19 : (33 : Int) ≤ ρ 19 ∧ ρ 19 ≤ 33 := r19
  have r24 : ((-128) : Int) ≤ ρ 24 ∧ ρ 24 ≤ 127 := r24
  obtain ⟨-, -, f2, -, -, -, f6, -⟩ := hf
  have f2 : (0 : Int) ≤ -ρ 23 + ρ 1 + (-1) := f2
  have f6 : (0 : Int) ≤ -ρ 18 + ρ 1 + (-1) := f6
  obtain ⟨w_0, w_1, w_2⟩ : (0 ≤ -ρ 18 + ρ 1 + (-1)) ∧ (¬ (ρ 19 ≠ 33)) ∧ (0 ≤ -ρ 23 + ρ 1 + (-1)) := ⟨by omega, by omega, by omega⟩
  obtain ⟨-, m1, -, -, -, -, -, -, m8, m9, -, -, -, -, -, -, -, m17, m18, -, -, -, -, m23, -⟩ := hm
  have m1 : γ 0 15 0 34 = ρ 1 := m1
  have m8 : γ 0 15 0 44 = ρ 8 := m8
  have m9 : γ 0 73 0 (ρ 8) = ρ 9 := m9
  have m17 : γ 0 15 0 45 = ρ 17 := m17
  have m18 : γ 1 15 0 35 = ρ 18 := m18
  have m23 : γ 7 15 0 35 = ρ 23 := m23
  obtain ⟨⟨⟨⟨⟨⟨⟨-, c3⟩, -⟩, c5⟩, -⟩, -⟩, -⟩, -⟩ := hc
  have c3 : γ 3 = rUp (γ 2) 79 0 (ρ 9 + 8 * ρ 8) (ρ 17) := c3
  have c5 : γ 5 = rUp (γ 4) 15 0 35 (ρ 18 + 1) := c5
  obtain ⟨l0, l1, l2, l3, l4, l5, l6, l7, -⟩ := hl
  have l0 : sn7 [ρ 0, ρ 1] (γ 0) 0 0 (γ 1) := hS7 _ _ _ _ _ l0
  have l1 : sn33 [ρ 8, ρ 9] (γ 1) 0 (ρ 9 + 8 * ρ 8) (γ 2) := hS33 _ _ _ _ _ l1
  have l2 : sn6 [ρ 18, ρ 1] (γ 3) 0 (ρ 19) (γ 4) := hS6 _ _ _ _ _ l2
  have l3 : sn23 [ρ 18 + 1, ρ 1, ρ 13, ρ 14, ρ 15] (γ 5) 0 1 (γ 6) := hS23 _ _ _ _ _ l3
  have l4 : sn7 [ρ 20, ρ 1] (γ 6) 0 0 (γ 7) := hS7 _ _ _ _ _ l4
  have l5 : sn6 [ρ 23, ρ 1] (γ 7) 0 (ρ 24) (γ 8) := hS6 _ _ _ _ _ l5
  have l6 : ρ 24 ≠ 40 := l6
  have l7 : sn8 [ρ 23, ρ 1, ρ 13] (γ 8) 0 0 (γ 9) := hS8 _ _ _ _ _ l7
  have wl_0 : ρ 24 ≠ 40 := by omega
  show sn42 [ρ 0, ρ 1, ρ 2, ρ 3, ρ 4, ρ 5, ρ 6, ρ 7, ρ 8, ρ 9, ρ 10, ρ 11, ρ 12, ρ 13, ρ 14, ρ 15, ρ 16, ρ 17] (γ 0) 0 0 (γ 9)
  refine Eq.symm ?_
  show fn42 [] (γ 0) = _
  unfold fn42
  refine (zLet_eq m1).trans ?_
  refine (zLet_eq m8).trans ?_
  refine (zLet_eq m9).trans ?_
  refine (zLet_eq m17).trans ?_
  refine (zLet_eq (show fn7 [] (γ 0) = (0, 0, γ 1) from l0.symm)).trans ?_
  refine (zLet_eq (show _ = γ 1 from rfl)).trans ?_
  refine (zLet_eq m18).trans ?_
  refine (zLet_eq (show fn33 [] (γ 1) = (0, ρ 9 + 8 * ρ 8, γ 2) from l1.symm)).trans ?_
  refine (zLet_eq (show _ = γ 2 from rfl)).trans ?_
  refine (zLet_eq c3.symm).trans ?_
  refine (zLet_eq (show fn6 [ρ 18] (γ 3) = (0, ρ 19, γ 4) from l2.symm)).trans ?_
  refine (zLet_eq (show _ = γ 4 from rfl)).trans ?_
  refine (if_pos w_0).trans ?_
  refine (zLet_eq (show _ = ρ 19 from rfl)).trans ?_
  refine (if_neg w_1).trans ?_
  refine (zLet_eq c5.symm).trans ?_
  refine (zLet_eq (show fn23 [] (γ 5) = (0, 1, γ 6) from l3.symm)).trans ?_
  refine (zLet_eq (show _ = γ 6 from rfl)).trans ?_
  refine (if_pos zQ1_).trans ?_
  refine (zLet_eq (show fn7 [] (γ 6) = (0, 0, γ 7) from l4.symm)).trans ?_
  refine (zLet_eq (show _ = γ 7 from rfl)).trans ?_
  refine (zLet_eq m23).trans ?_
  refine (zLet_eq (show fn6 [ρ 23] (γ 7) = (0, ρ 24, γ 8) from l5.symm)).trans ?_
  refine (zLet_eq (show _ = γ 8 from rfl)).trans ?_
  refine (if_pos w_2).trans ?_
  refine (zLet_eq (show _ = ρ 24 from rfl)).trans ?_
  refine (if_pos wl_0).trans ?_
  refine (zLet_eq (show fn8 [ρ 23] (γ 8) = (0, 0, γ 9) from l7.symm)).trans ?_
  refine (zLet_eq (show _ = γ 9 from rfl)).trans ?_
  rfl
theorem vn42_26 {S : Nat → zSpc} (hS6 : ∀ x g o v gz, S 6 x g o v gz → sn6 x g o v gz) (hS7 : ∀ x g o v gz, S 7 x g o v gz → sn7 x g o v gz) (hS8 : ∀ x g o v gz, S 8 x g o v gz → sn8 x g o v gz) (hS9 : ∀ x g o v gz, S 9 x g o v gz → sn9 x g o v gz) (hS12 : ∀ x g o v gz, S 12 x g o v gz → sn12 x g o v gz) (hS13 : ∀ x g o v gz, S 13 x g o v gz → sn13 x g o v gz) (hS15 : ∀ x g o v gz, S 15 x g o v gz → sn15 x g o v gz) (hS18 : ∀ x g o v gz, S 18 x g o v gz → sn18 x g o v gz) (hS20 : ∀ x g o v gz, S 20 x g o v gz → sn20 x g o v gz) (hS23 : ∀ x g o v gz, S 23 x g o v gz → sn23 x g o v gz) (hS33 : ∀ x g o v gz, S 33 x g o v gz → sn33 x g o v gz) (hS34 : ∀ x g o v gz, S 34 x g o v gz → sn34 x g o v gz) (hS40 : ∀ x g o v gz, S 40 x g o v gz → sn40 x g o v gz) (hS41 : ∀ x g o v gz, S 41 x g o v gz → sn41 x g o v gz) {a : List Int} {g : rHp} : ∀ (ρ : Nat → Int) (γ : Nat → rHp), zO 18 S a g q42_26 ρ γ → zGl (fun _ _ _ => True) (sn42 a g) q42_26 ρ γ := by
  intro ρ γ h
  obtain ⟨ha, hg, hr, hf, hm, hc, hl⟩ := h
  have ha : a = [ρ 0, ρ 1, ρ 2, ρ 3, ρ 4, ρ 5, ρ 6, ρ 7, ρ 8, ρ 9, ρ 10, ρ 11, ρ 12, ρ 13, ρ 14, ρ 15, ρ 16, ρ 17] := ha
  subst ha
  subst hg
  obtain ⟨-, -, -, -, -, -, -, -, -, -, -, -, -, -, -, -, -, -, -, r19, -, -, -, -, r24, -⟩ := hr
  have r19 : (33 : Int) ≤ ρ 19 ∧ ρ 19 ≤ 33 := r19
  have r24 : (40 : Int) ≤ ρ 24 ∧ ρ 24 ≤ 40 := r24
  obtain ⟨-, -, f2, -, -, -, -, -, -, -, -, -, -, -, -, -, -, -, f18, -⟩ := hf
  have f2 : (0 : Int) ≤ -ρ 23 + ρ 1 + (-1) := f2
  have f18 : (0 : Int) ≤ -ρ 18 + ρ 1 + (-1) := f18
  obtain ⟨w_0, w_1, w_2, w_3⟩ : (0 ≤ -ρ 18 + ρ 1 + (-1)) ∧ (¬ (ρ 19 ≠ 33)) ∧ (0 ≤ -ρ 23 + ρ 1 + (-1)) ∧ (¬ (ρ 24 ≠ 40)) := ⟨by omega, by omega, by omega, by omega⟩
  obtain ⟨-, m1, -, -, -, -, -, -, m8, m9, -, -, -, -, -, -, -, m17, m18, -, -, -, -, m23, -⟩ := hm
  have m1 : γ 0 15 0 34 = ρ 1 := m1
  have m8 : γ 0 15 0 44 = ρ 8 := m8
  have m9 : γ 0 73 0 (ρ 8) = ρ 9 := m9
  have m17 : γ 0 15 0 45 = ρ 17 := m17
  have m18 : γ 1 15 0 35 = ρ 18 := m18
  have m23 : γ 7 15 0 35 = ρ 23 := m23
  obtain ⟨⟨⟨⟨⟨⟨⟨-, c3⟩, -⟩, c5⟩, -⟩, -⟩, -⟩, -⟩ := hc
  have c3 : γ 3 = rUp (γ 2) 79 0 (ρ 9 + 8 * ρ 8) (ρ 17) := c3
  have c5 : γ 5 = rUp (γ 4) 15 0 35 (ρ 18 + 1) := c5
  obtain ⟨l0, l1, l2, l3, l4, l5, l6, -⟩ := hl
  have l0 : sn7 [ρ 0, ρ 1] (γ 0) 0 0 (γ 1) := hS7 _ _ _ _ _ l0
  have l1 : sn33 [ρ 8, ρ 9] (γ 1) 0 (ρ 9 + 8 * ρ 8) (γ 2) := hS33 _ _ _ _ _ l1
  have l2 : sn6 [ρ 18, ρ 1] (γ 3) 0 (ρ 19) (γ 4) := hS6 _ _ _ _ _ l2
  have l3 : sn23 [ρ 18 + 1, ρ 1, ρ 13, ρ 14, ρ 15] (γ 5) 0 1 (γ 6) := hS23 _ _ _ _ _ l3
  have l4 : sn7 [ρ 20, ρ 1] (γ 6) 0 0 (γ 7) := hS7 _ _ _ _ _ l4
  have l5 : sn6 [ρ 23, ρ 1] (γ 7) 0 (ρ 24) (γ 8) := hS6 _ _ _ _ _ l5
  have l6 : sn41 [1, ρ 23, ρ 1, ρ 2, ρ 3, ρ 4, ρ 21, ρ 22, ρ 5, ρ 6, ρ 7, ρ 8, ρ 9, ρ 10, ρ 11, ρ 12, ρ 13, ρ 16, ρ 17] (γ 8) 0 0 (γ 9) := hS41 _ _ _ _ _ l6
  show sn42 [ρ 0, ρ 1, ρ 2, ρ 3, ρ 4, ρ 5, ρ 6, ρ 7, ρ 8, ρ 9, ρ 10, ρ 11, ρ 12, ρ 13, ρ 14, ρ 15, ρ 16, ρ 17] (γ 0) 0 0 (γ 9)
  refine Eq.symm ?_
  show fn42 [] (γ 0) = _
  unfold fn42
  refine (zLet_eq m1).trans ?_
  refine (zLet_eq m8).trans ?_
  refine (zLet_eq m9).trans ?_
  refine (zLet_eq m17).trans ?_
  refine (zLet_eq (show fn7 [] (γ 0) = (0, 0, γ 1) from l0.symm)).trans ?_
  refine (zLet_eq (show _ = γ 1 from rfl)).trans ?_
  refine (zLet_eq m18).trans ?_
  refine (zLet_eq (show fn33 [] (γ 1) = (0, ρ 9 + 8 * ρ 8, γ 2) from l1.symm)).trans ?_
  refine (zLet_eq (show _ = γ 2 from rfl)).trans ?_
  refine (zLet_eq c3.symm).trans ?_
  refine (zLet_eq (show fn6 [ρ 18] (γ 3) = (0, ρ 19, γ 4) from l2.symm)).trans ?_
  refine (zLet_eq (show _ = γ 4 from rfl)).trans ?_
  refine (if_pos w_0).trans ?_
  refine (zLet_eq (show _ = ρ 19 from rfl)).trans ?_
  refine (if_neg w_1).trans ?_
  refine (zLet_eq c5.symm).trans ?_
  refine (zLet_eq (show fn23 [] (γ 5) = (0, 1, γ 6) from l3.symm)).trans ?_
  refine (zLet_eq (show _ = γ 6 from rfl)).trans ?_
  refine (if_pos zQ1_).trans ?_
  refine (zLet_eq (show fn7 [] (γ 6) = (0, 0, γ 7) from l4.symm)).trans ?_
  refine (zLet_eq (show _ = γ 7 from rfl)).trans ?_
  refine (zLet_eq m23).trans ?_
  refine (zLet_eq (show fn6 [ρ 23] (γ 7) = (0, ρ 24, γ 8) from l5.symm)).trans ?_
  refine (zLet_eq (show _ = γ 8 from rfl)).trans ?_
  refine (if_pos w_2).trans ?_
  refine (zLet_eq (show _ = ρ 24 from rfl)).trans ?_
  refine (if_neg w_3).trans ?_
  refine (zLet_eq (show fn41 [1] (γ 8) = (0, 0, γ 9) from l6.symm)).trans ?_
  refine (zLet_eq (show _ = γ 9 from rfl)).trans ?_
  refine (if_neg zQ0_).trans ?_
  rfl
theorem vn42_27 {S : Nat → zSpc} (hS6 : ∀ x g o v gz, S 6 x g o v gz → sn6 x g o v gz) (hS7 : ∀ x g o v gz, S 7 x g o v gz → sn7 x g o v gz) (hS8 : ∀ x g o v gz, S 8 x g o v gz → sn8 x g o v gz) (hS9 : ∀ x g o v gz, S 9 x g o v gz → sn9 x g o v gz) (hS12 : ∀ x g o v gz, S 12 x g o v gz → sn12 x g o v gz) (hS13 : ∀ x g o v gz, S 13 x g o v gz → sn13 x g o v gz) (hS15 : ∀ x g o v gz, S 15 x g o v gz → sn15 x g o v gz) (hS18 : ∀ x g o v gz, S 18 x g o v gz → sn18 x g o v gz) (hS20 : ∀ x g o v gz, S 20 x g o v gz → sn20 x g o v gz) (hS23 : ∀ x g o v gz, S 23 x g o v gz → sn23 x g o v gz) (hS33 : ∀ x g o v gz, S 33 x g o v gz → sn33 x g o v gz) (hS34 : ∀ x g o v gz, S 34 x g o v gz → sn34 x g o v gz) (hS40 : ∀ x g o v gz, S 40 x g o v gz → sn40 x g o v gz) (hS41 : ∀ x g o v gz, S 41 x g o v gz → sn41 x g o v gz) {a : List Int} {g : rHp} : ∀ (ρ : Nat → Int) (γ : Nat → rHp), zO 18 S a g q42_27 ρ γ → zGl (fun _ _ _ => True) (sn42 a g) q42_27 ρ γ := by
  intro ρ γ h
  obtain ⟨ha, hg, hr, hf, hm, hc, hl⟩ := h
  have ha : a = [ρ 0, ρ 1, ρ 2, ρ 3, ρ 4, ρ 5, ρ 6, ρ 7, ρ 8, ρ 9, ρ 10, ρ 11, ρ 12, ρ 13, ρ 14, ρ 15, ρ 16, ρ 17] := ha
  subst ha
  subst hg
  obtain ⟨-, -, -, -, -, -, -, -, -, -, -, -, -, -, -, -, -, -, -, r19, -, -, -, -, r24, -⟩ := hr
  have r19 : (33 : Int) ≤ ρ 19 ∧ ρ 19 ≤ 33 := r19
  have r24 : (40 : Int) ≤ ρ 24 ∧ ρ 24 ≤ 40 := r24
  obtain ⟨-, -, f2, -, -, -, -, -, -, -, -, -, -, -, -, -, -, -, -, -, f20, -⟩ := hf
  have f2 : (0 : Int) ≤ -ρ 23 + ρ 1 + (-1) := f2
  have f20 : (0 : Int) ≤ -ρ 18 + ρ 1 + (-1) := f20
  obtain ⟨w_0, w_1, w_2, w_3⟩ : (0 ≤ -ρ 18 + ρ 1 + (-1)) ∧ (¬ (ρ 19 ≠ 33)) ∧ (0 ≤ -ρ 23 + ρ 1 + (-1)) ∧ (¬ (ρ 24 ≠ 40)) := ⟨by omega, by omega, by omega, by omega⟩
  obtain ⟨-, m1, -, -, -, -, -, -, m8, m9, -, -, -, -, -, -, -, m17, m18, -, -, -, -, m23, -⟩ := hm
  have m1 : γ 0 15 0 34 = ρ 1 := m1
  have m8 : γ 0 15 0 44 = ρ 8 := m8
  have m9 : γ 0 73 0 (ρ 8) = ρ 9 := m9
  have m17 : γ 0 15 0 45 = ρ 17 := m17
  have m18 : γ 1 15 0 35 = ρ 18 := m18
  have m23 : γ 7 15 0 35 = ρ 23 := m23
  obtain ⟨⟨⟨⟨⟨⟨⟨-, c3⟩, -⟩, c5⟩, -⟩, -⟩, -⟩, -⟩ := hc
  have c3 : γ 3 = rUp (γ 2) 79 0 (ρ 9 + 8 * ρ 8) (ρ 17) := c3
  have c5 : γ 5 = rUp (γ 4) 15 0 35 (ρ 18 + 1) := c5
  obtain ⟨l0, l1, l2, l3, l4, l5, l6, -⟩ := hl
  have l0 : sn7 [ρ 0, ρ 1] (γ 0) 0 0 (γ 1) := hS7 _ _ _ _ _ l0
  have l1 : sn33 [ρ 8, ρ 9] (γ 1) 0 (ρ 9 + 8 * ρ 8) (γ 2) := hS33 _ _ _ _ _ l1
  have l2 : sn6 [ρ 18, ρ 1] (γ 3) 0 (ρ 19) (γ 4) := hS6 _ _ _ _ _ l2
  have l3 : sn23 [ρ 18 + 1, ρ 1, ρ 13, ρ 14, ρ 15] (γ 5) 0 1 (γ 6) := hS23 _ _ _ _ _ l3
  have l4 : sn7 [ρ 20, ρ 1] (γ 6) 0 0 (γ 7) := hS7 _ _ _ _ _ l4
  have l5 : sn6 [ρ 23, ρ 1] (γ 7) 0 (ρ 24) (γ 8) := hS6 _ _ _ _ _ l5
  have l6 : sn41 [1, ρ 23, ρ 1, ρ 2, ρ 3, ρ 4, ρ 21, ρ 22, ρ 5, ρ 6, ρ 7, ρ 8, ρ 9, ρ 10, ρ 11, ρ 12, ρ 13, ρ 16, ρ 17] (γ 8) 0 1 (γ 9) := hS41 _ _ _ _ _ l6
  show sn42 [ρ 0, ρ 1, ρ 2, ρ 3, ρ 4, ρ 5, ρ 6, ρ 7, ρ 8, ρ 9, ρ 10, ρ 11, ρ 12, ρ 13, ρ 14, ρ 15, ρ 16, ρ 17] (γ 0) 0 1 (γ 9)
  refine Eq.symm ?_
  show fn42 [] (γ 0) = _
  unfold fn42
  refine (zLet_eq m1).trans ?_
  refine (zLet_eq m8).trans ?_
  refine (zLet_eq m9).trans ?_
  refine (zLet_eq m17).trans ?_
  refine (zLet_eq (show fn7 [] (γ 0) = (0, 0, γ 1) from l0.symm)).trans ?_
  refine (zLet_eq (show _ = γ 1 from rfl)).trans ?_
  refine (zLet_eq m18).trans ?_
  refine (zLet_eq (show fn33 [] (γ 1) = (0, ρ 9 + 8 * ρ 8, γ 2) from l1.symm)).trans ?_
  refine (zLet_eq (show _ = γ 2 from rfl)).trans ?_
  refine (zLet_eq c3.symm).trans ?_
  refine (zLet_eq (show fn6 [ρ 18] (γ 3) = (0, ρ 19, γ 4) from l2.symm)).trans ?_
  refine (zLet_eq (show _ = γ 4 from rfl)).trans ?_
  refine (if_pos w_0).trans ?_
  refine (zLet_eq (show _ = ρ 19 from rfl)).trans ?_
  refine (if_neg w_1).trans ?_
  refine (zLet_eq c5.symm).trans ?_
  refine (zLet_eq (show fn23 [] (γ 5) = (0, 1, γ 6) from l3.symm)).trans ?_
  refine (zLet_eq (show _ = γ 6 from rfl)).trans ?_
  refine (if_pos zQ1_).trans ?_
  refine (zLet_eq (show fn7 [] (γ 6) = (0, 0, γ 7) from l4.symm)).trans ?_
  refine (zLet_eq (show _ = γ 7 from rfl)).trans ?_
  refine (zLet_eq m23).trans ?_
  refine (zLet_eq (show fn6 [ρ 23] (γ 7) = (0, ρ 24, γ 8) from l5.symm)).trans ?_
  refine (zLet_eq (show _ = γ 8 from rfl)).trans ?_
  refine (if_pos w_2).trans ?_
  refine (zLet_eq (show _ = ρ 24 from rfl)).trans ?_
  refine (if_neg w_3).trans ?_
  refine (zLet_eq (show fn41 [1] (γ 8) = (0, 1, γ 9) from l6.symm)).trans ?_
  refine (zLet_eq (show _ = γ 9 from rfl)).trans ?_
  refine (if_pos zQ1_).trans ?_
  rfl
theorem vn42_28 {S : Nat → zSpc} (hS6 : ∀ x g o v gz, S 6 x g o v gz → sn6 x g o v gz) (hS7 : ∀ x g o v gz, S 7 x g o v gz → sn7 x g o v gz) (hS8 : ∀ x g o v gz, S 8 x g o v gz → sn8 x g o v gz) (hS9 : ∀ x g o v gz, S 9 x g o v gz → sn9 x g o v gz) (hS12 : ∀ x g o v gz, S 12 x g o v gz → sn12 x g o v gz) (hS13 : ∀ x g o v gz, S 13 x g o v gz → sn13 x g o v gz) (hS15 : ∀ x g o v gz, S 15 x g o v gz → sn15 x g o v gz) (hS18 : ∀ x g o v gz, S 18 x g o v gz → sn18 x g o v gz) (hS20 : ∀ x g o v gz, S 20 x g o v gz → sn20 x g o v gz) (hS23 : ∀ x g o v gz, S 23 x g o v gz → sn23 x g o v gz) (hS33 : ∀ x g o v gz, S 33 x g o v gz → sn33 x g o v gz) (hS34 : ∀ x g o v gz, S 34 x g o v gz → sn34 x g o v gz) (hS40 : ∀ x g o v gz, S 40 x g o v gz → sn40 x g o v gz) (hS41 : ∀ x g o v gz, S 41 x g o v gz → sn41 x g o v gz) {a : List Int} {g : rHp} : ∀ (ρ : Nat → Int) (γ : Nat → rHp), zO 18 S a g q42_28 ρ γ → zGl (fun _ _ _ => True) (sn42 a g) q42_28 ρ γ := by
  intro ρ γ h
  obtain ⟨ha, hg, hr, hf, hm, hc, hl⟩ := h
  have ha : a = [ρ 0, ρ 1, ρ 2, ρ 3, ρ 4, ρ 5, ρ 6, ρ 7, ρ 8, ρ 9, ρ 10, ρ 11, ρ 12, ρ 13, ρ 14, ρ 15, ρ 16, ρ 17] := ha
  subst ha
  subst hg
  obtain ⟨-, -, -, -, -, -, -, -, -, -, -, -, -, -, -, -, -, -, -, r19, -⟩ := hr
  have r19 : (33 : Int) ≤ ρ 19 ∧ ρ 19 ≤ 33 := r19
  obtain ⟨-, -, f2, -, -, -, f6, -⟩ := hf
  have f2 : (0 : Int) ≤ ρ 23 + -ρ 1 := f2
  have f6 : (0 : Int) ≤ -ρ 18 + ρ 1 + (-1) := f6
  obtain ⟨w_0, w_1, w_2⟩ : (0 ≤ -ρ 18 + ρ 1 + (-1)) ∧ (¬ (ρ 19 ≠ 33)) ∧ (¬ (0 ≤ -ρ 23 + ρ 1 + (-1))) := ⟨by omega, by omega, by omega⟩
  obtain ⟨-, m1, -, -, -, -, -, -, m8, m9, -, -, -, -, -, -, -, m17, m18, -, -, -, -, m23, -⟩ := hm
  have m1 : γ 0 15 0 34 = ρ 1 := m1
  have m8 : γ 0 15 0 44 = ρ 8 := m8
  have m9 : γ 0 73 0 (ρ 8) = ρ 9 := m9
  have m17 : γ 0 15 0 45 = ρ 17 := m17
  have m18 : γ 1 15 0 35 = ρ 18 := m18
  have m23 : γ 7 15 0 35 = ρ 23 := m23
  obtain ⟨⟨⟨⟨⟨⟨⟨-, c3⟩, -⟩, c5⟩, -⟩, -⟩, -⟩, -⟩ := hc
  have c3 : γ 3 = rUp (γ 2) 79 0 (ρ 9 + 8 * ρ 8) (ρ 17) := c3
  have c5 : γ 5 = rUp (γ 4) 15 0 35 (ρ 18 + 1) := c5
  obtain ⟨l0, l1, l2, l3, l4, l5, l6, -⟩ := hl
  have l0 : sn7 [ρ 0, ρ 1] (γ 0) 0 0 (γ 1) := hS7 _ _ _ _ _ l0
  have l1 : sn33 [ρ 8, ρ 9] (γ 1) 0 (ρ 9 + 8 * ρ 8) (γ 2) := hS33 _ _ _ _ _ l1
  have l2 : sn6 [ρ 18, ρ 1] (γ 3) 0 (ρ 19) (γ 4) := hS6 _ _ _ _ _ l2
  have l3 : sn23 [ρ 18 + 1, ρ 1, ρ 13, ρ 14, ρ 15] (γ 5) 0 1 (γ 6) := hS23 _ _ _ _ _ l3
  have l4 : sn7 [ρ 20, ρ 1] (γ 6) 0 0 (γ 7) := hS7 _ _ _ _ _ l4
  have l5 : sn6 [ρ 23, ρ 1] (γ 7) 0 (-1) (γ 8) := hS6 _ _ _ _ _ l5
  have l6 : sn8 [ρ 23, ρ 1, ρ 13] (γ 8) 0 0 (γ 9) := hS8 _ _ _ _ _ l6
  show sn42 [ρ 0, ρ 1, ρ 2, ρ 3, ρ 4, ρ 5, ρ 6, ρ 7, ρ 8, ρ 9, ρ 10, ρ 11, ρ 12, ρ 13, ρ 14, ρ 15, ρ 16, ρ 17] (γ 0) 0 0 (γ 9)
  refine Eq.symm ?_
  show fn42 [] (γ 0) = _
  unfold fn42
  refine (zLet_eq m1).trans ?_
  refine (zLet_eq m8).trans ?_
  refine (zLet_eq m9).trans ?_
  refine (zLet_eq m17).trans ?_
  refine (zLet_eq (show fn7 [] (γ 0) = (0, 0, γ 1) from l0.symm)).trans ?_
  refine (zLet_eq (show _ = γ 1 from rfl)).trans ?_
  refine (zLet_eq m18).trans ?_
  refine (zLet_eq (show fn33 [] (γ 1) = (0, ρ 9 + 8 * ρ 8, γ 2) from l1.symm)).trans ?_
  refine (zLet_eq (show _ = γ 2 from rfl)).trans ?_
  refine (zLet_eq c3.symm).trans ?_
  refine (zLet_eq (show fn6 [ρ 18] (γ 3) = (0, ρ 19, γ 4) from l2.symm)).trans ?_
  refine (zLet_eq (show _ = γ 4 from rfl)).trans ?_
  refine (if_pos w_0).trans ?_
  refine (zLet_eq (show _ = ρ 19 from rfl)).trans ?_
  refine (if_neg w_1).trans ?_
  refine (zLet_eq c5.symm).trans ?_
  refine (zLet_eq (show fn23 [] (γ 5) = (0, 1, γ 6) from l3.symm)).trans ?_
  refine (zLet_eq (show _ = γ 6 from rfl)).trans ?_
  refine (if_pos zQ1_).trans ?_
  refine (zLet_eq (show fn7 [] (γ 6) = (0, 0, γ 7) from l4.symm)).trans ?_
  refine (zLet_eq (show _ = γ 7 from rfl)).trans ?_
  refine (zLet_eq m23).trans ?_
  refine (zLet_eq (show fn6 [ρ 23] (γ 7) = (0, (-1), γ 8) from l5.symm)).trans ?_
  refine (zLet_eq (show _ = γ 8 from rfl)).trans ?_
  refine (if_neg w_2).trans ?_
  refine (zLet_eq (show fn8 [ρ 23] (γ 8) = (0, 0, γ 9) from l6.symm)).trans ?_
  refine (zLet_eq (show _ = γ 9 from rfl)).trans ?_
  rfl
theorem vn42_29 {S : Nat → zSpc} (hS6 : ∀ x g o v gz, S 6 x g o v gz → sn6 x g o v gz) (hS7 : ∀ x g o v gz, S 7 x g o v gz → sn7 x g o v gz) (hS8 : ∀ x g o v gz, S 8 x g o v gz → sn8 x g o v gz) (hS9 : ∀ x g o v gz, S 9 x g o v gz → sn9 x g o v gz) (hS12 : ∀ x g o v gz, S 12 x g o v gz → sn12 x g o v gz) (hS13 : ∀ x g o v gz, S 13 x g o v gz → sn13 x g o v gz) (hS15 : ∀ x g o v gz, S 15 x g o v gz → sn15 x g o v gz) (hS18 : ∀ x g o v gz, S 18 x g o v gz → sn18 x g o v gz) (hS20 : ∀ x g o v gz, S 20 x g o v gz → sn20 x g o v gz) (hS23 : ∀ x g o v gz, S 23 x g o v gz → sn23 x g o v gz) (hS33 : ∀ x g o v gz, S 33 x g o v gz → sn33 x g o v gz) (hS34 : ∀ x g o v gz, S 34 x g o v gz → sn34 x g o v gz) (hS40 : ∀ x g o v gz, S 40 x g o v gz → sn40 x g o v gz) (hS41 : ∀ x g o v gz, S 41 x g o v gz → sn41 x g o v gz) {a : List Int} {g : rHp} : ∀ (ρ : Nat → Int) (γ : Nat → rHp), zO 18 S a g q42_29 ρ γ → zGl (fun _ _ _ => True) (sn42 a g) q42_29 ρ γ := by
  intro ρ γ h
  obtain ⟨ha, hg, hr, hf, hm, hc, hl⟩ := h
  have ha : a = [ρ 0, ρ 1, ρ 2, ρ 3, ρ 4, ρ 5, ρ 6, ρ 7, ρ 8, ρ 9, ρ 10, ρ 11, ρ 12, ρ 13, ρ 14, ρ 15, ρ 16, ρ 17] := ha
  subst ha
  subst hg
  obtain ⟨-, -, -, -, -, -, f6, -⟩ := hf
  have f6 : (0 : Int) ≤ ρ 18 + -ρ 1 := f6
  have w_0 : ¬ (0 ≤ -ρ 18 + ρ 1 + (-1)) := by omega
  obtain ⟨-, m1, -, -, -, -, -, -, m8, m9, -, -, -, -, -, -, -, m17, m18, -⟩ := hm
  have m1 : γ 0 15 0 34 = ρ 1 := m1
  have m8 : γ 0 15 0 44 = ρ 8 := m8
  have m9 : γ 0 73 0 (ρ 8) = ρ 9 := m9
  have m17 : γ 0 15 0 45 = ρ 17 := m17
  have m18 : γ 1 15 0 35 = ρ 18 := m18
  obtain ⟨⟨⟨⟨-, c3⟩, -⟩, -⟩, -⟩ := hc
  have c3 : γ 3 = rUp (γ 2) 79 0 (ρ 9 + 8 * ρ 8) (ρ 17) := c3
  obtain ⟨l0, l1, l2, l3, l4, -⟩ := hl
  have l0 : sn7 [ρ 0, ρ 1] (γ 0) 0 0 (γ 1) := hS7 _ _ _ _ _ l0
  have l1 : sn33 [ρ 8, ρ 9] (γ 1) 0 (ρ 9 + 8 * ρ 8) (γ 2) := hS33 _ _ _ _ _ l1
  have l2 : sn6 [ρ 18, ρ 1] (γ 3) 0 (-1) (γ 4) := hS6 _ _ _ _ _ l2
  have l3 : sn9 [(-1)] (γ 4) 0 0 (γ 5) := hS9 _ _ _ _ _ l3
  have l4 : sn20 [0, ρ 18, ρ 1, ρ 2, ρ 3, ρ 19, ρ 16, ρ 13, ρ 14, ρ 15, ρ 8] (γ 5) 0 0 (γ 6) := hS20 _ _ _ _ _ l4
  show sn42 [ρ 0, ρ 1, ρ 2, ρ 3, ρ 4, ρ 5, ρ 6, ρ 7, ρ 8, ρ 9, ρ 10, ρ 11, ρ 12, ρ 13, ρ 14, ρ 15, ρ 16, ρ 17] (γ 0) 0 0 (γ 6)
  refine Eq.symm ?_
  show fn42 [] (γ 0) = _
  unfold fn42
  refine (zLet_eq m1).trans ?_
  refine (zLet_eq m8).trans ?_
  refine (zLet_eq m9).trans ?_
  refine (zLet_eq m17).trans ?_
  refine (zLet_eq (show fn7 [] (γ 0) = (0, 0, γ 1) from l0.symm)).trans ?_
  refine (zLet_eq (show _ = γ 1 from rfl)).trans ?_
  refine (zLet_eq m18).trans ?_
  refine (zLet_eq (show fn33 [] (γ 1) = (0, ρ 9 + 8 * ρ 8, γ 2) from l1.symm)).trans ?_
  refine (zLet_eq (show _ = γ 2 from rfl)).trans ?_
  refine (zLet_eq c3.symm).trans ?_
  refine (zLet_eq (show fn6 [ρ 18] (γ 3) = (0, (-1), γ 4) from l2.symm)).trans ?_
  refine (zLet_eq (show _ = γ 4 from rfl)).trans ?_
  refine (if_neg w_0).trans ?_
  refine (zLet_eq (show fn9 [(-1)] (γ 4) = (0, 0, γ 5) from l3.symm)).trans ?_
  refine (zLet_eq (show _ = γ 5 from rfl)).trans ?_
  refine (zLet_eq (show fn20 [0] (γ 5) = (0, 0, γ 6) from l4.symm)).trans ?_
  refine (zLet_eq (show _ = γ 6 from rfl)).trans ?_
  rfl
theorem yn42 {S : Nat → zSpc} (hS6 : ∀ x g o v gz, S 6 x g o v gz → sn6 x g o v gz) (hS7 : ∀ x g o v gz, S 7 x g o v gz → sn7 x g o v gz) (hS8 : ∀ x g o v gz, S 8 x g o v gz → sn8 x g o v gz) (hS9 : ∀ x g o v gz, S 9 x g o v gz → sn9 x g o v gz) (hS12 : ∀ x g o v gz, S 12 x g o v gz → sn12 x g o v gz) (hS13 : ∀ x g o v gz, S 13 x g o v gz → sn13 x g o v gz) (hS15 : ∀ x g o v gz, S 15 x g o v gz → sn15 x g o v gz) (hS18 : ∀ x g o v gz, S 18 x g o v gz → sn18 x g o v gz) (hS20 : ∀ x g o v gz, S 20 x g o v gz → sn20 x g o v gz) (hS23 : ∀ x g o v gz, S 23 x g o v gz → sn23 x g o v gz) (hS33 : ∀ x g o v gz, S 33 x g o v gz → sn33 x g o v gz) (hS34 : ∀ x g o v gz, S 34 x g o v gz → sn34 x g o v gz) (hS40 : ∀ x g o v gz, S 40 x g o v gz → sn40 x g o v gz) (hS41 : ∀ x g o v gz, S 41 x g o v gz → sn41 x g o v gz) : ∀ x g o v gz, zSem uW uT w42_.2.2.2.1 w42_.2.2.1.1.length S q42 (fun i => q42a.getD i []) (zNA a42_) x g o v gz → sn42 x g o v gz := by
  intro a g o v gz h
  exact zSem_all (l0 := q42) (las := q42a) (S := S) (J := (fun _ _ _ => True)) (P := sn42 a g) (fun _ => (show zAll _ [q42_0, q42_1, q42_2, q42_3, q42_4, q42_5, q42_6, q42_7, q42_8, q42_9, q42_10, q42_11, q42_12, q42_13, q42_14, q42_15, q42_16, q42_17, q42_18, q42_19, q42_20, q42_21, q42_22, q42_23, q42_24, q42_25, q42_26, q42_27, q42_28, q42_29] from (zAll_c (vn42_0 hS6 hS7 hS8 hS9 hS12 hS13 hS15 hS18 hS20 hS23 hS33 hS34 hS40 hS41) (zAll_c (vn42_1 hS6 hS7 hS8 hS9 hS12 hS13 hS15 hS18 hS20 hS23 hS33 hS34 hS40 hS41) (zAll_c (vn42_2 hS6 hS7 hS8 hS9 hS12 hS13 hS15 hS18 hS20 hS23 hS33 hS34 hS40 hS41) (zAll_c (vn42_3 hS6 hS7 hS8 hS9 hS12 hS13 hS15 hS18 hS20 hS23 hS33 hS34 hS40 hS41) (zAll_c (vn42_4 hS6 hS7 hS8 hS9 hS12 hS13 hS15 hS18 hS20 hS23 hS33 hS34 hS40 hS41) (zAll_c (vn42_5 hS6 hS7 hS8 hS9 hS12 hS13 hS15 hS18 hS20 hS23 hS33 hS34 hS40 hS41) (zAll_c (vn42_6 hS6 hS7 hS8 hS9 hS12 hS13 hS15 hS18 hS20 hS23 hS33 hS34 hS40 hS41) (zAll_c (vn42_7 hS6 hS7 hS8 hS9 hS12 hS13 hS15 hS18 hS20 hS23 hS33 hS34 hS40 hS41) (zAll_c (vn42_8 hS6 hS7 hS8 hS9 hS12 hS13 hS15 hS18 hS20 hS23 hS33 hS34 hS40 hS41) (zAll_c (vn42_9 hS6 hS7 hS8 hS9 hS12 hS13 hS15 hS18 hS20 hS23 hS33 hS34 hS40 hS41) (zAll_c (vn42_10 hS6 hS7 hS8 hS9 hS12 hS13 hS15 hS18 hS20 hS23 hS33 hS34 hS40 hS41) (zAll_c (vn42_11 hS6 hS7 hS8 hS9 hS12 hS13 hS15 hS18 hS20 hS23 hS33 hS34 hS40 hS41) (zAll_c (vn42_12 hS6 hS7 hS8 hS9 hS12 hS13 hS15 hS18 hS20 hS23 hS33 hS34 hS40 hS41) (zAll_c (vn42_13 hS6 hS7 hS8 hS9 hS12 hS13 hS15 hS18 hS20 hS23 hS33 hS34 hS40 hS41) (zAll_c (vn42_14 hS6 hS7 hS8 hS9 hS12 hS13 hS15 hS18 hS20 hS23 hS33 hS34 hS40 hS41) (zAll_c (vn42_15 hS6 hS7 hS8 hS9 hS12 hS13 hS15 hS18 hS20 hS23 hS33 hS34 hS40 hS41) (zAll_c (vn42_16 hS6 hS7 hS8 hS9 hS12 hS13 hS15 hS18 hS20 hS23 hS33 hS34 hS40 hS41) (zAll_c (vn42_17 hS6 hS7 hS8 hS9 hS12 hS13 hS15 hS18 hS20 hS23 hS33 hS34 hS40 hS41) (zAll_c (vn42_18 hS6 hS7 hS8 hS9 hS12 hS13 hS15 hS18 hS20 hS23 hS33 hS34 hS40 hS41) (zAll_c (vn42_19 hS6 hS7 hS8 hS9 hS12 hS13 hS15 hS18 hS20 hS23 hS33 hS34 hS40 hS41) (zAll_c (vn42_20 hS6 hS7 hS8 hS9 hS12 hS13 hS15 hS18 hS20 hS23 hS33 hS34 hS40 hS41) (zAll_c (vn42_21 hS6 hS7 hS8 hS9 hS12 hS13 hS15 hS18 hS20 hS23 hS33 hS34 hS40 hS41) (zAll_c (vn42_22 hS6 hS7 hS8 hS9 hS12 hS13 hS15 hS18 hS20 hS23 hS33 hS34 hS40 hS41) (zAll_c (vn42_23 hS6 hS7 hS8 hS9 hS12 hS13 hS15 hS18 hS20 hS23 hS33 hS34 hS40 hS41) (zAll_c (vn42_24 hS6 hS7 hS8 hS9 hS12 hS13 hS15 hS18 hS20 hS23 hS33 hS34 hS40 hS41) (zAll_c (vn42_25 hS6 hS7 hS8 hS9 hS12 hS13 hS15 hS18 hS20 hS23 hS33 hS34 hS40 hS41) (zAll_c (vn42_26 hS6 hS7 hS8 hS9 hS12 hS13 hS15 hS18 hS20 hS23 hS33 hS34 hS40 hS41) (zAll_c (vn42_27 hS6 hS7 hS8 hS9 hS12 hS13 hS15 hS18 hS20 hS23 hS33 hS34 hS40 hS41) (zAll_c (vn42_28 hS6 hS7 hS8 hS9 hS12 hS13 hS15 hS18 hS20 hS23 hS33 hS34 hS40 hS41) (zAll_c (vn42_29 hS6 hS7 hS8 hS9 hS12 hS13 hS15 hS18 hS20 hS23 hS33 hS34 hS40 hS41) zAll_n)))))))))))))))))))))))))))))))) (fun _ => (show zAllI _ 0 [] from trivial)) h
