/-! ===== the runs are the functions ===== -/
theorem vn37_0 {S : Nat → zSpc} (hS6 : ∀ x g o v gz, S 6 x g o v gz → sn6 x g o v gz) (hS7 : ∀ x g o v gz, S 7 x g o v gz → sn7 x g o v gz) (hS8 : ∀ x g o v gz, S 8 x g o v gz → sn8 x g o v gz) (hS9 : ∀ x g o v gz, S 9 x g o v gz → sn9 x g o v gz) (hS12 : ∀ x g o v gz, S 12 x g o v gz → sn12 x g o v gz) (hS13 : ∀ x g o v gz, S 13 x g o v gz → sn13 x g o v gz) (hS15 : ∀ x g o v gz, S 15 x g o v gz → sn15 x g o v gz) (hS18 : ∀ x g o v gz, S 18 x g o v gz → sn18 x g o v gz) (hS20 : ∀ x g o v gz, S 20 x g o v gz → sn20 x g o v gz) (hS23 : ∀ x g o v gz, S 23 x g o v gz → sn23 x g o v gz) (hS33 : ∀ x g o v gz, S 33 x g o v gz → sn33 x g o v gz) (hS34 : ∀ x g o v gz, S 34 x g o v gz → sn34 x g o v gz) (hS35 : ∀ x g o v gz, S 35 x g o v gz → sn35 x g o v gz) (hS36 : ∀ x g o v gz, S 36 x g o v gz → sn36 x g o v gz) {a : List Int} {g : rHp} : ∀ (ρ : Nat → Int) (γ : Nat → rHp), zO 16 S a g q37_0 ρ γ → zGl (fun _ _ _ => True) (sn37 a g) q37_0 ρ γ := by
  intro ρ γ h
  obtain ⟨ha, hg, hr, hf, hm, hc, hl⟩ := h
  have ha : a = [ρ 0, ρ 1, ρ 2, ρ 3, ρ 4, ρ 5, ρ 6, ρ 7, ρ 8, ρ 9, ρ 10, ρ 11, ρ 12, ρ 13, ρ 14, ρ 15] := ha
  subst ha
  subst hg
  obtain ⟨-, -, -, -, -, -, -, -, -, -, -, -, -, -, -, -, -, r17, -⟩ := hr
  have r17 : ((-128) : Int) ≤ ρ 17 ∧ ρ 17 ≤ 127 := r17
  obtain ⟨-, -, -, -, -, -, f6, -⟩ := hf
  have f6 : (0 : Int) ≤ -ρ 16 + ρ 2 + (-1) := f6
  have w_0 : 0 ≤ -ρ 16 + ρ 2 + (-1) := by omega
  obtain ⟨-, m1, -, -, -, m5, m6, -, -, -, -, -, -, -, m14, m15, -⟩ := hm
  have m1 : γ 0 15 0 34 = ρ 2 := m1
  have m5 : γ 0 15 0 44 = ρ 6 := m5
  have m6 : γ 0 73 0 (ρ 6) = ρ 7 := m6
  have m14 : γ 0 15 0 45 = ρ 15 := m14
  have m15 : γ 1 15 0 35 = ρ 16 := m15
  obtain ⟨⟨⟨⟨-, c3⟩, -⟩, -⟩, -⟩ := hc
  have c3 : γ 3 = rUp (γ 2) 79 0 (ρ 7 + 8 * ρ 6) (ρ 15) := c3
  obtain ⟨l0, l1, l2, l3, l4, l5, -⟩ := hl
  have l0 : sn7 [ρ 1, ρ 2] (γ 0) 0 0 (γ 1) := hS7 _ _ _ _ _ l0
  have l1 : sn33 [ρ 6, ρ 7] (γ 1) 0 (ρ 7 + 8 * ρ 6) (γ 2) := hS33 _ _ _ _ _ l1
  have l2 : sn6 [ρ 16, ρ 2] (γ 3) 0 (ρ 17) (γ 4) := hS6 _ _ _ _ _ l2
  have l3 : ρ 17 ≠ 33 := l3
  have l4 : sn9 [ρ 17] (γ 4) 0 0 (γ 5) := hS9 _ _ _ _ _ l4
  have l5 : sn20 [0, ρ 16, ρ 2, ρ 3, ρ 4, ρ 18, ρ 14, ρ 11, ρ 12, ρ 13, ρ 6] (γ 5) 0 0 (γ 6) := hS20 _ _ _ _ _ l5
  have wl_0 : ρ 17 ≠ 33 := by omega
  show sn37 [ρ 0, ρ 1, ρ 2, ρ 3, ρ 4, ρ 5, ρ 6, ρ 7, ρ 8, ρ 9, ρ 10, ρ 11, ρ 12, ρ 13, ρ 14, ρ 15] (γ 0) 0 0 (γ 6)
  refine Eq.symm ?_
  show fn37 [ρ 0] (γ 0) = _
  unfold fn37
  refine (zLet_eq (show _ = ρ 0 from rfl)).trans ?_
  refine (zLet_eq m1).trans ?_
  refine (zLet_eq m5).trans ?_
  refine (zLet_eq m6).trans ?_
  refine (zLet_eq m14).trans ?_
  refine (zLet_eq (show fn7 [] (γ 0) = (0, 0, γ 1) from l0.symm)).trans ?_
  refine (zLet_eq (show _ = γ 1 from rfl)).trans ?_
  refine (zLet_eq m15).trans ?_
  refine (zLet_eq (show fn33 [] (γ 1) = (0, ρ 7 + 8 * ρ 6, γ 2) from l1.symm)).trans ?_
  refine (zLet_eq (show _ = γ 2 from rfl)).trans ?_
  refine (zLet_eq c3.symm).trans ?_
  refine (zLet_eq (show fn6 [ρ 16] (γ 3) = (0, ρ 17, γ 4) from l2.symm)).trans ?_
  refine (zLet_eq (show _ = γ 4 from rfl)).trans ?_
  refine (if_pos w_0).trans ?_
  refine (zLet_eq (show _ = ρ 17 from rfl)).trans ?_
  refine (if_pos wl_0).trans ?_
  refine (zLet_eq (show fn9 [ρ 17] (γ 4) = (0, 0, γ 5) from l4.symm)).trans ?_
  refine (zLet_eq (show _ = γ 5 from rfl)).trans ?_
  refine (if_neg zQ0_).trans ?_
  refine (zLet_eq (show fn20 [0] (γ 5) = (0, 0, γ 6) from l5.symm)).trans ?_
  refine (zLet_eq (show _ = γ 6 from rfl)).trans ?_
  refine (if_neg zQ0_).trans ?_
  rfl
theorem vn37_1 {S : Nat → zSpc} (hS6 : ∀ x g o v gz, S 6 x g o v gz → sn6 x g o v gz) (hS7 : ∀ x g o v gz, S 7 x g o v gz → sn7 x g o v gz) (hS8 : ∀ x g o v gz, S 8 x g o v gz → sn8 x g o v gz) (hS9 : ∀ x g o v gz, S 9 x g o v gz → sn9 x g o v gz) (hS12 : ∀ x g o v gz, S 12 x g o v gz → sn12 x g o v gz) (hS13 : ∀ x g o v gz, S 13 x g o v gz → sn13 x g o v gz) (hS15 : ∀ x g o v gz, S 15 x g o v gz → sn15 x g o v gz) (hS18 : ∀ x g o v gz, S 18 x g o v gz → sn18 x g o v gz) (hS20 : ∀ x g o v gz, S 20 x g o v gz → sn20 x g o v gz) (hS23 : ∀ x g o v gz, S 23 x g o v gz → sn23 x g o v gz) (hS33 : ∀ x g o v gz, S 33 x g o v gz → sn33 x g o v gz) (hS34 : ∀ x g o v gz, S 34 x g o v gz → sn34 x g o v gz) (hS35 : ∀ x g o v gz, S 35 x g o v gz → sn35 x g o v gz) (hS36 : ∀ x g o v gz, S 36 x g o v gz → sn36 x g o v gz) {a : List Int} {g : rHp} : ∀ (ρ : Nat → Int) (γ : Nat → rHp), zO 16 S a g q37_1 ρ γ → zGl (fun _ _ _ => True) (sn37 a g) q37_1 ρ γ := by
  intro ρ γ h
  obtain ⟨ha, hg, hr, hf, hm, hc, hl⟩ := h
  have ha : a = [ρ 0, ρ 1, ρ 2, ρ 3, ρ 4, ρ 5, ρ 6, ρ 7, ρ 8, ρ 9, ρ 10, ρ 11, ρ 12, ρ 13, ρ 14, ρ 15] := ha
  subst ha
  subst hg
  obtain ⟨-, -, -, -, -, -, -, -, -, -, -, -, -, -, -, -, -, r17, -, -, -, -, -, r23, -⟩ := hr
  have r17 : ((-128) : Int) ≤ ρ 17 ∧ ρ 17 ≤ 127 := r17
  have r23 : (0 : Int) ≤ ρ 23 ∧ ρ 23 ≤ 2 := r23
  obtain ⟨-, -, -, -, -, -, -, -, -, -, -, -, -, -, -, -, -, -, f18, -⟩ := hf
  have f18 : (0 : Int) ≤ -ρ 16 + ρ 2 + (-1) := f18
  have w_0 : 0 ≤ -ρ 16 + ρ 2 + (-1) := by omega
  obtain ⟨-, m1, -, -, -, m5, m6, -, -, -, -, -, -, -, m14, m15, -, -, -, -, m20, m21, -, -, -, m25, -⟩ := hm
  have m1 : γ 0 15 0 34 = ρ 2 := m1
  have m5 : γ 0 15 0 44 = ρ 6 := m5
  have m6 : γ 0 73 0 (ρ 6) = ρ 7 := m6
  have m14 : γ 0 15 0 45 = ρ 15 := m14
  have m15 : γ 1 15 0 35 = ρ 16 := m15
  have m20 : γ 6 15 0 39 = ρ 22 := m20
  have m21 : γ 6 15 0 40 = ρ 23 := m21
  have m25 : γ 9 15 0 35 = ρ 26 := m25
  obtain ⟨⟨⟨⟨⟨⟨⟨⟨-, c3⟩, -⟩, -⟩, -⟩, c7⟩, c8⟩, -⟩, -⟩ := hc
  have c3 : γ 3 = rUp (γ 2) 79 0 (ρ 7 + 8 * ρ 6) (ρ 15) := c3
  have c7 : γ 7 = rUp (γ 6) 80 0 (4 * ρ 7 + 32 * ρ 6) (ρ 23) := c7
  have c8 : γ 8 = rUp (γ 7) 81 0 (4 * ρ 7 + 32 * ρ 6) (ρ 22) := c8
  obtain ⟨l0, l1, l2, l3, l4, l5, l6, l7, l8, -⟩ := hl
  have l0 : sn7 [ρ 1, ρ 2] (γ 0) 0 0 (γ 1) := hS7 _ _ _ _ _ l0
  have l1 : sn33 [ρ 6, ρ 7] (γ 1) 0 (ρ 7 + 8 * ρ 6) (γ 2) := hS33 _ _ _ _ _ l1
  have l2 : sn6 [ρ 16, ρ 2] (γ 3) 0 (ρ 17) (γ 4) := hS6 _ _ _ _ _ l2
  have l3 : ρ 17 ≠ 33 := l3
  have l4 : sn9 [ρ 17] (γ 4) 0 0 (γ 5) := hS9 _ _ _ _ _ l4
  have l5 : sn20 [0, ρ 16, ρ 2, ρ 3, ρ 4, ρ 18, ρ 14, ρ 11, ρ 12, ρ 13, ρ 6] (γ 5) 0 1 (γ 6) := hS20 _ _ _ _ _ l5
  have l6 : sn7 [ρ 19, ρ 2] (γ 8) 0 0 (γ 9) := hS7 _ _ _ _ _ l6
  have l7 : ρ 23 ≠ 1 := l7
  have l8 : sn35 [ρ 16, ρ 26, ρ 2, ρ 20, ρ 21, ρ 6, ρ 7, ρ 8, ρ 22, ρ 11, ρ 24, ρ 25, ρ 23, ρ 15] (γ 9) 0 0 (γ 10) := hS35 _ _ _ _ _ l8
  obtain ⟨wl_0, wl_1⟩ : (ρ 17 ≠ 33) ∧ (ρ 23 ≠ 1) := ⟨by omega, by omega⟩
  show sn37 [ρ 0, ρ 1, ρ 2, ρ 3, ρ 4, ρ 5, ρ 6, ρ 7, ρ 8, ρ 9, ρ 10, ρ 11, ρ 12, ρ 13, ρ 14, ρ 15] (γ 0) 0 0 (γ 10)
  refine Eq.symm ?_
  show fn37 [ρ 0] (γ 0) = _
  unfold fn37
  refine (zLet_eq (show _ = ρ 0 from rfl)).trans ?_
  refine (zLet_eq m1).trans ?_
  refine (zLet_eq m5).trans ?_
  refine (zLet_eq m6).trans ?_
  refine (zLet_eq m14).trans ?_
  refine (zLet_eq (show fn7 [] (γ 0) = (0, 0, γ 1) from l0.symm)).trans ?_
  refine (zLet_eq (show _ = γ 1 from rfl)).trans ?_
  refine (zLet_eq m15).trans ?_
  refine (zLet_eq (show fn33 [] (γ 1) = (0, ρ 7 + 8 * ρ 6, γ 2) from l1.symm)).trans ?_
  refine (zLet_eq (show _ = γ 2 from rfl)).trans ?_
  refine (zLet_eq c3.symm).trans ?_
  refine (zLet_eq (show fn6 [ρ 16] (γ 3) = (0, ρ 17, γ 4) from l2.symm)).trans ?_
  refine (zLet_eq (show _ = γ 4 from rfl)).trans ?_
  refine (if_pos w_0).trans ?_
  refine (zLet_eq (show _ = ρ 17 from rfl)).trans ?_
  refine (if_pos wl_0).trans ?_
  refine (zLet_eq (show fn9 [ρ 17] (γ 4) = (0, 0, γ 5) from l4.symm)).trans ?_
  refine (zLet_eq (show _ = γ 5 from rfl)).trans ?_
  refine (if_neg zQ0_).trans ?_
  refine (zLet_eq (show fn20 [0] (γ 5) = (0, 1, γ 6) from l5.symm)).trans ?_
  refine (zLet_eq (show _ = γ 6 from rfl)).trans ?_
  refine (if_pos zQ1_).trans ?_
  refine (zLet_eq m20).trans ?_
  refine (zLet_eq m21).trans ?_
  refine (zLet_eq c7.symm).trans ?_
  refine (zLet_eq c8.symm).trans ?_
  refine (zLet_eq (show fn7 [] (γ 8) = (0, 0, γ 9) from l6.symm)).trans ?_
  refine (zLet_eq (show _ = γ 9 from rfl)).trans ?_
  refine (zLet_eq m25).trans ?_
  refine (if_pos wl_1).trans ?_
  refine (zLet_eq (show fn35 [ρ 16] (γ 9) = (0, 0, γ 10) from l8.symm)).trans ?_
  refine (zLet_eq (show _ = γ 10 from rfl)).trans ?_
  refine (if_neg zQ0_).trans ?_
  rfl
theorem vn37_2 {S : Nat → zSpc} (hS6 : ∀ x g o v gz, S 6 x g o v gz → sn6 x g o v gz) (hS7 : ∀ x g o v gz, S 7 x g o v gz → sn7 x g o v gz) (hS8 : ∀ x g o v gz, S 8 x g o v gz → sn8 x g o v gz) (hS9 : ∀ x g o v gz, S 9 x g o v gz → sn9 x g o v gz) (hS12 : ∀ x g o v gz, S 12 x g o v gz → sn12 x g o v gz) (hS13 : ∀ x g o v gz, S 13 x g o v gz → sn13 x g o v gz) (hS15 : ∀ x g o v gz, S 15 x g o v gz → sn15 x g o v gz) (hS18 : ∀ x g o v gz, S 18 x g o v gz → sn18 x g o v gz) (hS20 : ∀ x g o v gz, S 20 x g o v gz → sn20 x g o v gz) (hS23 : ∀ x g o v gz, S 23 x g o v gz → sn23 x g o v gz) (hS33 : ∀ x g o v gz, S 33 x g o v gz → sn33 x g o v gz) (hS34 : ∀ x g o v gz, S 34 x g o v gz → sn34 x g o v gz) (hS35 : ∀ x g o v gz, S 35 x g o v gz → sn35 x g o v gz) (hS36 : ∀ x g o v gz, S 36 x g o v gz → sn36 x g o v gz) {a : List Int} {g : rHp} : ∀ (ρ : Nat → Int) (γ : Nat → rHp), zO 16 S a g q37_2 ρ γ → zGl (fun _ _ _ => True) (sn37 a g) q37_2 ρ γ := by
  intro ρ γ h
  obtain ⟨ha, hg, hr, hf, hm, hc, hl⟩ := h
  have ha : a = [ρ 0, ρ 1, ρ 2, ρ 3, ρ 4, ρ 5, ρ 6, ρ 7, ρ 8, ρ 9, ρ 10, ρ 11, ρ 12, ρ 13, ρ 14, ρ 15] := ha
  subst ha
  subst hg
  obtain ⟨-, -, -, -, -, -, -, -, -, -, -, -, -, -, -, -, -, r17, -, -, -, -, -, r23, -⟩ := hr
  have r17 : ((-128) : Int) ≤ ρ 17 ∧ ρ 17 ≤ 127 := r17
  have r23 : (0 : Int) ≤ ρ 23 ∧ ρ 23 ≤ 2 := r23
  obtain ⟨-, -, -, -, -, -, -, -, -, -, -, -, -, -, -, -, -, -, -, f19, -⟩ := hf
  have f19 : (0 : Int) ≤ -ρ 16 + ρ 2 + (-1) := f19
  have w_0 : 0 ≤ -ρ 16 + ρ 2 + (-1) := by omega
  obtain ⟨-, m1, -, -, -, m5, m6, -, -, -, -, -, -, -, m14, m15, -, -, -, -, m20, m21, -, -, -, m25, -⟩ := hm
  have m1 : γ 0 15 0 34 = ρ 2 := m1
  have m5 : γ 0 15 0 44 = ρ 6 := m5
  have m6 : γ 0 73 0 (ρ 6) = ρ 7 := m6
  have m14 : γ 0 15 0 45 = ρ 15 := m14
  have m15 : γ 1 15 0 35 = ρ 16 := m15
  have m20 : γ 6 15 0 39 = ρ 22 := m20
  have m21 : γ 6 15 0 40 = ρ 23 := m21
  have m25 : γ 9 15 0 35 = ρ 26 := m25
  obtain ⟨⟨⟨⟨⟨⟨⟨⟨-, c3⟩, -⟩, -⟩, -⟩, c7⟩, c8⟩, -⟩, -⟩ := hc
  have c3 : γ 3 = rUp (γ 2) 79 0 (ρ 7 + 8 * ρ 6) (ρ 15) := c3
  have c7 : γ 7 = rUp (γ 6) 80 0 (4 * ρ 7 + 32 * ρ 6) (ρ 23) := c7
  have c8 : γ 8 = rUp (γ 7) 81 0 (4 * ρ 7 + 32 * ρ 6) (ρ 22) := c8
  obtain ⟨l0, l1, l2, l3, l4, l5, l6, l7, l8, -⟩ := hl
  have l0 : sn7 [ρ 1, ρ 2] (γ 0) 0 0 (γ 1) := hS7 _ _ _ _ _ l0
  have l1 : sn33 [ρ 6, ρ 7] (γ 1) 0 (ρ 7 + 8 * ρ 6) (γ 2) := hS33 _ _ _ _ _ l1
  have l2 : sn6 [ρ 16, ρ 2] (γ 3) 0 (ρ 17) (γ 4) := hS6 _ _ _ _ _ l2
  have l3 : ρ 17 ≠ 33 := l3
  have l4 : sn9 [ρ 17] (γ 4) 0 0 (γ 5) := hS9 _ _ _ _ _ l4
  have l5 : sn20 [0, ρ 16, ρ 2, ρ 3, ρ 4, ρ 18, ρ 14, ρ 11, ρ 12, ρ 13, ρ 6] (γ 5) 0 1 (γ 6) := hS20 _ _ _ _ _ l5
  have l6 : sn7 [ρ 19, ρ 2] (γ 8) 0 0 (γ 9) := hS7 _ _ _ _ _ l6
  have l7 : ρ 23 ≠ 1 := l7
  have l8 : sn35 [ρ 16, ρ 26, ρ 2, ρ 20, ρ 21, ρ 6, ρ 7, ρ 8, ρ 22, ρ 11, ρ 24, ρ 25, ρ 23, ρ 15] (γ 9) 0 1 (γ 10) := hS35 _ _ _ _ _ l8
  obtain ⟨wl_0, wl_1⟩ : (ρ 17 ≠ 33) ∧ (ρ 23 ≠ 1) := ⟨by omega, by omega⟩
  show sn37 [ρ 0, ρ 1, ρ 2, ρ 3, ρ 4, ρ 5, ρ 6, ρ 7, ρ 8, ρ 9, ρ 10, ρ 11, ρ 12, ρ 13, ρ 14, ρ 15] (γ 0) 0 1 (γ 10)
  refine Eq.symm ?_
  show fn37 [ρ 0] (γ 0) = _
  unfold fn37
  refine (zLet_eq (show _ = ρ 0 from rfl)).trans ?_
  refine (zLet_eq m1).trans ?_
  refine (zLet_eq m5).trans ?_
  refine (zLet_eq m6).trans ?_
  refine (zLet_eq m14).trans ?_
  refine (zLet_eq (show fn7 [] (γ 0) = (0, 0, γ 1) from l0.symm)).trans ?_
  refine (zLet_eq (show _ = γ 1 from rfl)).trans ?_
  refine (zLet_eq m15).trans ?_
  refine (zLet_eq (show fn33 [] (γ 1) = (0, ρ 7 + 8 * ρ 6, γ 2) from l1.symm)).trans ?_
  refine (zLet_eq (show _ = γ 2 from rfl)).trans ?_
  refine (zLet_eq c3.symm).trans ?_
  refine (zLet_eq (show fn6 [ρ 16] (γ 3) = (0, ρ 17, γ 4) from l2.symm)).trans ?_
  refine (zLet_eq (show _ = γ 4 from rfl)).trans ?_
  refine (if_pos w_0).trans ?_
  refine (zLet_eq (show _ = ρ 17 from rfl)).trans ?_
  refine (if_pos wl_0).trans ?_
  refine (zLet_eq (show fn9 [ρ 17] (γ 4) = (0, 0, γ 5) from l4.symm)).trans ?_
  refine (zLet_eq (show _ = γ 5 from rfl)).trans ?_
  refine (if_neg zQ0_).trans ?_
  refine (zLet_eq (show fn20 [0] (γ 5) = (0, 1, γ 6) from l5.symm)).trans ?_
  refine (zLet_eq (show _ = γ 6 from rfl)).trans ?_
  refine (if_pos zQ1_).trans ?_
  refine (zLet_eq m20).trans ?_
  refine (zLet_eq m21).trans ?_
  refine (zLet_eq c7.symm).trans ?_
  refine (zLet_eq c8.symm).trans ?_
  refine (zLet_eq (show fn7 [] (γ 8) = (0, 0, γ 9) from l6.symm)).trans ?_
  refine (zLet_eq (show _ = γ 9 from rfl)).trans ?_
  refine (zLet_eq m25).trans ?_
  refine (if_pos wl_1).trans ?_
  refine (zLet_eq (show fn35 [ρ 16] (γ 9) = (0, 1, γ 10) from l8.symm)).trans ?_
  refine (zLet_eq (show _ = γ 10 from rfl)).trans ?_
  refine (if_pos zQ1_).trans ?_
  rfl
theorem vn37_3 {S : Nat → zSpc} (hS6 : ∀ x g o v gz, S 6 x g o v gz → sn6 x g o v gz) (hS7 : ∀ x g o v gz, S 7 x g o v gz → sn7 x g o v gz) (hS8 : ∀ x g o v gz, S 8 x g o v gz → sn8 x g o v gz) (hS9 : ∀ x g o v gz, S 9 x g o v gz → sn9 x g o v gz) (hS12 : ∀ x g o v gz, S 12 x g o v gz → sn12 x g o v gz) (hS13 : ∀ x g o v gz, S 13 x g o v gz → sn13 x g o v gz) (hS15 : ∀ x g o v gz, S 15 x g o v gz → sn15 x g o v gz) (hS18 : ∀ x g o v gz, S 18 x g o v gz → sn18 x g o v gz) (hS20 : ∀ x g o v gz, S 20 x g o v gz → sn20 x g o v gz) (hS23 : ∀ x g o v gz, S 23 x g o v gz → sn23 x g o v gz) (hS33 : ∀ x g o v gz, S 33 x g o v gz → sn33 x g o v gz) (hS34 : ∀ x g o v gz, S 34 x g o v gz → sn34 x g o v gz) (hS35 : ∀ x g o v gz, S 35 x g o v gz → sn35 x g o v gz) (hS36 : ∀ x g o v gz, S 36 x g o v gz → sn36 x g o v gz) {a : List Int} {g : rHp} : ∀ (ρ : Nat → Int) (γ : Nat → rHp), zO 16 S a g q37_3 ρ γ → zGl (fun _ _ _ => True) (sn37 a g) q37_3 ρ γ := by
  intro ρ γ h
  obtain ⟨ha, hg, hr, hf, hm, hc, hl⟩ := h
  have ha : a = [ρ 0, ρ 1, ρ 2, ρ 3, ρ 4, ρ 5, ρ 6, ρ 7, ρ 8, ρ 9, ρ 10, ρ 11, ρ 12, ρ 13, ρ 14, ρ 15] := ha
  subst ha
  subst hg
  obtain ⟨-, -, -, -, -, -, -, -, -, -, -, -, -, -, -, -, -, r17, -, -, -, -, -, r23, -⟩ := hr
  have r17 : ((-128) : Int) ≤ ρ 17 ∧ ρ 17 ≤ 127 := r17
  have r23 : (1 : Int) ≤ ρ 23 ∧ ρ 23 ≤ 1 := r23
  obtain ⟨-, -, -, -, -, -, -, -, -, -, f10, -, -, -, -, -, -, -, -, f19, -⟩ := hf
  have f10 : (0 : Int) ≤ -ρ 26 + ρ 2 + (-1) := f10
  have f19 : (0 : Int) ≤ -ρ 16 + ρ 2 + (-1) := f19
  obtain ⟨w_0, w_1, w_2⟩ : (0 ≤ -ρ 16 + ρ 2 + (-1)) ∧ (¬ (ρ 23 ≠ 1)) ∧ (0 ≤ -ρ 26 + ρ 2 + (-1)) := ⟨by omega, by omega, by omega⟩
  obtain ⟨-, m1, -, -, -, m5, m6, -, -, -, -, -, -, -, m14, m15, -, -, -, -, m20, m21, -, -, -, m25, -⟩ := hm
  have m1 : γ 0 15 0 34 = ρ 2 := m1
  have m5 : γ 0 15 0 44 = ρ 6 := m5
  have m6 : γ 0 73 0 (ρ 6) = ρ 7 := m6
  have m14 : γ 0 15 0 45 = ρ 15 := m14
  have m15 : γ 1 15 0 35 = ρ 16 := m15
  have m20 : γ 6 15 0 39 = ρ 22 := m20
  have m21 : γ 6 15 0 40 = ρ 23 := m21
  have m25 : γ 9 15 0 35 = ρ 26 := m25
  obtain ⟨⟨⟨⟨⟨⟨⟨⟨⟨⟨-, c3⟩, -⟩, -⟩, -⟩, c7⟩, c8⟩, -⟩, -⟩, -⟩, -⟩ := hc
  have c3 : γ 3 = rUp (γ 2) 79 0 (ρ 7 + 8 * ρ 6) (ρ 15) := c3
  have c7 : γ 7 = rUp (γ 6) 80 0 (4 * ρ 7 + 32 * ρ 6) (ρ 23) := c7
  have c8 : γ 8 = rUp (γ 7) 81 0 (4 * ρ 7 + 32 * ρ 6) (ρ 22) := c8
  obtain ⟨l0, l1, l2, l3, l4, l5, l6, l7, l8, l9, -⟩ := hl
  have l0 : sn7 [ρ 1, ρ 2] (γ 0) 0 0 (γ 1) := hS7 _ _ _ _ _ l0
  have l1 : sn33 [ρ 6, ρ 7] (γ 1) 0 (ρ 7 + 8 * ρ 6) (γ 2) := hS33 _ _ _ _ _ l1
  have l2 : sn6 [ρ 16, ρ 2] (γ 3) 0 (ρ 17) (γ 4) := hS6 _ _ _ _ _ l2
  have l3 : ρ 17 ≠ 33 := l3
  have l4 : sn9 [ρ 17] (γ 4) 0 0 (γ 5) := hS9 _ _ _ _ _ l4
  have l5 : sn20 [0, ρ 16, ρ 2, ρ 3, ρ 4, ρ 18, ρ 14, ρ 11, ρ 12, ρ 13, ρ 6] (γ 5) 0 1 (γ 6) := hS20 _ _ _ _ _ l5
  have l6 : sn7 [ρ 19, ρ 2] (γ 8) 0 0 (γ 9) := hS7 _ _ _ _ _ l6
  have l7 : sn6 [ρ 26, ρ 2] (γ 9) 0 (ρ 27) (γ 10) := hS6 _ _ _ _ _ l7
  have l8 : sn9 [ρ 27] (γ 10) 0 0 (γ 11) := hS9 _ _ _ _ _ l8
  have l9 : sn35 [ρ 16, ρ 26, ρ 2, ρ 20, ρ 21, ρ 6, ρ 7, ρ 8, ρ 22, ρ 11, ρ 24, ρ 25, ρ 23, ρ 15] (γ 11) 0 0 (γ 12) := hS35 _ _ _ _ _ l9
  have wl_0 : ρ 17 ≠ 33 := by omega
  show sn37 [ρ 0, ρ 1, ρ 2, ρ 3, ρ 4, ρ 5, ρ 6, ρ 7, ρ 8, ρ 9, ρ 10, ρ 11, ρ 12, ρ 13, ρ 14, ρ 15] (γ 0) 0 0 (γ 12)
  refine Eq.symm ?_
  show fn37 [ρ 0] (γ 0) = _
  unfold fn37
  refine (zLet_eq (show _ = ρ 0 from rfl)).trans ?_
  refine (zLet_eq m1).trans ?_
  refine (zLet_eq m5).trans ?_
  refine (zLet_eq m6).trans ?_
  refine (zLet_eq m14).trans ?_
  refine (zLet_eq (show fn7 [] (γ 0) = (0, 0, γ 1) from l0.symm)).trans ?_
  refine (zLet_eq (show _ = γ 1 from rfl)).trans ?_
  refine (zLet_eq m15).trans ?_
  refine (zLet_eq (show fn33 [] (γ 1) = (0, ρ 7 + 8 * ρ 6, γ 2) from l1.symm)).trans ?_
  refine (zLet_eq (show _ = γ 2 from rfl)).trans ?_
  refine (zLet_eq c3.symm).trans ?_
  refine (zLet_eq (show fn6 [ρ 16] (γ 3) = (0, ρ 17, γ 4) from l2.symm)).trans ?_
  refine (zLet_eq (show _ = γ 4 from rfl)).trans ?_
  refine (if_pos w_0).trans ?_
  refine (zLet_eq (show _ = ρ 17 from rfl)).trans ?_
  refine (if_pos wl_0).trans ?_
  refine (zLet_eq (show fn9 [ρ 17] (γ 4) = (0, 0, γ 5) from l4.symm)).trans ?_
  refine (zLet_eq (show _ = γ 5 from rfl)).trans ?_
  refine (if_neg zQ0_).trans ?_
  refine (zLet_eq (show fn20 [0] (γ 5) = (0, 1, γ 6) from l5.symm)).trans ?_
  refine (zLet_eq (show _ = γ 6 from rfl)).trans ?_
  refine (if_pos zQ1_).trans ?_
  refine (zLet_eq m20).trans ?_
  refine (zLet_eq m21).trans ?_
  refine (zLet_eq c7.symm).trans ?_
  refine (zLet_eq c8.symm).trans ?_
  refine (zLet_eq (show fn7 [] (γ 8) = (0, 0, γ 9) from l6.symm)).trans ?_
  refine (zLet_eq (show _ = γ 9 from rfl)).trans ?_
  refine (zLet_eq m25).trans ?_
  refine (if_neg w_1).trans ?_
  refine (zLet_eq (show fn6 [ρ 26] (γ 9) = (0, ρ 27, γ 10) from l7.symm)).trans ?_
  refine (zLet_eq (show _ = γ 10 from rfl)).trans ?_
  refine (if_pos w_2).trans ?_
  refine (zLet_eq (show _ = ρ 27 from rfl)).trans ?_
  refine (zLet_eq (show fn9 [ρ 27] (γ 10) = (0, 0, γ 11) from l8.symm)).trans ?_
  refine (zLet_eq (show _ = γ 11 from rfl)).trans ?_
  refine (if_neg zQ0_).trans ?_
  refine (zLet_eq (show fn35 [ρ 16] (γ 11) = (0, 0, γ 12) from l9.symm)).trans ?_
  refine (zLet_eq (show _ = γ 12 from rfl)).trans ?_
  refine (if_neg zQ0_).trans ?_
  rfl
theorem vn37_4 {S : Nat → zSpc} (hS6 : ∀ x g o v gz, S 6 x g o v gz → sn6 x g o v gz) (hS7 : ∀ x g o v gz, S 7 x g o v gz → sn7 x g o v gz) (hS8 : ∀ x g o v gz, S 8 x g o v gz → sn8 x g o v gz) (hS9 : ∀ x g o v gz, S 9 x g o v gz → sn9 x g o v gz) (hS12 : ∀ x g o v gz, S 12 x g o v gz → sn12 x g o v gz) (hS13 : ∀ x g o v gz, S 13 x g o v gz → sn13 x g o v gz) (hS15 : ∀ x g o v gz, S 15 x g o v gz → sn15 x g o v gz) (hS18 : ∀ x g o v gz, S 18 x g o v gz → sn18 x g o v gz) (hS20 : ∀ x g o v gz, S 20 x g o v gz → sn20 x g o v gz) (hS23 : ∀ x g o v gz, S 23 x g o v gz → sn23 x g o v gz) (hS33 : ∀ x g o v gz, S 33 x g o v gz → sn33 x g o v gz) (hS34 : ∀ x g o v gz, S 34 x g o v gz → sn34 x g o v gz) (hS35 : ∀ x g o v gz, S 35 x g o v gz → sn35 x g o v gz) (hS36 : ∀ x g o v gz, S 36 x g o v gz → sn36 x g o v gz) {a : List Int} {g : rHp} : ∀ (ρ : Nat → Int) (γ : Nat → rHp), zO 16 S a g q37_4 ρ γ → zGl (fun _ _ _ => True) (sn37 a g) q37_4 ρ γ := by
  intro ρ γ h
  obtain ⟨ha, hg, hr, hf, hm, hc, hl⟩ := h
  have ha : a = [ρ 0, ρ 1, ρ 2, ρ 3, ρ 4, ρ 5, ρ 6, ρ 7, ρ 8, ρ 9, ρ 10, ρ 11, ρ 12, ρ 13, ρ 14, ρ 15] := ha
  subst ha
  subst hg
  obtain ⟨-, -, -, -, -, -, -, -, -, -, -, -, -, -, -, -, -, r17, -, -, -, -, -, r23, -⟩ := hr
  have r17 : ((-128) : Int) ≤ ρ 17 ∧ ρ 17 ≤ 127 := r17
  have r23 : (1 : Int) ≤ ρ 23 ∧ ρ 23 ≤ 1 := r23
  obtain ⟨-, -, -, -, -, -, -, -, f8, -, -, -, -, -, -, -, -, -, -, f19, -⟩ := hf
  have f8 : (0 : Int) ≤ -ρ 26 + ρ 2 + (-1) := f8
  have f19 : (0 : Int) ≤ -ρ 16 + ρ 2 + (-1) := f19
  obtain ⟨w_0, w_1, w_2⟩ : (0 ≤ -ρ 16 + ρ 2 + (-1)) ∧ (¬ (ρ 23 ≠ 1)) ∧ (0 ≤ -ρ 26 + ρ 2 + (-1)) := ⟨by omega, by omega, by omega⟩
  obtain ⟨-, m1, -, -, -, m5, m6, -, -, -, -, -, -, -, m14, m15, -, -, -, -, m20, m21, -, -, -, m25, -⟩ := hm
  have m1 : γ 0 15 0 34 = ρ 2 := m1
  have m5 : γ 0 15 0 44 = ρ 6 := m5
  have m6 : γ 0 73 0 (ρ 6) = ρ 7 := m6
  have m14 : γ 0 15 0 45 = ρ 15 := m14
  have m15 : γ 1 15 0 35 = ρ 16 := m15
  have m20 : γ 6 15 0 39 = ρ 22 := m20
  have m21 : γ 6 15 0 40 = ρ 23 := m21
  have m25 : γ 9 15 0 35 = ρ 26 := m25
  obtain ⟨⟨⟨⟨⟨⟨⟨⟨⟨⟨-, c3⟩, -⟩, -⟩, -⟩, c7⟩, c8⟩, -⟩, -⟩, -⟩, -⟩ := hc
  have c3 : γ 3 = rUp (γ 2) 79 0 (ρ 7 + 8 * ρ 6) (ρ 15) := c3
  have c7 : γ 7 = rUp (γ 6) 80 0 (4 * ρ 7 + 32 * ρ 6) (ρ 23) := c7
  have c8 : γ 8 = rUp (γ 7) 81 0 (4 * ρ 7 + 32 * ρ 6) (ρ 22) := c8
  obtain ⟨l0, l1, l2, l3, l4, l5, l6, l7, l8, l9, -⟩ := hl
  have l0 : sn7 [ρ 1, ρ 2] (γ 0) 0 0 (γ 1) := hS7 _ _ _ _ _ l0
  have l1 : sn33 [ρ 6, ρ 7] (γ 1) 0 (ρ 7 + 8 * ρ 6) (γ 2) := hS33 _ _ _ _ _ l1
  have l2 : sn6 [ρ 16, ρ 2] (γ 3) 0 (ρ 17) (γ 4) := hS6 _ _ _ _ _ l2
  have l3 : ρ 17 ≠ 33 := l3
  have l4 : sn9 [ρ 17] (γ 4) 0 0 (γ 5) := hS9 _ _ _ _ _ l4
  have l5 : sn20 [0, ρ 16, ρ 2, ρ 3, ρ 4, ρ 18, ρ 14, ρ 11, ρ 12, ρ 13, ρ 6] (γ 5) 0 1 (γ 6) := hS20 _ _ _ _ _ l5
  have l6 : sn7 [ρ 19, ρ 2] (γ 8) 0 0 (γ 9) := hS7 _ _ _ _ _ l6
  have l7 : sn6 [ρ 26, ρ 2] (γ 9) 0 (ρ 27) (γ 10) := hS6 _ _ _ _ _ l7
  have l8 : sn9 [ρ 27] (γ 10) 0 0 (γ 11) := hS9 _ _ _ _ _ l8
  have l9 : sn35 [ρ 16, ρ 26, ρ 2, ρ 20, ρ 21, ρ 6, ρ 7, ρ 8, ρ 22, ρ 11, ρ 24, ρ 25, ρ 23, ρ 15] (γ 11) 0 1 (γ 12) := hS35 _ _ _ _ _ l9
  have wl_0 : ρ 17 ≠ 33 := by omega
  show sn37 [ρ 0, ρ 1, ρ 2, ρ 3, ρ 4, ρ 5, ρ 6, ρ 7, ρ 8, ρ 9, ρ 10, ρ 11, ρ 12, ρ 13, ρ 14, ρ 15] (γ 0) 0 1 (γ 12)
  refine Eq.symm ?_
  show fn37 [ρ 0] (γ 0) = _
  unfold fn37
  refine (zLet_eq (show _ = ρ 0 from rfl)).trans ?_
  refine (zLet_eq m1).trans ?_
  refine (zLet_eq m5).trans ?_
  refine (zLet_eq m6).trans ?_
  refine (zLet_eq m14).trans ?_
  refine (zLet_eq (show fn7 [] (γ 0) = (0, 0, γ 1) from l0.symm)).trans ?_
  refine (zLet_eq (show _ = γ 1 from rfl)).trans ?_
  refine (zLet_eq m15).trans ?_
  refine (zLet_eq (show fn33 [] (γ 1) = (0, ρ 7 + 8 * ρ 6, γ 2) from l1.symm)).trans ?_
  refine (zLet_eq (show _ = γ 2 from rfl)).trans ?_
  refine (zLet_eq c3.symm).trans ?_
  refine (zLet_eq (show fn6 [ρ 16] (γ 3) = (0, ρ 17, γ 4) from l2.symm)).trans ?_
  refine (zLet_eq (show _ = γ 4 from rfl)).trans ?_
  refine (if_pos w_0).trans ?_
  refine (zLet_eq (show _ = ρ 17 from rfl)).trans ?_
  refine (if_pos wl_0).trans ?_
  refine (zLet_eq (show fn9 [ρ 17] (γ 4) = (0, 0, γ 5) from l4.symm)).trans ?_
  refine (zLet_eq (show _ = γ 5 from rfl)).trans ?_
  refine (if_neg zQ0_).trans ?_
  refine (zLet_eq (show fn20 [0] (γ 5) = (0, 1, γ 6) from l5.symm)).trans ?_
  refine (zLet_eq (show _ = γ 6 from rfl)).trans ?_
  refine (if_pos zQ1_).trans ?_
  refine (zLet_eq m20).trans ?_
  refine (zLet_eq m21).trans ?_
  refine (zLet_eq c7.symm).trans ?_
  refine (zLet_eq c8.symm).trans ?_
  refine (zLet_eq (show fn7 [] (γ 8) = (0, 0, γ 9) from l6.symm)).trans ?_
  refine (zLet_eq (show _ = γ 9 from rfl)).trans ?_
  refine (zLet_eq m25).trans ?_
  refine (if_neg w_1).trans ?_
  refine (zLet_eq (show fn6 [ρ 26] (γ 9) = (0, ρ 27, γ 10) from l7.symm)).trans ?_
  refine (zLet_eq (show _ = γ 10 from rfl)).trans ?_
  refine (if_pos w_2).trans ?_
  refine (zLet_eq (show _ = ρ 27 from rfl)).trans ?_
  refine (zLet_eq (show fn9 [ρ 27] (γ 10) = (0, 0, γ 11) from l8.symm)).trans ?_
  refine (zLet_eq (show _ = γ 11 from rfl)).trans ?_
  refine (if_neg zQ0_).trans ?_
  refine (zLet_eq (show fn35 [ρ 16] (γ 11) = (0, 1, γ 12) from l9.symm)).trans ?_
  refine (zLet_eq (show _ = γ 12 from rfl)).trans ?_
  refine (if_pos zQ1_).trans ?_
  rfl
theorem vn37_5 {S : Nat → zSpc} (hS6 : ∀ x g o v gz, S 6 x g o v gz → sn6 x g o v gz) (hS7 : ∀ x g o v gz, S 7 x g o v gz → sn7 x g o v gz) (hS8 : ∀ x g o v gz, S 8 x g o v gz → sn8 x g o v gz) (hS9 : ∀ x g o v gz, S 9 x g o v gz → sn9 x g o v gz) (hS12 : ∀ x g o v gz, S 12 x g o v gz → sn12 x g o v gz) (hS13 : ∀ x g o v gz, S 13 x g o v gz → sn13 x g o v gz) (hS15 : ∀ x g o v gz, S 15 x g o v gz → sn15 x g o v gz) (hS18 : ∀ x g o v gz, S 18 x g o v gz → sn18 x g o v gz) (hS20 : ∀ x g o v gz, S 20 x g o v gz → sn20 x g o v gz) (hS23 : ∀ x g o v gz, S 23 x g o v gz → sn23 x g o v gz) (hS33 : ∀ x g o v gz, S 33 x g o v gz → sn33 x g o v gz) (hS34 : ∀ x g o v gz, S 34 x g o v gz → sn34 x g o v gz) (hS35 : ∀ x g o v gz, S 35 x g o v gz → sn35 x g o v gz) (hS36 : ∀ x g o v gz, S 36 x g o v gz → sn36 x g o v gz) {a : List Int} {g : rHp} : ∀ (ρ : Nat → Int) (γ : Nat → rHp), zO 16 S a g q37_5 ρ γ → zGl (fun _ _ _ => True) (sn37 a g) q37_5 ρ γ := by
  intro ρ γ h
  obtain ⟨ha, hg, hr, hf, hm, hc, hl⟩ := h
  have ha : a = [ρ 0, ρ 1, ρ 2, ρ 3, ρ 4, ρ 5, ρ 6, ρ 7, ρ 8, ρ 9, ρ 10, ρ 11, ρ 12, ρ 13, ρ 14, ρ 15] := ha
  subst ha
  subst hg
  obtain ⟨-, -, -, -, -, -, -, -, -, -, -, -, -, -, -, -, -, r17, -, -, -, -, -, r23, -⟩ := hr
  have r17 : ((-128) : Int) ≤ ρ 17 ∧ ρ 17 ≤ 127 := r17
  have r23 : (1 : Int) ≤ ρ 23 ∧ ρ 23 ≤ 1 := r23
  obtain ⟨f0, -, -, -, -, -, -, -, -, -, -, -, f12, -⟩ := hf
  have f0 : (0 : Int) ≤ -ρ 26 + ρ 2 + (-1) := f0
  have f12 : (0 : Int) ≤ -ρ 16 + ρ 2 + (-1) := f12
  obtain ⟨w_0, w_1, w_2⟩ : (0 ≤ -ρ 16 + ρ 2 + (-1)) ∧ (¬ (ρ 23 ≠ 1)) ∧ (0 ≤ -ρ 26 + ρ 2 + (-1)) := ⟨by omega, by omega, by omega⟩
  obtain ⟨-, m1, -, -, -, m5, m6, -, -, -, -, -, -, -, m14, m15, -, -, -, -, m20, m21, -, -, -, m25, -⟩ := hm
  have m1 : γ 0 15 0 34 = ρ 2 := m1
  have m5 : γ 0 15 0 44 = ρ 6 := m5
  have m6 : γ 0 73 0 (ρ 6) = ρ 7 := m6
  have m14 : γ 0 15 0 45 = ρ 15 := m14
  have m15 : γ 1 15 0 35 = ρ 16 := m15
  have m20 : γ 6 15 0 39 = ρ 22 := m20
  have m21 : γ 6 15 0 40 = ρ 23 := m21
  have m25 : γ 9 15 0 35 = ρ 26 := m25
  obtain ⟨⟨⟨⟨⟨⟨⟨⟨⟨⟨-, c3⟩, -⟩, -⟩, -⟩, c7⟩, c8⟩, -⟩, -⟩, -⟩, -⟩ := hc
  have c3 : γ 3 = rUp (γ 2) 79 0 (ρ 7 + 8 * ρ 6) (ρ 15) := c3
  have c7 : γ 7 = rUp (γ 6) 80 0 (4 * ρ 7 + 32 * ρ 6) (ρ 23) := c7
  have c8 : γ 8 = rUp (γ 7) 81 0 (4 * ρ 7 + 32 * ρ 6) (ρ 22) := c8
  obtain ⟨l0, l1, l2, l3, l4, l5, l6, l7, l8, l9, -⟩ := hl
  have l0 : sn7 [ρ 1, ρ 2] (γ 0) 0 0 (γ 1) := hS7 _ _ _ _ _ l0
  have l1 : sn33 [ρ 6, ρ 7] (γ 1) 0 (ρ 7 + 8 * ρ 6) (γ 2) := hS33 _ _ _ _ _ l1
  have l2 : sn6 [ρ 16, ρ 2] (γ 3) 0 (ρ 17) (γ 4) := hS6 _ _ _ _ _ l2
  have l3 : ρ 17 ≠ 33 := l3
  have l4 : sn9 [ρ 17] (γ 4) 0 0 (γ 5) := hS9 _ _ _ _ _ l4
  have l5 : sn20 [0, ρ 16, ρ 2, ρ 3, ρ 4, ρ 18, ρ 14, ρ 11, ρ 12, ρ 13, ρ 6] (γ 5) 0 1 (γ 6) := hS20 _ _ _ _ _ l5
  have l6 : sn7 [ρ 19, ρ 2] (γ 8) 0 0 (γ 9) := hS7 _ _ _ _ _ l6
  have l7 : sn6 [ρ 26, ρ 2] (γ 9) 0 (ρ 27) (γ 10) := hS6 _ _ _ _ _ l7
  have l8 : sn9 [ρ 27] (γ 10) 0 1 (γ 11) := hS9 _ _ _ _ _ l8
  have l9 : sn12 [ρ 26, ρ 2, ρ 24, ρ 11, ρ 25] (γ 11) 0 0 (γ 12) := hS12 _ _ _ _ _ l9
  have wl_0 : ρ 17 ≠ 33 := by omega
  show sn37 [ρ 0, ρ 1, ρ 2, ρ 3, ρ 4, ρ 5, ρ 6, ρ 7, ρ 8, ρ 9, ρ 10, ρ 11, ρ 12, ρ 13, ρ 14, ρ 15] (γ 0) 0 0 (γ 12)
  refine Eq.symm ?_
  show fn37 [ρ 0] (γ 0) = _
  unfold fn37
  refine (zLet_eq (show _ = ρ 0 from rfl)).trans ?_
  refine (zLet_eq m1).trans ?_
  refine (zLet_eq m5).trans ?_
  refine (zLet_eq m6).trans ?_
  refine (zLet_eq m14).trans ?_
  refine (zLet_eq (show fn7 [] (γ 0) = (0, 0, γ 1) from l0.symm)).trans ?_
  refine (zLet_eq (show _ = γ 1 from rfl)).trans ?_
  refine (zLet_eq m15).trans ?_
  refine (zLet_eq (show fn33 [] (γ 1) = (0, ρ 7 + 8 * ρ 6, γ 2) from l1.symm)).trans ?_
  refine (zLet_eq (show _ = γ 2 from rfl)).trans ?_
  refine (zLet_eq c3.symm).trans ?_
  refine (zLet_eq (show fn6 [ρ 16] (γ 3) = (0, ρ 17, γ 4) from l2.symm)).trans ?_
  refine (zLet_eq (show _ = γ 4 from rfl)).trans ?_
  refine (if_pos w_0).trans ?_
  refine (zLet_eq (show _ = ρ 17 from rfl)).trans ?_
  refine (if_pos wl_0).trans ?_
  refine (zLet_eq (show fn9 [ρ 17] (γ 4) = (0, 0, γ 5) from l4.symm)).trans ?_
  refine (zLet_eq (show _ = γ 5 from rfl)).trans ?_
  refine (if_neg zQ0_).trans ?_
  refine (zLet_eq (show fn20 [0] (γ 5) = (0, 1, γ 6) from l5.symm)).trans ?_
  refine (zLet_eq (show _ = γ 6 from rfl)).trans ?_
  refine (if_pos zQ1_).trans ?_
  refine (zLet_eq m20).trans ?_
  refine (zLet_eq m21).trans ?_
  refine (zLet_eq c7.symm).trans ?_
  refine (zLet_eq c8.symm).trans ?_
  refine (zLet_eq (show fn7 [] (γ 8) = (0, 0, γ 9) from l6.symm)).trans ?_
  refine (zLet_eq (show _ = γ 9 from rfl)).trans ?_
  refine (zLet_eq m25).trans ?_
  refine (if_neg w_1).trans ?_
  refine (zLet_eq (show fn6 [ρ 26] (γ 9) = (0, ρ 27, γ 10) from l7.symm)).trans ?_
  refine (zLet_eq (show _ = γ 10 from rfl)).trans ?_
  refine (if_pos w_2).trans ?_
  refine (zLet_eq (show _ = ρ 27 from rfl)).trans ?_
  refine (zLet_eq (show fn9 [ρ 27] (γ 10) = (0, 1, γ 11) from l8.symm)).trans ?_
  refine (zLet_eq (show _ = γ 11 from rfl)).trans ?_
  refine (if_pos zQ1_).trans ?_
  refine (zLet_eq (show fn12 [] (γ 11) = (0, 0, γ 12) from l9.symm)).trans ?_
  refine (zLet_eq (show _ = γ 12 from rfl)).trans ?_
  refine (if_neg zQ0_).trans ?_
  rfl
theorem vn37_6 {S : Nat → zSpc} (hS6 : ∀ x g o v gz, S 6 x g o v gz → sn6 x g o v gz) (hS7 : ∀ x g o v gz, S 7 x g o v gz → sn7 x g o v gz) (hS8 : ∀ x g o v gz, S 8 x g o v gz → sn8 x g o v gz) (hS9 : ∀ x g o v gz, S 9 x g o v gz → sn9 x g o v gz) (hS12 : ∀ x g o v gz, S 12 x g o v gz → sn12 x g o v gz) (hS13 : ∀ x g o v gz, S 13 x g o v gz → sn13 x g o v gz) (hS15 : ∀ x g o v gz, S 15 x g o v gz → sn15 x g o v gz) (hS18 : ∀ x g o v gz, S 18 x g o v gz → sn18 x g o v gz) (hS20 : ∀ x g o v gz, S 20 x g o v gz → sn20 x g o v gz) (hS23 : ∀ x g o v gz, S 23 x g o v gz → sn23 x g o v gz) (hS33 : ∀ x g o v gz, S 33 x g o v gz → sn33 x g o v gz) (hS34 : ∀ x g o v gz, S 34 x g o v gz → sn34 x g o v gz) (hS35 : ∀ x g o v gz, S 35 x g o v gz → sn35 x g o v gz) (hS36 : ∀ x g o v gz, S 36 x g o v gz → sn36 x g o v gz) {a : List Int} {g : rHp} : ∀ (ρ : Nat → Int) (γ : Nat → rHp), zO 16 S a g q37_6 ρ γ → zGl (fun _ _ _ => True) (sn37 a g) q37_6 ρ γ := by
  intro ρ γ h
  obtain ⟨ha, hg, hr, hf, hm, hc, hl⟩ := h
  have ha : a = [ρ 0, ρ 1, ρ 2, ρ 3, ρ 4, ρ 5, ρ 6, ρ 7, ρ 8, ρ 9, ρ 10, ρ 11, ρ 12, ρ 13, ρ 14, ρ 15] := ha
  subst ha
  subst hg
  obtain ⟨-, -, -, -, -, -, -, -, -, -, -, -, -, -, -, -, -, r17, -, -, -, -, -, r23, -⟩ := hr
  have r17 : ((-128) : Int) ≤ ρ 17 ∧ ρ 17 ≤ 127 := r17
  have r23 : (1 : Int) ≤ ρ 23 ∧ ρ 23 ≤ 1 := r23
  obtain ⟨-, -, f2, -, -, -, -, -, -, -, -, -, -, -, -, -, f16, -⟩ := hf
  have f2 : (0 : Int) ≤ -ρ 26 + ρ 2 + (-1) := f2
  have f16 : (0 : Int) ≤ -ρ 16 + ρ 2 + (-1) := f16
  obtain ⟨w_0, w_1, w_2⟩ : (0 ≤ -ρ 16 + ρ 2 + (-1)) ∧ (¬ (ρ 23 ≠ 1)) ∧ (0 ≤ -ρ 26 + ρ 2 + (-1)) := ⟨by omega, by omega, by omega⟩
  obtain ⟨-, m1, -, -, -, m5, m6, -, -, -, -, -, -, -, m14, m15, -, -, -, -, m20, m21, -, -, -, m25, -⟩ := hm
  have m1 : γ 0 15 0 34 = ρ 2 := m1
  have m5 : γ 0 15 0 44 = ρ 6 := m5
  have m6 : γ 0 73 0 (ρ 6) = ρ 7 := m6
  have m14 : γ 0 15 0 45 = ρ 15 := m14
  have m15 : γ 1 15 0 35 = ρ 16 := m15
  have m20 : γ 6 15 0 39 = ρ 22 := m20
  have m21 : γ 6 15 0 40 = ρ 23 := m21
  have m25 : γ 9 15 0 35 = ρ 26 := m25
  obtain ⟨⟨⟨⟨⟨⟨⟨⟨⟨⟨⟨⟨-, c3⟩, -⟩, -⟩, -⟩, c7⟩, c8⟩, -⟩, -⟩, -⟩, -⟩, -⟩, -⟩ := hc
  have c3 : γ 3 = rUp (γ 2) 79 0 (ρ 7 + 8 * ρ 6) (ρ 15) := c3
  have c7 : γ 7 = rUp (γ 6) 80 0 (4 * ρ 7 + 32 * ρ 6) (ρ 23) := c7
  have c8 : γ 8 = rUp (γ 7) 81 0 (4 * ρ 7 + 32 * ρ 6) (ρ 22) := c8
  obtain ⟨l0, l1, l2, l3, l4, l5, l6, l7, l8, l9, l10, l11, -⟩ := hl
  have l0 : sn7 [ρ 1, ρ 2] (γ 0) 0 0 (γ 1) := hS7 _ _ _ _ _ l0
  have l1 : sn33 [ρ 6, ρ 7] (γ 1) 0 (ρ 7 + 8 * ρ 6) (γ 2) := hS33 _ _ _ _ _ l1
  have l2 : sn6 [ρ 16, ρ 2] (γ 3) 0 (ρ 17) (γ 4) := hS6 _ _ _ _ _ l2
  have l3 : ρ 17 ≠ 33 := l3
  have l4 : sn9 [ρ 17] (γ 4) 0 0 (γ 5) := hS9 _ _ _ _ _ l4
  have l5 : sn20 [0, ρ 16, ρ 2, ρ 3, ρ 4, ρ 18, ρ 14, ρ 11, ρ 12, ρ 13, ρ 6] (γ 5) 0 1 (γ 6) := hS20 _ _ _ _ _ l5
  have l6 : sn7 [ρ 19, ρ 2] (γ 8) 0 0 (γ 9) := hS7 _ _ _ _ _ l6
  have l7 : sn6 [ρ 26, ρ 2] (γ 9) 0 (ρ 27) (γ 10) := hS6 _ _ _ _ _ l7
  have l8 : sn9 [ρ 27] (γ 10) 0 1 (γ 11) := hS9 _ _ _ _ _ l8
  have l9 : sn12 [ρ 26, ρ 2, ρ 24, ρ 11, ρ 25] (γ 11) 0 1 (γ 12) := hS12 _ _ _ _ _ l9
  have l10 : sn13 [105, 115, 0, 0, 0, ρ 26, ρ 29] (γ 12) 0 0 (γ 13) := hS13 _ _ _ _ _ l10
  have l11 : sn8 [ρ 26, ρ 2, ρ 11] (γ 13) 0 0 (γ 14) := hS8 _ _ _ _ _ l11
  have wl_0 : ρ 17 ≠ 33 := by omega
  show sn37 [ρ 0, ρ 1, ρ 2, ρ 3, ρ 4, ρ 5, ρ 6, ρ 7, ρ 8, ρ 9, ρ 10, ρ 11, ρ 12, ρ 13, ρ 14, ρ 15] (γ 0) 0 0 (γ 14)
  refine Eq.symm ?_
  show fn37 [ρ 0] (γ 0) = _
  unfold fn37
  refine (zLet_eq (show _ = ρ 0 from rfl)).trans ?_
  refine (zLet_eq m1).trans ?_
  refine (zLet_eq m5).trans ?_
  refine (zLet_eq m6).trans ?_
  refine (zLet_eq m14).trans ?_
  refine (zLet_eq (show fn7 [] (γ 0) = (0, 0, γ 1) from l0.symm)).trans ?_
  refine (zLet_eq (show _ = γ 1 from rfl)).trans ?_
  refine (zLet_eq m15).trans ?_
  refine (zLet_eq (show fn33 [] (γ 1) = (0, ρ 7 + 8 * ρ 6, γ 2) from l1.symm)).trans ?_
  refine (zLet_eq (show _ = γ 2 from rfl)).trans ?_
  refine (zLet_eq c3.symm).trans ?_
  refine (zLet_eq (show fn6 [ρ 16] (γ 3) = (0, ρ 17, γ 4) from l2.symm)).trans ?_
  refine (zLet_eq (show _ = γ 4 from rfl)).trans ?_
  refine (if_pos w_0).trans ?_
  refine (zLet_eq (show _ = ρ 17 from rfl)).trans ?_
  refine (if_pos wl_0).trans ?_
  refine (zLet_eq (show fn9 [ρ 17] (γ 4) = (0, 0, γ 5) from l4.symm)).trans ?_
  refine (zLet_eq (show _ = γ 5 from rfl)).trans ?_
  refine (if_neg zQ0_).trans ?_
  refine (zLet_eq (show fn20 [0] (γ 5) = (0, 1, γ 6) from l5.symm)).trans ?_
  refine (zLet_eq (show _ = γ 6 from rfl)).trans ?_
  refine (if_pos zQ1_).trans ?_
  refine (zLet_eq m20).trans ?_
  refine (zLet_eq m21).trans ?_
  refine (zLet_eq c7.symm).trans ?_
  refine (zLet_eq c8.symm).trans ?_
  refine (zLet_eq (show fn7 [] (γ 8) = (0, 0, γ 9) from l6.symm)).trans ?_
  refine (zLet_eq (show _ = γ 9 from rfl)).trans ?_
  refine (zLet_eq m25).trans ?_
  refine (if_neg w_1).trans ?_
  refine (zLet_eq (show fn6 [ρ 26] (γ 9) = (0, ρ 27, γ 10) from l7.symm)).trans ?_
  refine (zLet_eq (show _ = γ 10 from rfl)).trans ?_
  refine (if_pos w_2).trans ?_
  refine (zLet_eq (show _ = ρ 27 from rfl)).trans ?_
  refine (zLet_eq (show fn9 [ρ 27] (γ 10) = (0, 1, γ 11) from l8.symm)).trans ?_
  refine (zLet_eq (show _ = γ 11 from rfl)).trans ?_
  refine (if_pos zQ1_).trans ?_
  refine (zLet_eq (show fn12 [] (γ 11) = (0, 1, γ 12) from l9.symm)).trans ?_
  refine (zLet_eq (show _ = γ 12 from rfl)).trans ?_
  refine (if_pos zQ1_).trans ?_
  refine (zLet_eq (show fn13 [105, 115, 0, 0, 0] (γ 12) = (0, 0, γ 13) from l10.symm)).trans ?_
  refine (zLet_eq (show _ = γ 13 from rfl)).trans ?_
  refine (if_neg zQ0_).trans ?_
  refine (zLet_eq (show fn8 [ρ 26] (γ 13) = (0, 0, γ 14) from l11.symm)).trans ?_
  refine (zLet_eq (show _ = γ 14 from rfl)).trans ?_
  rfl
theorem vn37_7 {S : Nat → zSpc} (hS6 : ∀ x g o v gz, S 6 x g o v gz → sn6 x g o v gz) (hS7 : ∀ x g o v gz, S 7 x g o v gz → sn7 x g o v gz) (hS8 : ∀ x g o v gz, S 8 x g o v gz → sn8 x g o v gz) (hS9 : ∀ x g o v gz, S 9 x g o v gz → sn9 x g o v gz) (hS12 : ∀ x g o v gz, S 12 x g o v gz → sn12 x g o v gz) (hS13 : ∀ x g o v gz, S 13 x g o v gz → sn13 x g o v gz) (hS15 : ∀ x g o v gz, S 15 x g o v gz → sn15 x g o v gz) (hS18 : ∀ x g o v gz, S 18 x g o v gz → sn18 x g o v gz) (hS20 : ∀ x g o v gz, S 20 x g o v gz → sn20 x g o v gz) (hS23 : ∀ x g o v gz, S 23 x g o v gz → sn23 x g o v gz) (hS33 : ∀ x g o v gz, S 33 x g o v gz → sn33 x g o v gz) (hS34 : ∀ x g o v gz, S 34 x g o v gz → sn34 x g o v gz) (hS35 : ∀ x g o v gz, S 35 x g o v gz → sn35 x g o v gz) (hS36 : ∀ x g o v gz, S 36 x g o v gz → sn36 x g o v gz) {a : List Int} {g : rHp} : ∀ (ρ : Nat → Int) (γ : Nat → rHp), zO 16 S a g q37_7 ρ γ → zGl (fun _ _ _ => True) (sn37 a g) q37_7 ρ γ := by
  intro ρ γ h
  obtain ⟨ha, hg, hr, hf, hm, hc, hl⟩ := h
  have ha : a = [ρ 0, ρ 1, ρ 2, ρ 3, ρ 4, ρ 5, ρ 6, ρ 7, ρ 8, ρ 9, ρ 10, ρ 11, ρ 12, ρ 13, ρ 14, ρ 15] := ha
  subst ha
  subst hg
  obtain ⟨-, -, -, -, -, -, -, -, -, -, -, -, -, -, -, -, -, r17, -, -, -, -, -, r23, -⟩ := hr
  have r17 : ((-128) : Int) ≤ ρ 17 ∧ ρ 17 ≤ 127 := r17
  have r23 : (1 : Int) ≤ ρ 23 ∧ ρ 23 ≤ 1 := r23
  obtain ⟨-, -, -, -, -, -, -, -, -, -, f10, -, -, -, -, -, -, -, -, -, -, -, -, f23, -⟩ := hf
  have f10 : (0 : Int) ≤ -ρ 26 + ρ 2 + (-1) := f10
  have f23 : (0 : Int) ≤ -ρ 16 + ρ 2 + (-1) := f23
  obtain ⟨w_0, w_1, w_2⟩ : (0 ≤ -ρ 16 + ρ 2 + (-1)) ∧ (¬ (ρ 23 ≠ 1)) ∧ (0 ≤ -ρ 26 + ρ 2 + (-1)) := ⟨by omega, by omega, by omega⟩
  obtain ⟨-, m1, -, -, -, m5, m6, -, -, -, -, -, -, -, m14, m15, -, -, -, -, m20, m21, -, -, -, m25, -⟩ := hm
  have m1 : γ 0 15 0 34 = ρ 2 := m1
  have m5 : γ 0 15 0 44 = ρ 6 := m5
  have m6 : γ 0 73 0 (ρ 6) = ρ 7 := m6
  have m14 : γ 0 15 0 45 = ρ 15 := m14
  have m15 : γ 1 15 0 35 = ρ 16 := m15
  have m20 : γ 6 15 0 39 = ρ 22 := m20
  have m21 : γ 6 15 0 40 = ρ 23 := m21
  have m25 : γ 9 15 0 35 = ρ 26 := m25
  obtain ⟨⟨⟨⟨⟨⟨⟨⟨⟨⟨⟨⟨⟨-, c3⟩, -⟩, -⟩, -⟩, c7⟩, c8⟩, -⟩, -⟩, -⟩, -⟩, -⟩, -⟩, -⟩ := hc
  have c3 : γ 3 = rUp (γ 2) 79 0 (ρ 7 + 8 * ρ 6) (ρ 15) := c3
  have c7 : γ 7 = rUp (γ 6) 80 0 (4 * ρ 7 + 32 * ρ 6) (ρ 23) := c7
  have c8 : γ 8 = rUp (γ 7) 81 0 (4 * ρ 7 + 32 * ρ 6) (ρ 22) := c8
  obtain ⟨l0, l1, l2, l3, l4, l5, l6, l7, l8, l9, l10, l11, l12, -⟩ := hl
  have l0 : sn7 [ρ 1, ρ 2] (γ 0) 0 0 (γ 1) := hS7 _ _ _ _ _ l0
  have l1 : sn33 [ρ 6, ρ 7] (γ 1) 0 (ρ 7 + 8 * ρ 6) (γ 2) := hS33 _ _ _ _ _ l1
  have l2 : sn6 [ρ 16, ρ 2] (γ 3) 0 (ρ 17) (γ 4) := hS6 _ _ _ _ _ l2
  have l3 : ρ 17 ≠ 33 := l3
  have l4 : sn9 [ρ 17] (γ 4) 0 0 (γ 5) := hS9 _ _ _ _ _ l4
  have l5 : sn20 [0, ρ 16, ρ 2, ρ 3, ρ 4, ρ 18, ρ 14, ρ 11, ρ 12, ρ 13, ρ 6] (γ 5) 0 1 (γ 6) := hS20 _ _ _ _ _ l5
  have l6 : sn7 [ρ 19, ρ 2] (γ 8) 0 0 (γ 9) := hS7 _ _ _ _ _ l6
  have l7 : sn6 [ρ 26, ρ 2] (γ 9) 0 (ρ 27) (γ 10) := hS6 _ _ _ _ _ l7
  have l8 : sn9 [ρ 27] (γ 10) 0 1 (γ 11) := hS9 _ _ _ _ _ l8
  have l9 : sn12 [ρ 26, ρ 2, ρ 24, ρ 11, ρ 25] (γ 11) 0 1 (γ 12) := hS12 _ _ _ _ _ l9
  have l10 : sn13 [105, 115, 0, 0, 0, ρ 26, ρ 29] (γ 12) 0 1 (γ 13) := hS13 _ _ _ _ _ l10
  have l11 : sn18 [ρ 22, ρ 15] (γ 13) 0 0 (γ 14) := hS18 _ _ _ _ _ l11
  have l12 : sn34 [1, ρ 28, ρ 2, ρ 20, ρ 21, ρ 6, ρ 7, ρ 8, ρ 22, ρ 11, ρ 26, ρ 29, ρ 23, ρ 15] (γ 14) 0 0 (γ 15) := hS34 _ _ _ _ _ l12
  have wl_0 : ρ 17 ≠ 33 := by omega
  show sn37 [ρ 0, ρ 1, ρ 2, ρ 3, ρ 4, ρ 5, ρ 6, ρ 7, ρ 8, ρ 9, ρ 10, ρ 11, ρ 12, ρ 13, ρ 14, ρ 15] (γ 0) 0 0 (γ 15)
  refine Eq.symm ?_
  show fn37 [ρ 0] (γ 0) = _
  unfold fn37
  refine (zLet_eq (show _ = ρ 0 from rfl)).trans ?_
  refine (zLet_eq m1).trans ?_
  refine (zLet_eq m5).trans ?_
  refine (zLet_eq m6).trans ?_
  refine (zLet_eq m14).trans ?_
  refine (zLet_eq (show fn7 [] (γ 0) = (0, 0, γ 1) from l0.symm)).trans ?_
  refine (zLet_eq (show _ = γ 1 from rfl)).trans ?_
  refine (zLet_eq m15).trans ?_
  refine (zLet_eq (show fn33 [] (γ 1) = (0, ρ 7 + 8 * ρ 6, γ 2) from l1.symm)).trans ?_
  refine (zLet_eq (show _ = γ 2 from rfl)).trans ?_
  refine (zLet_eq c3.symm).trans ?_
  refine (zLet_eq (show fn6 [ρ 16] (γ 3) = (0, ρ 17, γ 4) from l2.symm)).trans ?_
  refine (zLet_eq (show _ = γ 4 from rfl)).trans ?_
  refine (if_pos w_0).trans ?_
  refine (zLet_eq (show _ = ρ 17 from rfl)).trans ?_
  refine (if_pos wl_0).trans ?_
  refine (zLet_eq (show fn9 [ρ 17] (γ 4) = (0, 0, γ 5) from l4.symm)).trans ?_
  refine (zLet_eq (show _ = γ 5 from rfl)).trans ?_
  refine (if_neg zQ0_).trans ?_
  refine (zLet_eq (show fn20 [0] (γ 5) = (0, 1, γ 6) from l5.symm)).trans ?_
  refine (zLet_eq (show _ = γ 6 from rfl)).trans ?_
  refine (if_pos zQ1_).trans ?_
  refine (zLet_eq m20).trans ?_
  refine (zLet_eq m21).trans ?_
  refine (zLet_eq c7.symm).trans ?_
  refine (zLet_eq c8.symm).trans ?_
  refine (zLet_eq (show fn7 [] (γ 8) = (0, 0, γ 9) from l6.symm)).trans ?_
  refine (zLet_eq (show _ = γ 9 from rfl)).trans ?_
  refine (zLet_eq m25).trans ?_
  refine (if_neg w_1).trans ?_
  refine (zLet_eq (show fn6 [ρ 26] (γ 9) = (0, ρ 27, γ 10) from l7.symm)).trans ?_
  refine (zLet_eq (show _ = γ 10 from rfl)).trans ?_
  refine (if_pos w_2).trans ?_
  refine (zLet_eq (show _ = ρ 27 from rfl)).trans ?_
  refine (zLet_eq (show fn9 [ρ 27] (γ 10) = (0, 1, γ 11) from l8.symm)).trans ?_
  refine (zLet_eq (show _ = γ 11 from rfl)).trans ?_
  refine (if_pos zQ1_).trans ?_
  refine (zLet_eq (show fn12 [] (γ 11) = (0, 1, γ 12) from l9.symm)).trans ?_
  refine (zLet_eq (show _ = γ 12 from rfl)).trans ?_
  refine (if_pos zQ1_).trans ?_
  refine (zLet_eq (show fn13 [105, 115, 0, 0, 0] (γ 12) = (0, 1, γ 13) from l10.symm)).trans ?_
  refine (zLet_eq (show _ = γ 13 from rfl)).trans ?_
  refine (if_pos zQ1_).trans ?_
  refine (zLet_eq (show fn18 [ρ 22] (γ 13) = (0, 0, γ 14) from l11.symm)).trans ?_
  refine (zLet_eq (show _ = γ 14 from rfl)).trans ?_
  refine (if_neg zQ0_).trans ?_
  refine (zLet_eq (show fn34 [1] (γ 14) = (0, 0, γ 15) from l12.symm)).trans ?_
  refine (zLet_eq (show _ = γ 15 from rfl)).trans ?_
  refine (if_neg zQ0_).trans ?_
  rfl
theorem vn37_8 {S : Nat → zSpc} (hS6 : ∀ x g o v gz, S 6 x g o v gz → sn6 x g o v gz) (hS7 : ∀ x g o v gz, S 7 x g o v gz → sn7 x g o v gz) (hS8 : ∀ x g o v gz, S 8 x g o v gz → sn8 x g o v gz) (hS9 : ∀ x g o v gz, S 9 x g o v gz → sn9 x g o v gz) (hS12 : ∀ x g o v gz, S 12 x g o v gz → sn12 x g o v gz) (hS13 : ∀ x g o v gz, S 13 x g o v gz → sn13 x g o v gz) (hS15 : ∀ x g o v gz, S 15 x g o v gz → sn15 x g o v gz) (hS18 : ∀ x g o v gz, S 18 x g o v gz → sn18 x g o v gz) (hS20 : ∀ x g o v gz, S 20 x g o v gz → sn20 x g o v gz) (hS23 : ∀ x g o v gz, S 23 x g o v gz → sn23 x g o v gz) (hS33 : ∀ x g o v gz, S 33 x g o v gz → sn33 x g o v gz) (hS34 : ∀ x g o v gz, S 34 x g o v gz → sn34 x g o v gz) (hS35 : ∀ x g o v gz, S 35 x g o v gz → sn35 x g o v gz) (hS36 : ∀ x g o v gz, S 36 x g o v gz → sn36 x g o v gz) {a : List Int} {g : rHp} : ∀ (ρ : Nat → Int) (γ : Nat → rHp), zO 16 S a g q37_8 ρ γ → zGl (fun _ _ _ => True) (sn37 a g) q37_8 ρ γ := by
  intro ρ γ h
  obtain ⟨ha, hg, hr, hf, hm, hc, hl⟩ := h
  have ha : a = [ρ 0, ρ 1, ρ 2, ρ 3, ρ 4, ρ 5, ρ 6, ρ 7, ρ 8, ρ 9, ρ 10, ρ 11, ρ 12, ρ 13, ρ 14, ρ 15] := ha
  subst ha
  subst hg
  obtain ⟨-, -, -, -, -, -, -, -, -, -, -, -, -, -, -, -, -, r17, -, -, -, -, -, r23, -, -, -, -, -, -, -, -, -, -, -, -, -, r37, -⟩ := hr
  have r17 : ((-128) : Int) ≤ ρ 17 ∧ ρ 17 ≤ 127 := r17
  have r23 : (1 : Int) ≤ ρ 23 ∧ ρ 23 ≤ 1 := r23
  have r37 : (43 : Int) ≤ ρ 37 ∧ ρ 37 ≤ 43 := r37
  obtain ⟨-, -, f2, -, -, -, -, -, -, -, -, -, -, -, -, -, -, -, -, -, -, -, f22, -, -, -, -, -, -, -, -, -, -, -, -, f35, -⟩ := hf
  have f2 : (0 : Int) ≤ -ρ 36 + ρ 2 + (-1) := f2
  have f22 : (0 : Int) ≤ -ρ 26 + ρ 2 + (-1) := f22
  have f35 : (0 : Int) ≤ -ρ 16 + ρ 2 + (-1) := f35
  obtain ⟨w_0, w_1, w_2, w_3, w_4⟩ : (0 ≤ -ρ 16 + ρ 2 + (-1)) ∧ (¬ (ρ 23 ≠ 1)) ∧ (0 ≤ -ρ 26 + ρ 2 + (-1)) ∧ (0 ≤ -ρ 36 + ρ 2 + (-1)) ∧ (ρ 37 = 43) := ⟨by omega, by omega, by omega, by omega, by omega⟩
  obtain ⟨-, m1, -, -, -, m5, m6, -, -, -, -, -, -, -, m14, m15, -, -, -, -, m20, m21, -, -, -, m25, -, -, -, -, -, -, -, -, -, -, -, -, m38, -⟩ := hm
  have m1 : γ 0 15 0 34 = ρ 2 := m1
  have m5 : γ 0 15 0 44 = ρ 6 := m5
  have m6 : γ 0 73 0 (ρ 6) = ρ 7 := m6
  have m14 : γ 0 15 0 45 = ρ 15 := m14
  have m15 : γ 1 15 0 35 = ρ 16 := m15
  have m20 : γ 6 15 0 39 = ρ 22 := m20
  have m21 : γ 6 15 0 40 = ρ 23 := m21
  have m25 : γ 9 15 0 35 = ρ 26 := m25
  have m38 : γ 16 15 0 35 = ρ 36 := m38
  obtain ⟨⟨⟨⟨⟨⟨⟨⟨⟨⟨⟨⟨⟨⟨⟨⟨⟨⟨-, c3⟩, -⟩, -⟩, -⟩, c7⟩, c8⟩, -⟩, -⟩, -⟩, -⟩, -⟩, -⟩, -⟩, -⟩, -⟩, c18⟩, c19⟩, -⟩ := hc
  have c3 : γ 3 = rUp (γ 2) 79 0 (ρ 7 + 8 * ρ 6) (ρ 15) := c3
  have c7 : γ 7 = rUp (γ 6) 80 0 (4 * ρ 7 + 32 * ρ 6) (ρ 23) := c7
  have c8 : γ 8 = rUp (γ 7) 81 0 (4 * ρ 7 + 32 * ρ 6) (ρ 22) := c8
  have c18 : γ 18 = rUp (γ 17) 15 0 35 (ρ 36 + 1) := c18
  have c19 : γ 19 = rUp (γ 18) 77 0 (ρ 7 + 8 * ρ 6) 5 := c19
  obtain ⟨l0, l1, l2, l3, l4, l5, l6, l7, l8, l9, l10, l11, l12, l13, l14, l15, -⟩ := hl
  have l0 : sn7 [ρ 1, ρ 2] (γ 0) 0 0 (γ 1) := hS7 _ _ _ _ _ l0
  have l1 : sn33 [ρ 6, ρ 7] (γ 1) 0 (ρ 7 + 8 * ρ 6) (γ 2) := hS33 _ _ _ _ _ l1
  have l2 : sn6 [ρ 16, ρ 2] (γ 3) 0 (ρ 17) (γ 4) := hS6 _ _ _ _ _ l2
  have l3 : ρ 17 ≠ 33 := l3
  have l4 : sn9 [ρ 17] (γ 4) 0 0 (γ 5) := hS9 _ _ _ _ _ l4
  have l5 : sn20 [0, ρ 16, ρ 2, ρ 3, ρ 4, ρ 18, ρ 14, ρ 11, ρ 12, ρ 13, ρ 6] (γ 5) 0 1 (γ 6) := hS20 _ _ _ _ _ l5
  have l6 : sn7 [ρ 19, ρ 2] (γ 8) 0 0 (γ 9) := hS7 _ _ _ _ _ l6
  have l7 : sn6 [ρ 26, ρ 2] (γ 9) 0 (ρ 27) (γ 10) := hS6 _ _ _ _ _ l7
  have l8 : sn9 [ρ 27] (γ 10) 0 1 (γ 11) := hS9 _ _ _ _ _ l8
  have l9 : sn12 [ρ 26, ρ 2, ρ 24, ρ 11, ρ 25] (γ 11) 0 1 (γ 12) := hS12 _ _ _ _ _ l9
  have l10 : sn13 [105, 115, 0, 0, 0, ρ 26, ρ 29] (γ 12) 0 1 (γ 13) := hS13 _ _ _ _ _ l10
  have l11 : sn18 [ρ 22, ρ 15] (γ 13) 0 0 (γ 14) := hS18 _ _ _ _ _ l11
  have l12 : sn34 [1, ρ 28, ρ 2, ρ 20, ρ 21, ρ 6, ρ 7, ρ 8, ρ 22, ρ 11, ρ 26, ρ 29, ρ 23, ρ 15] (γ 14) 0 1 (γ 15) := hS34 _ _ _ _ _ l12
  have l13 : sn7 [ρ 30, ρ 2] (γ 15) 0 0 (γ 16) := hS7 _ _ _ _ _ l13
  have l14 : sn6 [ρ 36, ρ 2] (γ 16) 0 (ρ 37) (γ 17) := hS6 _ _ _ _ _ l14
  have l15 : sn34 [2, ρ 36 + 1, ρ 2, ρ 31, ρ 32, ρ 6, ρ 7, 5, ρ 22, ρ 11, ρ 33, ρ 34, ρ 35, ρ 15] (γ 19) 0 0 (γ 20) := hS34 _ _ _ _ _ l15
  have wl_0 : ρ 17 ≠ 33 := by omega
  show sn37 [ρ 0, ρ 1, ρ 2, ρ 3, ρ 4, ρ 5, ρ 6, ρ 7, ρ 8, ρ 9, ρ 10, ρ 11, ρ 12, ρ 13, ρ 14, ρ 15] (γ 0) 0 0 (γ 20)
  refine Eq.symm ?_
  show fn37 [ρ 0] (γ 0) = _
  unfold fn37
  refine (zLet_eq (show _ = ρ 0 from rfl)).trans ?_
  refine (zLet_eq m1).trans ?_
  refine (zLet_eq m5).trans ?_
  refine (zLet_eq m6).trans ?_
  refine (zLet_eq m14).trans ?_
  refine (zLet_eq (show fn7 [] (γ 0) = (0, 0, γ 1) from l0.symm)).trans ?_
  refine (zLet_eq (show _ = γ 1 from rfl)).trans ?_
  refine (zLet_eq m15).trans ?_
  refine (zLet_eq (show fn33 [] (γ 1) = (0, ρ 7 + 8 * ρ 6, γ 2) from l1.symm)).trans ?_
  refine (zLet_eq (show _ = γ 2 from rfl)).trans ?_
  refine (zLet_eq c3.symm).trans ?_
  refine (zLet_eq (show fn6 [ρ 16] (γ 3) = (0, ρ 17, γ 4) from l2.symm)).trans ?_
  refine (zLet_eq (show _ = γ 4 from rfl)).trans ?_
  refine (if_pos w_0).trans ?_
  refine (zLet_eq (show _ = ρ 17 from rfl)).trans ?_
  refine (if_pos wl_0).trans ?_
  refine (zLet_eq (show fn9 [ρ 17] (γ 4) = (0, 0, γ 5) from l4.symm)).trans ?_
  refine (zLet_eq (show _ = γ 5 from rfl)).trans ?_
  refine (if_neg zQ0_).trans ?_
  refine (zLet_eq (show fn20 [0] (γ 5) = (0, 1, γ 6) from l5.symm)).trans ?_
  refine (zLet_eq (show _ = γ 6 from rfl)).trans ?_
  refine (if_pos zQ1_).trans ?_
  refine (zLet_eq m20).trans ?_
  refine (zLet_eq m21).trans ?_
  refine (zLet_eq c7.symm).trans ?_
  refine (zLet_eq c8.symm).trans ?_
  refine (zLet_eq (show fn7 [] (γ 8) = (0, 0, γ 9) from l6.symm)).trans ?_
  refine (zLet_eq (show _ = γ 9 from rfl)).trans ?_
  refine (zLet_eq m25).trans ?_
  refine (if_neg w_1).trans ?_
  refine (zLet_eq (show fn6 [ρ 26] (γ 9) = (0, ρ 27, γ 10) from l7.symm)).trans ?_
  refine (zLet_eq (show _ = γ 10 from rfl)).trans ?_
  refine (if_pos w_2).trans ?_
  refine (zLet_eq (show _ = ρ 27 from rfl)).trans ?_
  refine (zLet_eq (show fn9 [ρ 27] (γ 10) = (0, 1, γ 11) from l8.symm)).trans ?_
  refine (zLet_eq (show _ = γ 11 from rfl)).trans ?_
  refine (if_pos zQ1_).trans ?_
  refine (zLet_eq (show fn12 [] (γ 11) = (0, 1, γ 12) from l9.symm)).trans ?_
  refine (zLet_eq (show _ = γ 12 from rfl)).trans ?_
  refine (if_pos zQ1_).trans ?_
  refine (zLet_eq (show fn13 [105, 115, 0, 0, 0] (γ 12) = (0, 1, γ 13) from l10.symm)).trans ?_
  refine (zLet_eq (show _ = γ 13 from rfl)).trans ?_
  refine (if_pos zQ1_).trans ?_
  refine (zLet_eq (show fn18 [ρ 22] (γ 13) = (0, 0, γ 14) from l11.symm)).trans ?_
  refine (zLet_eq (show _ = γ 14 from rfl)).trans ?_
  refine (if_neg zQ0_).trans ?_
  refine (zLet_eq (show fn34 [1] (γ 14) = (0, 1, γ 15) from l12.symm)).trans ?_
  refine (zLet_eq (show _ = γ 15 from rfl)).trans ?_
  refine (if_pos zQ1_).trans ?_
  refine (zLet_eq (show fn7 [] (γ 15) = (0, 0, γ 16) from l13.symm)).trans ?_
  refine (zLet_eq (show _ = γ 16 from rfl)).trans ?_
  refine (zLet_eq m38).trans ?_
  refine (zLet_eq (show fn6 [ρ 36] (γ 16) = (0, ρ 37, γ 17) from l14.symm)).trans ?_
  refine (zLet_eq (show _ = γ 17 from rfl)).trans ?_
  refine (if_pos w_3).trans ?_
  refine (zLet_eq (show _ = ρ 37 from rfl)).trans ?_
  refine (if_pos w_4).trans ?_
  refine (zLet_eq c18.symm).trans ?_
  refine (zLet_eq c19.symm).trans ?_
  refine (zLet_eq (show fn34 [2] (γ 19) = (0, 0, γ 20) from l15.symm)).trans ?_
  refine (zLet_eq (show _ = γ 20 from rfl)).trans ?_
  refine (if_neg zQ0_).trans ?_
  rfl
theorem vn37_9 {S : Nat → zSpc} (hS6 : ∀ x g o v gz, S 6 x g o v gz → sn6 x g o v gz) (hS7 : ∀ x g o v gz, S 7 x g o v gz → sn7 x g o v gz) (hS8 : ∀ x g o v gz, S 8 x g o v gz → sn8 x g o v gz) (hS9 : ∀ x g o v gz, S 9 x g o v gz → sn9 x g o v gz) (hS12 : ∀ x g o v gz, S 12 x g o v gz → sn12 x g o v gz) (hS13 : ∀ x g o v gz, S 13 x g o v gz → sn13 x g o v gz) (hS15 : ∀ x g o v gz, S 15 x g o v gz → sn15 x g o v gz) (hS18 : ∀ x g o v gz, S 18 x g o v gz → sn18 x g o v gz) (hS20 : ∀ x g o v gz, S 20 x g o v gz → sn20 x g o v gz) (hS23 : ∀ x g o v gz, S 23 x g o v gz → sn23 x g o v gz) (hS33 : ∀ x g o v gz, S 33 x g o v gz → sn33 x g o v gz) (hS34 : ∀ x g o v gz, S 34 x g o v gz → sn34 x g o v gz) (hS35 : ∀ x g o v gz, S 35 x g o v gz → sn35 x g o v gz) (hS36 : ∀ x g o v gz, S 36 x g o v gz → sn36 x g o v gz) {a : List Int} {g : rHp} : ∀ (ρ : Nat → Int) (γ : Nat → rHp), zO 16 S a g q37_9 ρ γ → zGl (fun _ _ _ => True) (sn37 a g) q37_9 ρ γ := by
  intro ρ γ h
  obtain ⟨ha, hg, hr, hf, hm, hc, hl⟩ := h
  have ha : a = [ρ 0, ρ 1, ρ 2, ρ 3, ρ 4, ρ 5, ρ 6, ρ 7, ρ 8, ρ 9, ρ 10, ρ 11, ρ 12, ρ 13, ρ 14, ρ 15] := ha
  subst ha
  subst hg
  obtain ⟨-, -, -, -, -, -, -, -, -, -, -, -, -, -, -, -, -, r17, -, -, -, -, -, r23, -, -, -, -, -, -, -, -, -, -, -, -, -, r37, -⟩ := hr
  have r17 : ((-128) : Int) ≤ ρ 17 ∧ ρ 17 ≤ 127 := r17
  have r23 : (1 : Int) ≤ ρ 23 ∧ ρ 23 ≤ 1 := r23
  have r37 : (43 : Int) ≤ ρ 37 ∧ ρ 37 ≤ 43 := r37
  obtain ⟨-, -, f2, -, -, -, -, -, -, -, -, -, -, -, -, -, -, -, -, -, -, -, f22, -, -, -, -, -, -, -, -, -, -, -, -, f35, -⟩ := hf
  have f2 : (0 : Int) ≤ -ρ 36 + ρ 2 + (-1) := f2
  have f22 : (0 : Int) ≤ -ρ 26 + ρ 2 + (-1) := f22
  have f35 : (0 : Int) ≤ -ρ 16 + ρ 2 + (-1) := f35
  obtain ⟨w_0, w_1, w_2, w_3, w_4⟩ : (0 ≤ -ρ 16 + ρ 2 + (-1)) ∧ (¬ (ρ 23 ≠ 1)) ∧ (0 ≤ -ρ 26 + ρ 2 + (-1)) ∧ (0 ≤ -ρ 36 + ρ 2 + (-1)) ∧ (ρ 37 = 43) := ⟨by omega, by omega, by omega, by omega, by omega⟩
  obtain ⟨-, m1, -, -, -, m5, m6, -, -, -, -, -, -, -, m14, m15, -, -, -, -, m20, m21, -, -, -, m25, -, -, -, -, -, -, -, -, -, -, -, -, m38, -⟩ := hm
  have m1 : γ 0 15 0 34 = ρ 2 := m1
  have m5 : γ 0 15 0 44 = ρ 6 := m5
  have m6 : γ 0 73 0 (ρ 6) = ρ 7 := m6
  have m14 : γ 0 15 0 45 = ρ 15 := m14
  have m15 : γ 1 15 0 35 = ρ 16 := m15
  have m20 : γ 6 15 0 39 = ρ 22 := m20
  have m21 : γ 6 15 0 40 = ρ 23 := m21
  have m25 : γ 9 15 0 35 = ρ 26 := m25
  have m38 : γ 16 15 0 35 = ρ 36 := m38
  obtain ⟨⟨⟨⟨⟨⟨⟨⟨⟨⟨⟨⟨⟨⟨⟨⟨⟨⟨⟨-, c3⟩, -⟩, -⟩, -⟩, c7⟩, c8⟩, -⟩, -⟩, -⟩, -⟩, -⟩, -⟩, -⟩, -⟩, -⟩, c18⟩, c19⟩, -⟩, c21⟩ := hc
  have c3 : γ 3 = rUp (γ 2) 79 0 (ρ 7 + 8 * ρ 6) (ρ 15) := c3
  have c7 : γ 7 = rUp (γ 6) 80 0 (4 * ρ 7 + 32 * ρ 6) (ρ 23) := c7
  have c8 : γ 8 = rUp (γ 7) 81 0 (4 * ρ 7 + 32 * ρ 6) (ρ 22) := c8
  have c18 : γ 18 = rUp (γ 17) 15 0 35 (ρ 36 + 1) := c18
  have c19 : γ 19 = rUp (γ 18) 77 0 (ρ 7 + 8 * ρ 6) 5 := c19
  have c21 : γ 21 = rUp (γ 20) 15 0 45 (ρ 45) := c21
  obtain ⟨l0, l1, l2, l3, l4, l5, l6, l7, l8, l9, l10, l11, l12, l13, l14, l15, l16, l17, -⟩ := hl
  have l0 : sn7 [ρ 1, ρ 2] (γ 0) 0 0 (γ 1) := hS7 _ _ _ _ _ l0
  have l1 : sn33 [ρ 6, ρ 7] (γ 1) 0 (ρ 7 + 8 * ρ 6) (γ 2) := hS33 _ _ _ _ _ l1
  have l2 : sn6 [ρ 16, ρ 2] (γ 3) 0 (ρ 17) (γ 4) := hS6 _ _ _ _ _ l2
  have l3 : ρ 17 ≠ 33 := l3
  have l4 : sn9 [ρ 17] (γ 4) 0 0 (γ 5) := hS9 _ _ _ _ _ l4
  have l5 : sn20 [0, ρ 16, ρ 2, ρ 3, ρ 4, ρ 18, ρ 14, ρ 11, ρ 12, ρ 13, ρ 6] (γ 5) 0 1 (γ 6) := hS20 _ _ _ _ _ l5
  have l6 : sn7 [ρ 19, ρ 2] (γ 8) 0 0 (γ 9) := hS7 _ _ _ _ _ l6
  have l7 : sn6 [ρ 26, ρ 2] (γ 9) 0 (ρ 27) (γ 10) := hS6 _ _ _ _ _ l7
  have l8 : sn9 [ρ 27] (γ 10) 0 1 (γ 11) := hS9 _ _ _ _ _ l8
  have l9 : sn12 [ρ 26, ρ 2, ρ 24, ρ 11, ρ 25] (γ 11) 0 1 (γ 12) := hS12 _ _ _ _ _ l9
  have l10 : sn13 [105, 115, 0, 0, 0, ρ 26, ρ 29] (γ 12) 0 1 (γ 13) := hS13 _ _ _ _ _ l10
  have l11 : sn18 [ρ 22, ρ 15] (γ 13) 0 0 (γ 14) := hS18 _ _ _ _ _ l11
  have l12 : sn34 [1, ρ 28, ρ 2, ρ 20, ρ 21, ρ 6, ρ 7, ρ 8, ρ 22, ρ 11, ρ 26, ρ 29, ρ 23, ρ 15] (γ 14) 0 1 (γ 15) := hS34 _ _ _ _ _ l12
  have l13 : sn7 [ρ 30, ρ 2] (γ 15) 0 0 (γ 16) := hS7 _ _ _ _ _ l13
  have l14 : sn6 [ρ 36, ρ 2] (γ 16) 0 (ρ 37) (γ 17) := hS6 _ _ _ _ _ l14
  have l15 : sn34 [2, ρ 36 + 1, ρ 2, ρ 31, ρ 32, ρ 6, ρ 7, 5, ρ 22, ρ 11, ρ 33, ρ 34, ρ 35, ρ 15] (γ 19) 0 1 (γ 20) := hS34 _ _ _ _ _ l15
  have l16 : zOpP (.ishl) (γ 0) (γ 1) [1, ρ 22] (ρ 44) := l16
  have l17 : zOpP (.ior) (γ 0) (γ 1) [ρ 15, ρ 44] (ρ 45) := l17
  have wl_0 : ρ 17 ≠ 33 := by omega
  show sn37 [ρ 0, ρ 1, ρ 2, ρ 3, ρ 4, ρ 5, ρ 6, ρ 7, ρ 8, ρ 9, ρ 10, ρ 11, ρ 12, ρ 13, ρ 14, ρ 15] (γ 0) 0 1 (γ 21)
  refine Eq.symm ?_
  show fn37 [ρ 0] (γ 0) = _
  unfold fn37
  refine (zLet_eq (show _ = ρ 0 from rfl)).trans ?_
  refine (zLet_eq m1).trans ?_
  refine (zLet_eq m5).trans ?_
  refine (zLet_eq m6).trans ?_
  refine (zLet_eq m14).trans ?_
  refine (zLet_eq (show fn7 [] (γ 0) = (0, 0, γ 1) from l0.symm)).trans ?_
  refine (zLet_eq (show _ = γ 1 from rfl)).trans ?_
  refine (zLet_eq m15).trans ?_
  refine (zLet_eq (show fn33 [] (γ 1) = (0, ρ 7 + 8 * ρ 6, γ 2) from l1.symm)).trans ?_
  refine (zLet_eq (show _ = γ 2 from rfl)).trans ?_
  refine (zLet_eq c3.symm).trans ?_
  refine (zLet_eq (show fn6 [ρ 16] (γ 3) = (0, ρ 17, γ 4) from l2.symm)).trans ?_
  refine (zLet_eq (show _ = γ 4 from rfl)).trans ?_
  refine (if_pos w_0).trans ?_
  refine (zLet_eq (show _ = ρ 17 from rfl)).trans ?_
  refine (if_pos wl_0).trans ?_
  refine (zLet_eq (show fn9 [ρ 17] (γ 4) = (0, 0, γ 5) from l4.symm)).trans ?_
  refine (zLet_eq (show _ = γ 5 from rfl)).trans ?_
  refine (if_neg zQ0_).trans ?_
  refine (zLet_eq (show fn20 [0] (γ 5) = (0, 1, γ 6) from l5.symm)).trans ?_
  refine (zLet_eq (show _ = γ 6 from rfl)).trans ?_
  refine (if_pos zQ1_).trans ?_
  refine (zLet_eq m20).trans ?_
  refine (zLet_eq m21).trans ?_
  refine (zLet_eq c7.symm).trans ?_
  refine (zLet_eq c8.symm).trans ?_
  refine (zLet_eq (show fn7 [] (γ 8) = (0, 0, γ 9) from l6.symm)).trans ?_
  refine (zLet_eq (show _ = γ 9 from rfl)).trans ?_
  refine (zLet_eq m25).trans ?_
  refine (if_neg w_1).trans ?_
  refine (zLet_eq (show fn6 [ρ 26] (γ 9) = (0, ρ 27, γ 10) from l7.symm)).trans ?_
  refine (zLet_eq (show _ = γ 10 from rfl)).trans ?_
  refine (if_pos w_2).trans ?_
  refine (zLet_eq (show _ = ρ 27 from rfl)).trans ?_
  refine (zLet_eq (show fn9 [ρ 27] (γ 10) = (0, 1, γ 11) from l8.symm)).trans ?_
  refine (zLet_eq (show _ = γ 11 from rfl)).trans ?_
  refine (if_pos zQ1_).trans ?_
  refine (zLet_eq (show fn12 [] (γ 11) = (0, 1, γ 12) from l9.symm)).trans ?_
  refine (zLet_eq (show _ = γ 12 from rfl)).trans ?_
  refine (if_pos zQ1_).trans ?_
  refine (zLet_eq (show fn13 [105, 115, 0, 0, 0] (γ 12) = (0, 1, γ 13) from l10.symm)).trans ?_
  refine (zLet_eq (show _ = γ 13 from rfl)).trans ?_
  refine (if_pos zQ1_).trans ?_
  refine (zLet_eq (show fn18 [ρ 22] (γ 13) = (0, 0, γ 14) from l11.symm)).trans ?_
  refine (zLet_eq (show _ = γ 14 from rfl)).trans ?_
  refine (if_neg zQ0_).trans ?_
  refine (zLet_eq (show fn34 [1] (γ 14) = (0, 1, γ 15) from l12.symm)).trans ?_
  refine (zLet_eq (show _ = γ 15 from rfl)).trans ?_
  refine (if_pos zQ1_).trans ?_
  refine (zLet_eq (show fn7 [] (γ 15) = (0, 0, γ 16) from l13.symm)).trans ?_
  refine (zLet_eq (show _ = γ 16 from rfl)).trans ?_
  refine (zLet_eq m38).trans ?_
  refine (zLet_eq (show fn6 [ρ 36] (γ 16) = (0, ρ 37, γ 17) from l14.symm)).trans ?_
  refine (zLet_eq (show _ = γ 17 from rfl)).trans ?_
  refine (if_pos w_3).trans ?_
  refine (zLet_eq (show _ = ρ 37 from rfl)).trans ?_
  refine (if_pos w_4).trans ?_
  refine (zLet_eq c18.symm).trans ?_
  refine (zLet_eq c19.symm).trans ?_
  refine (zLet_eq (show fn34 [2] (γ 19) = (0, 1, γ 20) from l15.symm)).trans ?_
  refine (zLet_eq (show _ = γ 20 from rfl)).trans ?_
  refine (if_pos zQ1_).trans ?_
  refine (zLet_eq (zF2_ok l16)).trans ?_
  refine (zLet_eq (zF2_ok l17)).trans ?_
  refine (zLet_eq c21.symm).trans ?_
  rfl
theorem vn37_10 {S : Nat → zSpc} (hS6 : ∀ x g o v gz, S 6 x g o v gz → sn6 x g o v gz) (hS7 : ∀ x g o v gz, S 7 x g o v gz → sn7 x g o v gz) (hS8 : ∀ x g o v gz, S 8 x g o v gz → sn8 x g o v gz) (hS9 : ∀ x g o v gz, S 9 x g o v gz → sn9 x g o v gz) (hS12 : ∀ x g o v gz, S 12 x g o v gz → sn12 x g o v gz) (hS13 : ∀ x g o v gz, S 13 x g o v gz → sn13 x g o v gz) (hS15 : ∀ x g o v gz, S 15 x g o v gz → sn15 x g o v gz) (hS18 : ∀ x g o v gz, S 18 x g o v gz → sn18 x g o v gz) (hS20 : ∀ x g o v gz, S 20 x g o v gz → sn20 x g o v gz) (hS23 : ∀ x g o v gz, S 23 x g o v gz → sn23 x g o v gz) (hS33 : ∀ x g o v gz, S 33 x g o v gz → sn33 x g o v gz) (hS34 : ∀ x g o v gz, S 34 x g o v gz → sn34 x g o v gz) (hS35 : ∀ x g o v gz, S 35 x g o v gz → sn35 x g o v gz) (hS36 : ∀ x g o v gz, S 36 x g o v gz → sn36 x g o v gz) {a : List Int} {g : rHp} : ∀ (ρ : Nat → Int) (γ : Nat → rHp), zO 16 S a g q37_10 ρ γ → zGl (fun _ _ _ => True) (sn37 a g) q37_10 ρ γ := by
  intro ρ γ h
  obtain ⟨ha, hg, hr, hf, hm, hc, hl⟩ := h
  have ha : a = [ρ 0, ρ 1, ρ 2, ρ 3, ρ 4, ρ 5, ρ 6, ρ 7, ρ 8, ρ 9, ρ 10, ρ 11, ρ 12, ρ 13, ρ 14, ρ 15] := ha
  subst ha
  subst hg
  obtain ⟨-, -, -, -, -, -, -, -, -, -, -, -, -, -, -, -, -, r17, -, -, -, -, -, r23, -, -, -, -, -, -, -, -, -, -, -, -, -, r37, -⟩ := hr
  have r17 : ((-128) : Int) ≤ ρ 17 ∧ ρ 17 ≤ 127 := r17
  have r23 : (1 : Int) ≤ ρ 23 ∧ ρ 23 ≤ 1 := r23
  have r37 : (45 : Int) ≤ ρ 37 ∧ ρ 37 ≤ 45 := r37
  obtain ⟨-, -, f2, -, -, -, -, -, -, -, -, -, -, -, -, -, -, -, -, -, -, -, f22, -, -, -, -, -, -, -, -, -, -, -, -, f35, -⟩ := hf
  have f2 : (0 : Int) ≤ -ρ 36 + ρ 2 + (-1) := f2
  have f22 : (0 : Int) ≤ -ρ 26 + ρ 2 + (-1) := f22
  have f35 : (0 : Int) ≤ -ρ 16 + ρ 2 + (-1) := f35
  obtain ⟨w_0, w_1, w_2, w_3, w_4, w_5⟩ : (0 ≤ -ρ 16 + ρ 2 + (-1)) ∧ (¬ (ρ 23 ≠ 1)) ∧ (0 ≤ -ρ 26 + ρ 2 + (-1)) ∧ (0 ≤ -ρ 36 + ρ 2 + (-1)) ∧ (¬ (ρ 37 = 43)) ∧ (ρ 37 = 45) := ⟨by omega, by omega, by omega, by omega, by omega, by omega⟩
  obtain ⟨-, m1, -, -, -, m5, m6, -, -, -, -, -, -, -, m14, m15, -, -, -, -, m20, m21, -, -, -, m25, -, -, -, -, -, -, -, -, -, -, -, -, m38, -⟩ := hm
  have m1 : γ 0 15 0 34 = ρ 2 := m1
  have m5 : γ 0 15 0 44 = ρ 6 := m5
  have m6 : γ 0 73 0 (ρ 6) = ρ 7 := m6
  have m14 : γ 0 15 0 45 = ρ 15 := m14
  have m15 : γ 1 15 0 35 = ρ 16 := m15
  have m20 : γ 6 15 0 39 = ρ 22 := m20
  have m21 : γ 6 15 0 40 = ρ 23 := m21
  have m25 : γ 9 15 0 35 = ρ 26 := m25
  have m38 : γ 16 15 0 35 = ρ 36 := m38
  obtain ⟨⟨⟨⟨⟨⟨⟨⟨⟨⟨⟨⟨⟨⟨⟨⟨⟨⟨-, c3⟩, -⟩, -⟩, -⟩, c7⟩, c8⟩, -⟩, -⟩, -⟩, -⟩, -⟩, -⟩, -⟩, -⟩, -⟩, c18⟩, c19⟩, -⟩ := hc
  have c3 : γ 3 = rUp (γ 2) 79 0 (ρ 7 + 8 * ρ 6) (ρ 15) := c3
  have c7 : γ 7 = rUp (γ 6) 80 0 (4 * ρ 7 + 32 * ρ 6) (ρ 23) := c7
  have c8 : γ 8 = rUp (γ 7) 81 0 (4 * ρ 7 + 32 * ρ 6) (ρ 22) := c8
  have c18 : γ 18 = rUp (γ 17) 15 0 35 (ρ 36 + 1) := c18
  have c19 : γ 19 = rUp (γ 18) 77 0 (ρ 7 + 8 * ρ 6) 6 := c19
  obtain ⟨l0, l1, l2, l3, l4, l5, l6, l7, l8, l9, l10, l11, l12, l13, l14, l15, l16, -⟩ := hl
  have l0 : sn7 [ρ 1, ρ 2] (γ 0) 0 0 (γ 1) := hS7 _ _ _ _ _ l0
  have l1 : sn33 [ρ 6, ρ 7] (γ 1) 0 (ρ 7 + 8 * ρ 6) (γ 2) := hS33 _ _ _ _ _ l1
  have l2 : sn6 [ρ 16, ρ 2] (γ 3) 0 (ρ 17) (γ 4) := hS6 _ _ _ _ _ l2
  have l3 : ρ 17 ≠ 33 := l3
  have l4 : sn9 [ρ 17] (γ 4) 0 0 (γ 5) := hS9 _ _ _ _ _ l4
  have l5 : sn20 [0, ρ 16, ρ 2, ρ 3, ρ 4, ρ 18, ρ 14, ρ 11, ρ 12, ρ 13, ρ 6] (γ 5) 0 1 (γ 6) := hS20 _ _ _ _ _ l5
  have l6 : sn7 [ρ 19, ρ 2] (γ 8) 0 0 (γ 9) := hS7 _ _ _ _ _ l6
  have l7 : sn6 [ρ 26, ρ 2] (γ 9) 0 (ρ 27) (γ 10) := hS6 _ _ _ _ _ l7
  have l8 : sn9 [ρ 27] (γ 10) 0 1 (γ 11) := hS9 _ _ _ _ _ l8
  have l9 : sn12 [ρ 26, ρ 2, ρ 24, ρ 11, ρ 25] (γ 11) 0 1 (γ 12) := hS12 _ _ _ _ _ l9
  have l10 : sn13 [105, 115, 0, 0, 0, ρ 26, ρ 29] (γ 12) 0 1 (γ 13) := hS13 _ _ _ _ _ l10
  have l11 : sn18 [ρ 22, ρ 15] (γ 13) 0 0 (γ 14) := hS18 _ _ _ _ _ l11
  have l12 : sn34 [1, ρ 28, ρ 2, ρ 20, ρ 21, ρ 6, ρ 7, ρ 8, ρ 22, ρ 11, ρ 26, ρ 29, ρ 23, ρ 15] (γ 14) 0 1 (γ 15) := hS34 _ _ _ _ _ l12
  have l13 : sn7 [ρ 30, ρ 2] (γ 15) 0 0 (γ 16) := hS7 _ _ _ _ _ l13
  have l14 : sn6 [ρ 36, ρ 2] (γ 16) 0 (ρ 37) (γ 17) := hS6 _ _ _ _ _ l14
  have l15 : ρ 37 ≠ 43 := l15
  have l16 : sn34 [2, ρ 36 + 1, ρ 2, ρ 31, ρ 32, ρ 6, ρ 7, 6, ρ 22, ρ 11, ρ 33, ρ 34, ρ 35, ρ 15] (γ 19) 0 0 (γ 20) := hS34 _ _ _ _ _ l16
  have wl_0 : ρ 17 ≠ 33 := by omega
  show sn37 [ρ 0, ρ 1, ρ 2, ρ 3, ρ 4, ρ 5, ρ 6, ρ 7, ρ 8, ρ 9, ρ 10, ρ 11, ρ 12, ρ 13, ρ 14, ρ 15] (γ 0) 0 0 (γ 20)
  refine Eq.symm ?_
  show fn37 [ρ 0] (γ 0) = _
  unfold fn37
  refine (zLet_eq (show _ = ρ 0 from rfl)).trans ?_
  refine (zLet_eq m1).trans ?_
  refine (zLet_eq m5).trans ?_
  refine (zLet_eq m6).trans ?_
  refine (zLet_eq m14).trans ?_
  refine (zLet_eq (show fn7 [] (γ 0) = (0, 0, γ 1) from l0.symm)).trans ?_
  refine (zLet_eq (show _ = γ 1 from rfl)).trans ?_
  refine (zLet_eq m15).trans ?_
  refine (zLet_eq (show fn33 [] (γ 1) = (0, ρ 7 + 8 * ρ 6, γ 2) from l1.symm)).trans ?_
  refine (zLet_eq (show _ = γ 2 from rfl)).trans ?_
  refine (zLet_eq c3.symm).trans ?_
  refine (zLet_eq (show fn6 [ρ 16] (γ 3) = (0, ρ 17, γ 4) from l2.symm)).trans ?_
  refine (zLet_eq (show _ = γ 4 from rfl)).trans ?_
  refine (if_pos w_0).trans ?_
  refine (zLet_eq (show _ = ρ 17 from rfl)).trans ?_
  refine (if_pos wl_0).trans ?_
  refine (zLet_eq (show fn9 [ρ 17] (γ 4) = (0, 0, γ 5) from l4.symm)).trans ?_
  refine (zLet_eq (show _ = γ 5 from rfl)).trans ?_
  refine (if_neg zQ0_).trans ?_
  refine (zLet_eq (show fn20 [0] (γ 5) = (0, 1, γ 6) from l5.symm)).trans ?_
  refine (zLet_eq (show _ = γ 6 from rfl)).trans ?_
  refine (if_pos zQ1_).trans ?_
  refine (zLet_eq m20).trans ?_
  refine (zLet_eq m21).trans ?_
  refine (zLet_eq c7.symm).trans ?_
  refine (zLet_eq c8.symm).trans ?_
  refine (zLet_eq (show fn7 [] (γ 8) = (0, 0, γ 9) from l6.symm)).trans ?_
  refine (zLet_eq (show _ = γ 9 from rfl)).trans ?_
  refine (zLet_eq m25).trans ?_
  refine (if_neg w_1).trans ?_
  refine (zLet_eq (show fn6 [ρ 26] (γ 9) = (0, ρ 27, γ 10) from l7.symm)).trans ?_
  refine (zLet_eq (show _ = γ 10 from rfl)).trans ?_
  refine (if_pos w_2).trans ?_
  refine (zLet_eq (show _ = ρ 27 from rfl)).trans ?_
  refine (zLet_eq (show fn9 [ρ 27] (γ 10) = (0, 1, γ 11) from l8.symm)).trans ?_
  refine (zLet_eq (show _ = γ 11 from rfl)).trans ?_
  refine (if_pos zQ1_).trans ?_
  refine (zLet_eq (show fn12 [] (γ 11) = (0, 1, γ 12) from l9.symm)).trans ?_
  refine (zLet_eq (show _ = γ 12 from rfl)).trans ?_
  refine (if_pos zQ1_).trans ?_
  refine (zLet_eq (show fn13 [105, 115, 0, 0, 0] (γ 12) = (0, 1, γ 13) from l10.symm)).trans ?_
  refine (zLet_eq (show _ = γ 13 from rfl)).trans ?_
  refine (if_pos zQ1_).trans ?_
  refine (zLet_eq (show fn18 [ρ 22] (γ 13) = (0, 0, γ 14) from l11.symm)).trans ?_
  refine (zLet_eq (show _ = γ 14 from rfl)).trans ?_
  refine (if_neg zQ0_).trans ?_
  refine (zLet_eq (show fn34 [1] (γ 14) = (0, 1, γ 15) from l12.symm)).trans ?_
  refine (zLet_eq (show _ = γ 15 from rfl)).trans ?_
  refine (if_pos zQ1_).trans ?_
  refine (zLet_eq (show fn7 [] (γ 15) = (0, 0, γ 16) from l13.symm)).trans ?_
  refine (zLet_eq (show _ = γ 16 from rfl)).trans ?_
  refine (zLet_eq m38).trans ?_
  refine (zLet_eq (show fn6 [ρ 36] (γ 16) = (0, ρ 37, γ 17) from l14.symm)).trans ?_
  refine (zLet_eq (show _ = γ 17 from rfl)).trans ?_
  refine (if_pos w_3).trans ?_
  refine (zLet_eq (show _ = ρ 37 from rfl)).trans ?_
  refine (if_neg w_4).trans ?_
  refine (if_pos w_5).trans ?_
  refine (zLet_eq c18.symm).trans ?_
  refine (zLet_eq c19.symm).trans ?_
  refine (zLet_eq (show fn34 [2] (γ 19) = (0, 0, γ 20) from l16.symm)).trans ?_
  refine (zLet_eq (show _ = γ 20 from rfl)).trans ?_
  refine (if_neg zQ0_).trans ?_
  rfl
theorem vn37_11 {S : Nat → zSpc} (hS6 : ∀ x g o v gz, S 6 x g o v gz → sn6 x g o v gz) (hS7 : ∀ x g o v gz, S 7 x g o v gz → sn7 x g o v gz) (hS8 : ∀ x g o v gz, S 8 x g o v gz → sn8 x g o v gz) (hS9 : ∀ x g o v gz, S 9 x g o v gz → sn9 x g o v gz) (hS12 : ∀ x g o v gz, S 12 x g o v gz → sn12 x g o v gz) (hS13 : ∀ x g o v gz, S 13 x g o v gz → sn13 x g o v gz) (hS15 : ∀ x g o v gz, S 15 x g o v gz → sn15 x g o v gz) (hS18 : ∀ x g o v gz, S 18 x g o v gz → sn18 x g o v gz) (hS20 : ∀ x g o v gz, S 20 x g o v gz → sn20 x g o v gz) (hS23 : ∀ x g o v gz, S 23 x g o v gz → sn23 x g o v gz) (hS33 : ∀ x g o v gz, S 33 x g o v gz → sn33 x g o v gz) (hS34 : ∀ x g o v gz, S 34 x g o v gz → sn34 x g o v gz) (hS35 : ∀ x g o v gz, S 35 x g o v gz → sn35 x g o v gz) (hS36 : ∀ x g o v gz, S 36 x g o v gz → sn36 x g o v gz) {a : List Int} {g : rHp} : ∀ (ρ : Nat → Int) (γ : Nat → rHp), zO 16 S a g q37_11 ρ γ → zGl (fun _ _ _ => True) (sn37 a g) q37_11 ρ γ := by
  intro ρ γ h
  obtain ⟨ha, hg, hr, hf, hm, hc, hl⟩ := h
  have ha : a = [ρ 0, ρ 1, ρ 2, ρ 3, ρ 4, ρ 5, ρ 6, ρ 7, ρ 8, ρ 9, ρ 10, ρ 11, ρ 12, ρ 13, ρ 14, ρ 15] := ha
  subst ha
  subst hg
  obtain ⟨-, -, -, -, -, -, -, -, -, -, -, -, -, -, -, -, -, r17, -, -, -, -, -, r23, -, -, -, -, -, -, -, -, -, -, -, -, -, r37, -⟩ := hr
  have r17 : ((-128) : Int) ≤ ρ 17 ∧ ρ 17 ≤ 127 := r17
  have r23 : (1 : Int) ≤ ρ 23 ∧ ρ 23 ≤ 1 := r23
  have r37 : (45 : Int) ≤ ρ 37 ∧ ρ 37 ≤ 45 := r37
  obtain ⟨-, -, f2, -, -, -, -, -, -, -, -, -, -, -, -, -, -, -, -, -, -, -, f22, -, -, -, -, -, -, -, -, -, -, -, -, f35, -⟩ := hf
  have f2 : (0 : Int) ≤ -ρ 36 + ρ 2 + (-1) := f2
  have f22 : (0 : Int) ≤ -ρ 26 + ρ 2 + (-1) := f22
  have f35 : (0 : Int) ≤ -ρ 16 + ρ 2 + (-1) := f35
  obtain ⟨w_0, w_1, w_2, w_3, w_4, w_5⟩ : (0 ≤ -ρ 16 + ρ 2 + (-1)) ∧ (¬ (ρ 23 ≠ 1)) ∧ (0 ≤ -ρ 26 + ρ 2 + (-1)) ∧ (0 ≤ -ρ 36 + ρ 2 + (-1)) ∧ (¬ (ρ 37 = 43)) ∧ (ρ 37 = 45) := ⟨by omega, by omega, by omega, by omega, by omega, by omega⟩
  obtain ⟨-, m1, -, -, -, m5, m6, -, -, -, -, -, -, -, m14, m15, -, -, -, -, m20, m21, -, -, -, m25, -, -, -, -, -, -, -, -, -, -, -, -, m38, -⟩ := hm
  have m1 : γ 0 15 0 34 = ρ 2 := m1
  have m5 : γ 0 15 0 44 = ρ 6 := m5
  have m6 : γ 0 73 0 (ρ 6) = ρ 7 := m6
  have m14 : γ 0 15 0 45 = ρ 15 := m14
  have m15 : γ 1 15 0 35 = ρ 16 := m15
  have m20 : γ 6 15 0 39 = ρ 22 := m20
  have m21 : γ 6 15 0 40 = ρ 23 := m21
  have m25 : γ 9 15 0 35 = ρ 26 := m25
  have m38 : γ 16 15 0 35 = ρ 36 := m38
  obtain ⟨⟨⟨⟨⟨⟨⟨⟨⟨⟨⟨⟨⟨⟨⟨⟨⟨⟨⟨-, c3⟩, -⟩, -⟩, -⟩, c7⟩, c8⟩, -⟩, -⟩, -⟩, -⟩, -⟩, -⟩, -⟩, -⟩, -⟩, c18⟩, c19⟩, -⟩, c21⟩ := hc
  have c3 : γ 3 = rUp (γ 2) 79 0 (ρ 7 + 8 * ρ 6) (ρ 15) := c3
  have c7 : γ 7 = rUp (γ 6) 80 0 (4 * ρ 7 + 32 * ρ 6) (ρ 23) := c7
  have c8 : γ 8 = rUp (γ 7) 81 0 (4 * ρ 7 + 32 * ρ 6) (ρ 22) := c8
  have c18 : γ 18 = rUp (γ 17) 15 0 35 (ρ 36 + 1) := c18
  have c19 : γ 19 = rUp (γ 18) 77 0 (ρ 7 + 8 * ρ 6) 6 := c19
  have c21 : γ 21 = rUp (γ 20) 15 0 45 (ρ 45) := c21
  obtain ⟨l0, l1, l2, l3, l4, l5, l6, l7, l8, l9, l10, l11, l12, l13, l14, l15, l16, l17, l18, -⟩ := hl
  have l0 : sn7 [ρ 1, ρ 2] (γ 0) 0 0 (γ 1) := hS7 _ _ _ _ _ l0
  have l1 : sn33 [ρ 6, ρ 7] (γ 1) 0 (ρ 7 + 8 * ρ 6) (γ 2) := hS33 _ _ _ _ _ l1
  have l2 : sn6 [ρ 16, ρ 2] (γ 3) 0 (ρ 17) (γ 4) := hS6 _ _ _ _ _ l2
  have l3 : ρ 17 ≠ 33 := l3
  have l4 : sn9 [ρ 17] (γ 4) 0 0 (γ 5) := hS9 _ _ _ _ _ l4
  have l5 : sn20 [0, ρ 16, ρ 2, ρ 3, ρ 4, ρ 18, ρ 14, ρ 11, ρ 12, ρ 13, ρ 6] (γ 5) 0 1 (γ 6) := hS20 _ _ _ _ _ l5
  have l6 : sn7 [ρ 19, ρ 2] (γ 8) 0 0 (γ 9) := hS7 _ _ _ _ _ l6
  have l7 : sn6 [ρ 26, ρ 2] (γ 9) 0 (ρ 27) (γ 10) := hS6 _ _ _ _ _ l7
  have l8 : sn9 [ρ 27] (γ 10) 0 1 (γ 11) := hS9 _ _ _ _ _ l8
  have l9 : sn12 [ρ 26, ρ 2, ρ 24, ρ 11, ρ 25] (γ 11) 0 1 (γ 12) := hS12 _ _ _ _ _ l9
  have l10 : sn13 [105, 115, 0, 0, 0, ρ 26, ρ 29] (γ 12) 0 1 (γ 13) := hS13 _ _ _ _ _ l10
  have l11 : sn18 [ρ 22, ρ 15] (γ 13) 0 0 (γ 14) := hS18 _ _ _ _ _ l11
  have l12 : sn34 [1, ρ 28, ρ 2, ρ 20, ρ 21, ρ 6, ρ 7, ρ 8, ρ 22, ρ 11, ρ 26, ρ 29, ρ 23, ρ 15] (γ 14) 0 1 (γ 15) := hS34 _ _ _ _ _ l12
  have l13 : sn7 [ρ 30, ρ 2] (γ 15) 0 0 (γ 16) := hS7 _ _ _ _ _ l13
  have l14 : sn6 [ρ 36, ρ 2] (γ 16) 0 (ρ 37) (γ 17) := hS6 _ _ _ _ _ l14
  have l15 : ρ 37 ≠ 43 := l15
  have l16 : sn34 [2, ρ 36 + 1, ρ 2, ρ 31, ρ 32, ρ 6, ρ 7, 6, ρ 22, ρ 11, ρ 33, ρ 34, ρ 35, ρ 15] (γ 19) 0 1 (γ 20) := hS34 _ _ _ _ _ l16
  have l17 : zOpP (.ishl) (γ 0) (γ 1) [1, ρ 22] (ρ 44) := l17
  have l18 : zOpP (.ior) (γ 0) (γ 1) [ρ 15, ρ 44] (ρ 45) := l18
  have wl_0 : ρ 17 ≠ 33 := by omega
  show sn37 [ρ 0, ρ 1, ρ 2, ρ 3, ρ 4, ρ 5, ρ 6, ρ 7, ρ 8, ρ 9, ρ 10, ρ 11, ρ 12, ρ 13, ρ 14, ρ 15] (γ 0) 0 1 (γ 21)
  refine Eq.symm ?_
  show fn37 [ρ 0] (γ 0) = _
  unfold fn37
  refine (zLet_eq (show _ = ρ 0 from rfl)).trans ?_
  refine (zLet_eq m1).trans ?_
  refine (zLet_eq m5).trans ?_
  refine (zLet_eq m6).trans ?_
  refine (zLet_eq m14).trans ?_
  refine (zLet_eq (show fn7 [] (γ 0) = (0, 0, γ 1) from l0.symm)).trans ?_
  refine (zLet_eq (show _ = γ 1 from rfl)).trans ?_
  refine (zLet_eq m15).trans ?_
  refine (zLet_eq (show fn33 [] (γ 1) = (0, ρ 7 + 8 * ρ 6, γ 2) from l1.symm)).trans ?_
  refine (zLet_eq (show _ = γ 2 from rfl)).trans ?_
  refine (zLet_eq c3.symm).trans ?_
  refine (zLet_eq (show fn6 [ρ 16] (γ 3) = (0, ρ 17, γ 4) from l2.symm)).trans ?_
  refine (zLet_eq (show _ = γ 4 from rfl)).trans ?_
  refine (if_pos w_0).trans ?_
  refine (zLet_eq (show _ = ρ 17 from rfl)).trans ?_
  refine (if_pos wl_0).trans ?_
  refine (zLet_eq (show fn9 [ρ 17] (γ 4) = (0, 0, γ 5) from l4.symm)).trans ?_
  refine (zLet_eq (show _ = γ 5 from rfl)).trans ?_
  refine (if_neg zQ0_).trans ?_
  refine (zLet_eq (show fn20 [0] (γ 5) = (0, 1, γ 6) from l5.symm)).trans ?_
  refine (zLet_eq (show _ = γ 6 from rfl)).trans ?_
  refine (if_pos zQ1_).trans ?_
  refine (zLet_eq m20).trans ?_
  refine (zLet_eq m21).trans ?_
  refine (zLet_eq c7.symm).trans ?_
  refine (zLet_eq c8.symm).trans ?_
  refine (zLet_eq (show fn7 [] (γ 8) = (0, 0, γ 9) from l6.symm)).trans ?_
  refine (zLet_eq (show _ = γ 9 from rfl)).trans ?_
  refine (zLet_eq m25).trans ?_
  refine (if_neg w_1).trans ?_
  refine (zLet_eq (show fn6 [ρ 26] (γ 9) = (0, ρ 27, γ 10) from l7.symm)).trans ?_
  refine (zLet_eq (show _ = γ 10 from rfl)).trans ?_
  refine (if_pos w_2).trans ?_
  refine (zLet_eq (show _ = ρ 27 from rfl)).trans ?_
  refine (zLet_eq (show fn9 [ρ 27] (γ 10) = (0, 1, γ 11) from l8.symm)).trans ?_
  refine (zLet_eq (show _ = γ 11 from rfl)).trans ?_
  refine (if_pos zQ1_).trans ?_
  refine (zLet_eq (show fn12 [] (γ 11) = (0, 1, γ 12) from l9.symm)).trans ?_
  refine (zLet_eq (show _ = γ 12 from rfl)).trans ?_
  refine (if_pos zQ1_).trans ?_
  refine (zLet_eq (show fn13 [105, 115, 0, 0, 0] (γ 12) = (0, 1, γ 13) from l10.symm)).trans ?_
  refine (zLet_eq (show _ = γ 13 from rfl)).trans ?_
  refine (if_pos zQ1_).trans ?_
  refine (zLet_eq (show fn18 [ρ 22] (γ 13) = (0, 0, γ 14) from l11.symm)).trans ?_
  refine (zLet_eq (show _ = γ 14 from rfl)).trans ?_
  refine (if_neg zQ0_).trans ?_
  refine (zLet_eq (show fn34 [1] (γ 14) = (0, 1, γ 15) from l12.symm)).trans ?_
  refine (zLet_eq (show _ = γ 15 from rfl)).trans ?_
  refine (if_pos zQ1_).trans ?_
  refine (zLet_eq (show fn7 [] (γ 15) = (0, 0, γ 16) from l13.symm)).trans ?_
  refine (zLet_eq (show _ = γ 16 from rfl)).trans ?_
  refine (zLet_eq m38).trans ?_
  refine (zLet_eq (show fn6 [ρ 36] (γ 16) = (0, ρ 37, γ 17) from l14.symm)).trans ?_
  refine (zLet_eq (show _ = γ 17 from rfl)).trans ?_
  refine (if_pos w_3).trans ?_
  refine (zLet_eq (show _ = ρ 37 from rfl)).trans ?_
  refine (if_neg w_4).trans ?_
  refine (if_pos w_5).trans ?_
  refine (zLet_eq c18.symm).trans ?_
  refine (zLet_eq c19.symm).trans ?_
  refine (zLet_eq (show fn34 [2] (γ 19) = (0, 1, γ 20) from l16.symm)).trans ?_
  refine (zLet_eq (show _ = γ 20 from rfl)).trans ?_
  refine (if_pos zQ1_).trans ?_
  refine (zLet_eq (zF2_ok l17)).trans ?_
  refine (zLet_eq (zF2_ok l18)).trans ?_
  refine (zLet_eq c21.symm).trans ?_
  rfl
theorem vn37_12 {S : Nat → zSpc} (hS6 : ∀ x g o v gz, S 6 x g o v gz → sn6 x g o v gz) (hS7 : ∀ x g o v gz, S 7 x g o v gz → sn7 x g o v gz) (hS8 : ∀ x g o v gz, S 8 x g o v gz → sn8 x g o v gz) (hS9 : ∀ x g o v gz, S 9 x g o v gz → sn9 x g o v gz) (hS12 : ∀ x g o v gz, S 12 x g o v gz → sn12 x g o v gz) (hS13 : ∀ x g o v gz, S 13 x g o v gz → sn13 x g o v gz) (hS15 : ∀ x g o v gz, S 15 x g o v gz → sn15 x g o v gz) (hS18 : ∀ x g o v gz, S 18 x g o v gz → sn18 x g o v gz) (hS20 : ∀ x g o v gz, S 20 x g o v gz → sn20 x g o v gz) (hS23 : ∀ x g o v gz, S 23 x g o v gz → sn23 x g o v gz) (hS33 : ∀ x g o v gz, S 33 x g o v gz → sn33 x g o v gz) (hS34 : ∀ x g o v gz, S 34 x g o v gz → sn34 x g o v gz) (hS35 : ∀ x g o v gz, S 35 x g o v gz → sn35 x g o v gz) (hS36 : ∀ x g o v gz, S 36 x g o v gz → sn36 x g o v gz) {a : List Int} {g : rHp} : ∀ (ρ : Nat → Int) (γ : Nat → rHp), zO 16 S a g q37_12 ρ γ → zGl (fun _ _ _ => True) (sn37 a g) q37_12 ρ γ := by
  intro ρ γ h
  obtain ⟨ha, hg, hr, hf, hm, hc, hl⟩ := h
  have ha : a = [ρ 0, ρ 1, ρ 2, ρ 3, ρ 4, ρ 5, ρ 6, ρ 7, ρ 8, ρ 9, ρ 10, ρ 11, ρ 12, ρ 13, ρ 14, ρ 15] := ha
  subst ha
  subst hg
  obtain ⟨-, -, -, -, -, -, -, -, -, -, -, -, -, -, -, -, -, r17, -, -, -, -, -, r23, -, -, -, -, -, -, -, -, -, -, -, -, -, r37, -⟩ := hr
  have r17 : ((-128) : Int) ≤ ρ 17 ∧ ρ 17 ≤ 127 := r17
  have r23 : (1 : Int) ≤ ρ 23 ∧ ρ 23 ≤ 1 := r23
  have r37 : (42 : Int) ≤ ρ 37 ∧ ρ 37 ≤ 42 := r37
  obtain ⟨-, -, f2, -, -, -, -, -, -, -, -, -, -, -, -, -, -, -, -, -, -, -, f22, -, -, -, -, -, -, -, -, -, -, -, -, f35, -⟩ := hf
  have f2 : (0 : Int) ≤ -ρ 36 + ρ 2 + (-1) := f2
  have f22 : (0 : Int) ≤ -ρ 26 + ρ 2 + (-1) := f22
  have f35 : (0 : Int) ≤ -ρ 16 + ρ 2 + (-1) := f35
  obtain ⟨w_0, w_1, w_2, w_3, w_4, w_5, w_6⟩ : (0 ≤ -ρ 16 + ρ 2 + (-1)) ∧ (¬ (ρ 23 ≠ 1)) ∧ (0 ≤ -ρ 26 + ρ 2 + (-1)) ∧ (0 ≤ -ρ 36 + ρ 2 + (-1)) ∧ (¬ (ρ 37 = 43)) ∧ (¬ (ρ 37 = 45)) ∧ (ρ 37 = 42) := ⟨by omega, by omega, by omega, by omega, by omega, by omega, by omega⟩
  obtain ⟨-, m1, -, -, -, m5, m6, -, -, -, -, -, -, -, m14, m15, -, -, -, -, m20, m21, -, -, -, m25, -, -, -, -, -, -, -, -, -, -, -, -, m38, -⟩ := hm
  have m1 : γ 0 15 0 34 = ρ 2 := m1
  have m5 : γ 0 15 0 44 = ρ 6 := m5
  have m6 : γ 0 73 0 (ρ 6) = ρ 7 := m6
  have m14 : γ 0 15 0 45 = ρ 15 := m14
  have m15 : γ 1 15 0 35 = ρ 16 := m15
  have m20 : γ 6 15 0 39 = ρ 22 := m20
  have m21 : γ 6 15 0 40 = ρ 23 := m21
  have m25 : γ 9 15 0 35 = ρ 26 := m25
  have m38 : γ 16 15 0 35 = ρ 36 := m38
  obtain ⟨⟨⟨⟨⟨⟨⟨⟨⟨⟨⟨⟨⟨⟨⟨⟨⟨⟨-, c3⟩, -⟩, -⟩, -⟩, c7⟩, c8⟩, -⟩, -⟩, -⟩, -⟩, -⟩, -⟩, -⟩, -⟩, -⟩, c18⟩, c19⟩, -⟩ := hc
  have c3 : γ 3 = rUp (γ 2) 79 0 (ρ 7 + 8 * ρ 6) (ρ 15) := c3
  have c7 : γ 7 = rUp (γ 6) 80 0 (4 * ρ 7 + 32 * ρ 6) (ρ 23) := c7
  have c8 : γ 8 = rUp (γ 7) 81 0 (4 * ρ 7 + 32 * ρ 6) (ρ 22) := c8
  have c18 : γ 18 = rUp (γ 17) 15 0 35 (ρ 36 + 1) := c18
  have c19 : γ 19 = rUp (γ 18) 77 0 (ρ 7 + 8 * ρ 6) 7 := c19
  obtain ⟨l0, l1, l2, l3, l4, l5, l6, l7, l8, l9, l10, l11, l12, l13, l14, l15, l16, l17, -⟩ := hl
  have l0 : sn7 [ρ 1, ρ 2] (γ 0) 0 0 (γ 1) := hS7 _ _ _ _ _ l0
  have l1 : sn33 [ρ 6, ρ 7] (γ 1) 0 (ρ 7 + 8 * ρ 6) (γ 2) := hS33 _ _ _ _ _ l1
  have l2 : sn6 [ρ 16, ρ 2] (γ 3) 0 (ρ 17) (γ 4) := hS6 _ _ _ _ _ l2
  have l3 : ρ 17 ≠ 33 := l3
  have l4 : sn9 [ρ 17] (γ 4) 0 0 (γ 5) := hS9 _ _ _ _ _ l4
  have l5 : sn20 [0, ρ 16, ρ 2, ρ 3, ρ 4, ρ 18, ρ 14, ρ 11, ρ 12, ρ 13, ρ 6] (γ 5) 0 1 (γ 6) := hS20 _ _ _ _ _ l5
  have l6 : sn7 [ρ 19, ρ 2] (γ 8) 0 0 (γ 9) := hS7 _ _ _ _ _ l6
  have l7 : sn6 [ρ 26, ρ 2] (γ 9) 0 (ρ 27) (γ 10) := hS6 _ _ _ _ _ l7
  have l8 : sn9 [ρ 27] (γ 10) 0 1 (γ 11) := hS9 _ _ _ _ _ l8
  have l9 : sn12 [ρ 26, ρ 2, ρ 24, ρ 11, ρ 25] (γ 11) 0 1 (γ 12) := hS12 _ _ _ _ _ l9
  have l10 : sn13 [105, 115, 0, 0, 0, ρ 26, ρ 29] (γ 12) 0 1 (γ 13) := hS13 _ _ _ _ _ l10
  have l11 : sn18 [ρ 22, ρ 15] (γ 13) 0 0 (γ 14) := hS18 _ _ _ _ _ l11
  have l12 : sn34 [1, ρ 28, ρ 2, ρ 20, ρ 21, ρ 6, ρ 7, ρ 8, ρ 22, ρ 11, ρ 26, ρ 29, ρ 23, ρ 15] (γ 14) 0 1 (γ 15) := hS34 _ _ _ _ _ l12
  have l13 : sn7 [ρ 30, ρ 2] (γ 15) 0 0 (γ 16) := hS7 _ _ _ _ _ l13
  have l14 : sn6 [ρ 36, ρ 2] (γ 16) 0 (ρ 37) (γ 17) := hS6 _ _ _ _ _ l14
  have l15 : ρ 37 ≠ 43 := l15
  have l16 : ρ 37 ≠ 45 := l16
  have l17 : sn34 [2, ρ 36 + 1, ρ 2, ρ 31, ρ 32, ρ 6, ρ 7, 7, ρ 22, ρ 11, ρ 33, ρ 34, ρ 35, ρ 15] (γ 19) 0 0 (γ 20) := hS34 _ _ _ _ _ l17
  have wl_0 : ρ 17 ≠ 33 := by omega
  show sn37 [ρ 0, ρ 1, ρ 2, ρ 3, ρ 4, ρ 5, ρ 6, ρ 7, ρ 8, ρ 9, ρ 10, ρ 11, ρ 12, ρ 13, ρ 14, ρ 15] (γ 0) 0 0 (γ 20)
  refine Eq.symm ?_
  show fn37 [ρ 0] (γ 0) = _
  unfold fn37
  refine (zLet_eq (show _ = ρ 0 from rfl)).trans ?_
  refine (zLet_eq m1).trans ?_
  refine (zLet_eq m5).trans ?_
  refine (zLet_eq m6).trans ?_
  refine (zLet_eq m14).trans ?_
  refine (zLet_eq (show fn7 [] (γ 0) = (0, 0, γ 1) from l0.symm)).trans ?_
  refine (zLet_eq (show _ = γ 1 from rfl)).trans ?_
  refine (zLet_eq m15).trans ?_
  refine (zLet_eq (show fn33 [] (γ 1) = (0, ρ 7 + 8 * ρ 6, γ 2) from l1.symm)).trans ?_
  refine (zLet_eq (show _ = γ 2 from rfl)).trans ?_
  refine (zLet_eq c3.symm).trans ?_
  refine (zLet_eq (show fn6 [ρ 16] (γ 3) = (0, ρ 17, γ 4) from l2.symm)).trans ?_
  refine (zLet_eq (show _ = γ 4 from rfl)).trans ?_
  refine (if_pos w_0).trans ?_
  refine (zLet_eq (show _ = ρ 17 from rfl)).trans ?_
  refine (if_pos wl_0).trans ?_
  refine (zLet_eq (show fn9 [ρ 17] (γ 4) = (0, 0, γ 5) from l4.symm)).trans ?_
  refine (zLet_eq (show _ = γ 5 from rfl)).trans ?_
  refine (if_neg zQ0_).trans ?_
  refine (zLet_eq (show fn20 [0] (γ 5) = (0, 1, γ 6) from l5.symm)).trans ?_
  refine (zLet_eq (show _ = γ 6 from rfl)).trans ?_
  refine (if_pos zQ1_).trans ?_
  refine (zLet_eq m20).trans ?_
  refine (zLet_eq m21).trans ?_
  refine (zLet_eq c7.symm).trans ?_
  refine (zLet_eq c8.symm).trans ?_
  refine (zLet_eq (show fn7 [] (γ 8) = (0, 0, γ 9) from l6.symm)).trans ?_
  refine (zLet_eq (show _ = γ 9 from rfl)).trans ?_
  refine (zLet_eq m25).trans ?_
  refine (if_neg w_1).trans ?_
  refine (zLet_eq (show fn6 [ρ 26] (γ 9) = (0, ρ 27, γ 10) from l7.symm)).trans ?_
  refine (zLet_eq (show _ = γ 10 from rfl)).trans ?_
  refine (if_pos w_2).trans ?_
  refine (zLet_eq (show _ = ρ 27 from rfl)).trans ?_
  refine (zLet_eq (show fn9 [ρ 27] (γ 10) = (0, 1, γ 11) from l8.symm)).trans ?_
  refine (zLet_eq (show _ = γ 11 from rfl)).trans ?_
  refine (if_pos zQ1_).trans ?_
  refine (zLet_eq (show fn12 [] (γ 11) = (0, 1, γ 12) from l9.symm)).trans ?_
  refine (zLet_eq (show _ = γ 12 from rfl)).trans ?_
  refine (if_pos zQ1_).trans ?_
  refine (zLet_eq (show fn13 [105, 115, 0, 0, 0] (γ 12) = (0, 1, γ 13) from l10.symm)).trans ?_
  refine (zLet_eq (show _ = γ 13 from rfl)).trans ?_
  refine (if_pos zQ1_).trans ?_
  refine (zLet_eq (show fn18 [ρ 22] (γ 13) = (0, 0, γ 14) from l11.symm)).trans ?_
  refine (zLet_eq (show _ = γ 14 from rfl)).trans ?_
  refine (if_neg zQ0_).trans ?_
  refine (zLet_eq (show fn34 [1] (γ 14) = (0, 1, γ 15) from l12.symm)).trans ?_
  refine (zLet_eq (show _ = γ 15 from rfl)).trans ?_
  refine (if_pos zQ1_).trans ?_
  refine (zLet_eq (show fn7 [] (γ 15) = (0, 0, γ 16) from l13.symm)).trans ?_
  refine (zLet_eq (show _ = γ 16 from rfl)).trans ?_
  refine (zLet_eq m38).trans ?_
  refine (zLet_eq (show fn6 [ρ 36] (γ 16) = (0, ρ 37, γ 17) from l14.symm)).trans ?_
  refine (zLet_eq (show _ = γ 17 from rfl)).trans ?_
  refine (if_pos w_3).trans ?_
  refine (zLet_eq (show _ = ρ 37 from rfl)).trans ?_
  refine (if_neg w_4).trans ?_
  refine (if_neg w_5).trans ?_
  refine (if_pos w_6).trans ?_
  refine (zLet_eq c18.symm).trans ?_
  refine (zLet_eq c19.symm).trans ?_
  refine (zLet_eq (show fn34 [2] (γ 19) = (0, 0, γ 20) from l17.symm)).trans ?_
  refine (zLet_eq (show _ = γ 20 from rfl)).trans ?_
  refine (if_neg zQ0_).trans ?_
  rfl
theorem vn37_13 {S : Nat → zSpc} (hS6 : ∀ x g o v gz, S 6 x g o v gz → sn6 x g o v gz) (hS7 : ∀ x g o v gz, S 7 x g o v gz → sn7 x g o v gz) (hS8 : ∀ x g o v gz, S 8 x g o v gz → sn8 x g o v gz) (hS9 : ∀ x g o v gz, S 9 x g o v gz → sn9 x g o v gz) (hS12 : ∀ x g o v gz, S 12 x g o v gz → sn12 x g o v gz) (hS13 : ∀ x g o v gz, S 13 x g o v gz → sn13 x g o v gz) (hS15 : ∀ x g o v gz, S 15 x g o v gz → sn15 x g o v gz) (hS18 : ∀ x g o v gz, S 18 x g o v gz → sn18 x g o v gz) (hS20 : ∀ x g o v gz, S 20 x g o v gz → sn20 x g o v gz) (hS23 : ∀ x g o v gz, S 23 x g o v gz → sn23 x g o v gz) (hS33 : ∀ x g o v gz, S 33 x g o v gz → sn33 x g o v gz) (hS34 : ∀ x g o v gz, S 34 x g o v gz → sn34 x g o v gz) (hS35 : ∀ x g o v gz, S 35 x g o v gz → sn35 x g o v gz) (hS36 : ∀ x g o v gz, S 36 x g o v gz → sn36 x g o v gz) {a : List Int} {g : rHp} : ∀ (ρ : Nat → Int) (γ : Nat → rHp), zO 16 S a g q37_13 ρ γ → zGl (fun _ _ _ => True) (sn37 a g) q37_13 ρ γ := by
  intro ρ γ h
  obtain ⟨ha, hg, hr, hf, hm, hc, hl⟩ := h
  have ha : a = [ρ 0, ρ 1, ρ 2, ρ 3, ρ 4, ρ 5, ρ 6, ρ 7, ρ 8, ρ 9, ρ 10, ρ 11, ρ 12, ρ 13, ρ 14, ρ 15] := ha
  subst ha
  subst hg
  obtain ⟨-, -, -, -, -, -, -, -, -, -, -, -, -, -, -, -, -, r17, -, -, -, -, -, r23, -, -, -, -, -, -, -, -, -, -, -, -, -, r37, -⟩ := hr
  have r17 : ((-128) : Int) ≤ ρ 17 ∧ ρ 17 ≤ 127 := r17
  have r23 : (1 : Int) ≤ ρ 23 ∧ ρ 23 ≤ 1 := r23
  have r37 : (42 : Int) ≤ ρ 37 ∧ ρ 37 ≤ 42 := r37
  obtain ⟨-, -, f2, -, -, -, -, -, -, -, -, -, -, -, -, -, -, -, -, -, -, -, f22, -, -, -, -, -, -, -, -, -, -, -, -, f35, -⟩ := hf
  have f2 : (0 : Int) ≤ -ρ 36 + ρ 2 + (-1) := f2
  have f22 : (0 : Int) ≤ -ρ 26 + ρ 2 + (-1) := f22
  have f35 : (0 : Int) ≤ -ρ 16 + ρ 2 + (-1) := f35
  obtain ⟨w_0, w_1, w_2, w_3, w_4, w_5, w_6⟩ : (0 ≤ -ρ 16 + ρ 2 + (-1)) ∧ (¬ (ρ 23 ≠ 1)) ∧ (0 ≤ -ρ 26 + ρ 2 + (-1)) ∧ (0 ≤ -ρ 36 + ρ 2 + (-1)) ∧ (¬ (ρ 37 = 43)) ∧ (¬ (ρ 37 = 45)) ∧ (ρ 37 = 42) := ⟨by omega, by omega, by omega, by omega, by omega, by omega, by omega⟩
  obtain ⟨-, m1, -, -, -, m5, m6, -, -, -, -, -, -, -, m14, m15, -, -, -, -, m20, m21, -, -, -, m25, -, -, -, -, -, -, -, -, -, -, -, -, m38, -⟩ := hm
  have m1 : γ 0 15 0 34 = ρ 2 := m1
  have m5 : γ 0 15 0 44 = ρ 6 := m5
  have m6 : γ 0 73 0 (ρ 6) = ρ 7 := m6
  have m14 : γ 0 15 0 45 = ρ 15 := m14
  have m15 : γ 1 15 0 35 = ρ 16 := m15
  have m20 : γ 6 15 0 39 = ρ 22 := m20
  have m21 : γ 6 15 0 40 = ρ 23 := m21
  have m25 : γ 9 15 0 35 = ρ 26 := m25
  have m38 : γ 16 15 0 35 = ρ 36 := m38
  obtain ⟨⟨⟨⟨⟨⟨⟨⟨⟨⟨⟨⟨⟨⟨⟨⟨⟨⟨⟨-, c3⟩, -⟩, -⟩, -⟩, c7⟩, c8⟩, -⟩, -⟩, -⟩, -⟩, -⟩, -⟩, -⟩, -⟩, -⟩, c18⟩, c19⟩, -⟩, c21⟩ := hc
  have c3 : γ 3 = rUp (γ 2) 79 0 (ρ 7 + 8 * ρ 6) (ρ 15) := c3
  have c7 : γ 7 = rUp (γ 6) 80 0 (4 * ρ 7 + 32 * ρ 6) (ρ 23) := c7
  have c8 : γ 8 = rUp (γ 7) 81 0 (4 * ρ 7 + 32 * ρ 6) (ρ 22) := c8
  have c18 : γ 18 = rUp (γ 17) 15 0 35 (ρ 36 + 1) := c18
  have c19 : γ 19 = rUp (γ 18) 77 0 (ρ 7 + 8 * ρ 6) 7 := c19
  have c21 : γ 21 = rUp (γ 20) 15 0 45 (ρ 45) := c21
  obtain ⟨l0, l1, l2, l3, l4, l5, l6, l7, l8, l9, l10, l11, l12, l13, l14, l15, l16, l17, l18, l19, -⟩ := hl
  have l0 : sn7 [ρ 1, ρ 2] (γ 0) 0 0 (γ 1) := hS7 _ _ _ _ _ l0
  have l1 : sn33 [ρ 6, ρ 7] (γ 1) 0 (ρ 7 + 8 * ρ 6) (γ 2) := hS33 _ _ _ _ _ l1
  have l2 : sn6 [ρ 16, ρ 2] (γ 3) 0 (ρ 17) (γ 4) := hS6 _ _ _ _ _ l2
  have l3 : ρ 17 ≠ 33 := l3
  have l4 : sn9 [ρ 17] (γ 4) 0 0 (γ 5) := hS9 _ _ _ _ _ l4
  have l5 : sn20 [0, ρ 16, ρ 2, ρ 3, ρ 4, ρ 18, ρ 14, ρ 11, ρ 12, ρ 13, ρ 6] (γ 5) 0 1 (γ 6) := hS20 _ _ _ _ _ l5
  have l6 : sn7 [ρ 19, ρ 2] (γ 8) 0 0 (γ 9) := hS7 _ _ _ _ _ l6
  have l7 : sn6 [ρ 26, ρ 2] (γ 9) 0 (ρ 27) (γ 10) := hS6 _ _ _ _ _ l7
  have l8 : sn9 [ρ 27] (γ 10) 0 1 (γ 11) := hS9 _ _ _ _ _ l8
  have l9 : sn12 [ρ 26, ρ 2, ρ 24, ρ 11, ρ 25] (γ 11) 0 1 (γ 12) := hS12 _ _ _ _ _ l9
  have l10 : sn13 [105, 115, 0, 0, 0, ρ 26, ρ 29] (γ 12) 0 1 (γ 13) := hS13 _ _ _ _ _ l10
  have l11 : sn18 [ρ 22, ρ 15] (γ 13) 0 0 (γ 14) := hS18 _ _ _ _ _ l11
  have l12 : sn34 [1, ρ 28, ρ 2, ρ 20, ρ 21, ρ 6, ρ 7, ρ 8, ρ 22, ρ 11, ρ 26, ρ 29, ρ 23, ρ 15] (γ 14) 0 1 (γ 15) := hS34 _ _ _ _ _ l12
  have l13 : sn7 [ρ 30, ρ 2] (γ 15) 0 0 (γ 16) := hS7 _ _ _ _ _ l13
  have l14 : sn6 [ρ 36, ρ 2] (γ 16) 0 (ρ 37) (γ 17) := hS6 _ _ _ _ _ l14
  have l15 : ρ 37 ≠ 43 := l15
  have l16 : ρ 37 ≠ 45 := l16
  have l17 : sn34 [2, ρ 36 + 1, ρ 2, ρ 31, ρ 32, ρ 6, ρ 7, 7, ρ 22, ρ 11, ρ 33, ρ 34, ρ 35, ρ 15] (γ 19) 0 1 (γ 20) := hS34 _ _ _ _ _ l17
  have l18 : zOpP (.ishl) (γ 0) (γ 1) [1, ρ 22] (ρ 44) := l18
  have l19 : zOpP (.ior) (γ 0) (γ 1) [ρ 15, ρ 44] (ρ 45) := l19
  have wl_0 : ρ 17 ≠ 33 := by omega
  show sn37 [ρ 0, ρ 1, ρ 2, ρ 3, ρ 4, ρ 5, ρ 6, ρ 7, ρ 8, ρ 9, ρ 10, ρ 11, ρ 12, ρ 13, ρ 14, ρ 15] (γ 0) 0 1 (γ 21)
  refine Eq.symm ?_
  show fn37 [ρ 0] (γ 0) = _
  unfold fn37
  refine (zLet_eq (show _ = ρ 0 from rfl)).trans ?_
  refine (zLet_eq m1).trans ?_
  refine (zLet_eq m5).trans ?_
  refine (zLet_eq m6).trans ?_
  refine (zLet_eq m14).trans ?_
  refine (zLet_eq (show fn7 [] (γ 0) = (0, 0, γ 1) from l0.symm)).trans ?_
  refine (zLet_eq (show _ = γ 1 from rfl)).trans ?_
  refine (zLet_eq m15).trans ?_
  refine (zLet_eq (show fn33 [] (γ 1) = (0, ρ 7 + 8 * ρ 6, γ 2) from l1.symm)).trans ?_
  refine (zLet_eq (show _ = γ 2 from rfl)).trans ?_
  refine (zLet_eq c3.symm).trans ?_
  refine (zLet_eq (show fn6 [ρ 16] (γ 3) = (0, ρ 17, γ 4) from l2.symm)).trans ?_
  refine (zLet_eq (show _ = γ 4 from rfl)).trans ?_
  refine (if_pos w_0).trans ?_
  refine (zLet_eq (show _ = ρ 17 from rfl)).trans ?_
  refine (if_pos wl_0).trans ?_
  refine (zLet_eq (show fn9 [ρ 17] (γ 4) = (0, 0, γ 5) from l4.symm)).trans ?_
  refine (zLet_eq (show _ = γ 5 from rfl)).trans ?_
  refine (if_neg zQ0_).trans ?_
  refine (zLet_eq (show fn20 [0] (γ 5) = (0, 1, γ 6) from l5.symm)).trans ?_
  refine (zLet_eq (show _ = γ 6 from rfl)).trans ?_
  refine (if_pos zQ1_).trans ?_
  refine (zLet_eq m20).trans ?_
  refine (zLet_eq m21).trans ?_
  refine (zLet_eq c7.symm).trans ?_
  refine (zLet_eq c8.symm).trans ?_
  refine (zLet_eq (show fn7 [] (γ 8) = (0, 0, γ 9) from l6.symm)).trans ?_
  refine (zLet_eq (show _ = γ 9 from rfl)).trans ?_
  refine (zLet_eq m25).trans ?_
  refine (if_neg w_1).trans ?_
  refine (zLet_eq (show fn6 [ρ 26] (γ 9) = (0, ρ 27, γ 10) from l7.symm)).trans ?_
  refine (zLet_eq (show _ = γ 10 from rfl)).trans ?_
  refine (if_pos w_2).trans ?_
  refine (zLet_eq (show _ = ρ 27 from rfl)).trans ?_
  refine (zLet_eq (show fn9 [ρ 27] (γ 10) = (0, 1, γ 11) from l8.symm)).trans ?_
  refine (zLet_eq (show _ = γ 11 from rfl)).trans ?_
  refine (if_pos zQ1_).trans ?_
  refine (zLet_eq (show fn12 [] (γ 11) = (0, 1, γ 12) from l9.symm)).trans ?_
  refine (zLet_eq (show _ = γ 12 from rfl)).trans ?_
  refine (if_pos zQ1_).trans ?_
  refine (zLet_eq (show fn13 [105, 115, 0, 0, 0] (γ 12) = (0, 1, γ 13) from l10.symm)).trans ?_
  refine (zLet_eq (show _ = γ 13 from rfl)).trans ?_
  refine (if_pos zQ1_).trans ?_
  refine (zLet_eq (show fn18 [ρ 22] (γ 13) = (0, 0, γ 14) from l11.symm)).trans ?_
  refine (zLet_eq (show _ = γ 14 from rfl)).trans ?_
  refine (if_neg zQ0_).trans ?_
  refine (zLet_eq (show fn34 [1] (γ 14) = (0, 1, γ 15) from l12.symm)).trans ?_
  refine (zLet_eq (show _ = γ 15 from rfl)).trans ?_
  refine (if_pos zQ1_).trans ?_
  refine (zLet_eq (show fn7 [] (γ 15) = (0, 0, γ 16) from l13.symm)).trans ?_
  refine (zLet_eq (show _ = γ 16 from rfl)).trans ?_
  refine (zLet_eq m38).trans ?_
  refine (zLet_eq (show fn6 [ρ 36] (γ 16) = (0, ρ 37, γ 17) from l14.symm)).trans ?_
  refine (zLet_eq (show _ = γ 17 from rfl)).trans ?_
  refine (if_pos w_3).trans ?_
  refine (zLet_eq (show _ = ρ 37 from rfl)).trans ?_
  refine (if_neg w_4).trans ?_
  refine (if_neg w_5).trans ?_
  refine (if_pos w_6).trans ?_
  refine (zLet_eq c18.symm).trans ?_
  refine (zLet_eq c19.symm).trans ?_
  refine (zLet_eq (show fn34 [2] (γ 19) = (0, 1, γ 20) from l17.symm)).trans ?_
  refine (zLet_eq (show _ = γ 20 from rfl)).trans ?_
  refine (if_pos zQ1_).trans ?_
  refine (zLet_eq (zF2_ok l18)).trans ?_
  refine (zLet_eq (zF2_ok l19)).trans ?_
  refine (zLet_eq c21.symm).trans ?_
  rfl
theorem vn37_14 {S : Nat → zSpc} (hS6 : ∀ x g o v gz, S 6 x g o v gz → sn6 x g o v gz) (hS7 : ∀ x g o v gz, S 7 x g o v gz → sn7 x g o v gz) (hS8 : ∀ x g o v gz, S 8 x g o v gz → sn8 x g o v gz) (hS9 : ∀ x g o v gz, S 9 x g o v gz → sn9 x g o v gz) (hS12 : ∀ x g o v gz, S 12 x g o v gz → sn12 x g o v gz) (hS13 : ∀ x g o v gz, S 13 x g o v gz → sn13 x g o v gz) (hS15 : ∀ x g o v gz, S 15 x g o v gz → sn15 x g o v gz) (hS18 : ∀ x g o v gz, S 18 x g o v gz → sn18 x g o v gz) (hS20 : ∀ x g o v gz, S 20 x g o v gz → sn20 x g o v gz) (hS23 : ∀ x g o v gz, S 23 x g o v gz → sn23 x g o v gz) (hS33 : ∀ x g o v gz, S 33 x g o v gz → sn33 x g o v gz) (hS34 : ∀ x g o v gz, S 34 x g o v gz → sn34 x g o v gz) (hS35 : ∀ x g o v gz, S 35 x g o v gz → sn35 x g o v gz) (hS36 : ∀ x g o v gz, S 36 x g o v gz → sn36 x g o v gz) {a : List Int} {g : rHp} : ∀ (ρ : Nat → Int) (γ : Nat → rHp), zO 16 S a g q37_14 ρ γ → zGl (fun _ _ _ => True) (sn37 a g) q37_14 ρ γ := by
  intro ρ γ h
  obtain ⟨ha, hg, hr, hf, hm, hc, hl⟩ := h
  have ha : a = [ρ 0, ρ 1, ρ 2, ρ 3, ρ 4, ρ 5, ρ 6, ρ 7, ρ 8, ρ 9, ρ 10, ρ 11, ρ 12, ρ 13, ρ 14, ρ 15] := ha
  subst ha
  subst hg
  obtain ⟨-, -, -, -, -, -, -, -, -, -, -, -, -, -, -, -, -, r17, -, -, -, -, -, r23, -, -, -, -, -, -, -, -, -, -, -, -, -, r37, -⟩ := hr
  have r17 : ((-128) : Int) ≤ ρ 17 ∧ ρ 17 ≤ 127 := r17
  have r23 : (1 : Int) ≤ ρ 23 ∧ ρ 23 ≤ 1 := r23
  have r37 : ((-128) : Int) ≤ ρ 37 ∧ ρ 37 ≤ 127 := r37
  obtain ⟨-, -, f2, -, -, -, -, -, -, -, -, -, -, -, -, f15, -, -, -, -, -, -, -, -, -, -, -, -, f28, -⟩ := hf
  have f2 : (0 : Int) ≤ -ρ 36 + ρ 2 + (-1) := f2
  have f15 : (0 : Int) ≤ -ρ 26 + ρ 2 + (-1) := f15
  have f28 : (0 : Int) ≤ -ρ 16 + ρ 2 + (-1) := f28
  obtain ⟨w_0, w_1, w_2, w_3⟩ : (0 ≤ -ρ 16 + ρ 2 + (-1)) ∧ (¬ (ρ 23 ≠ 1)) ∧ (0 ≤ -ρ 26 + ρ 2 + (-1)) ∧ (0 ≤ -ρ 36 + ρ 2 + (-1)) := ⟨by omega, by omega, by omega, by omega⟩
  obtain ⟨-, m1, -, -, -, m5, m6, -, -, -, -, -, -, -, m14, m15, -, -, -, -, m20, m21, -, -, -, m25, -, -, -, -, -, -, -, -, -, -, -, -, m38, -⟩ := hm
  have m1 : γ 0 15 0 34 = ρ 2 := m1
  have m5 : γ 0 15 0 44 = ρ 6 := m5
  have m6 : γ 0 73 0 (ρ 6) = ρ 7 := m6
  have m14 : γ 0 15 0 45 = ρ 15 := m14
  have m15 : γ 1 15 0 35 = ρ 16 := m15
  have m20 : γ 6 15 0 39 = ρ 22 := m20
  have m21 : γ 6 15 0 40 = ρ 23 := m21
  have m25 : γ 9 15 0 35 = ρ 26 := m25
  have m38 : γ 16 15 0 35 = ρ 36 := m38
  obtain ⟨⟨⟨⟨⟨⟨⟨⟨⟨⟨⟨⟨⟨⟨⟨⟨-, c3⟩, -⟩, -⟩, -⟩, c7⟩, c8⟩, -⟩, -⟩, -⟩, -⟩, -⟩, -⟩, -⟩, -⟩, -⟩, -⟩ := hc
  have c3 : γ 3 = rUp (γ 2) 79 0 (ρ 7 + 8 * ρ 6) (ρ 15) := c3
  have c7 : γ 7 = rUp (γ 6) 80 0 (4 * ρ 7 + 32 * ρ 6) (ρ 23) := c7
  have c8 : γ 8 = rUp (γ 7) 81 0 (4 * ρ 7 + 32 * ρ 6) (ρ 22) := c8
  obtain ⟨l0, l1, l2, l3, l4, l5, l6, l7, l8, l9, l10, l11, l12, l13, l14, l15, l16, l17, l18, -⟩ := hl
  have l0 : sn7 [ρ 1, ρ 2] (γ 0) 0 0 (γ 1) := hS7 _ _ _ _ _ l0
  have l1 : sn33 [ρ 6, ρ 7] (γ 1) 0 (ρ 7 + 8 * ρ 6) (γ 2) := hS33 _ _ _ _ _ l1
  have l2 : sn6 [ρ 16, ρ 2] (γ 3) 0 (ρ 17) (γ 4) := hS6 _ _ _ _ _ l2
  have l3 : ρ 17 ≠ 33 := l3
  have l4 : sn9 [ρ 17] (γ 4) 0 0 (γ 5) := hS9 _ _ _ _ _ l4
  have l5 : sn20 [0, ρ 16, ρ 2, ρ 3, ρ 4, ρ 18, ρ 14, ρ 11, ρ 12, ρ 13, ρ 6] (γ 5) 0 1 (γ 6) := hS20 _ _ _ _ _ l5
  have l6 : sn7 [ρ 19, ρ 2] (γ 8) 0 0 (γ 9) := hS7 _ _ _ _ _ l6
  have l7 : sn6 [ρ 26, ρ 2] (γ 9) 0 (ρ 27) (γ 10) := hS6 _ _ _ _ _ l7
  have l8 : sn9 [ρ 27] (γ 10) 0 1 (γ 11) := hS9 _ _ _ _ _ l8
  have l9 : sn12 [ρ 26, ρ 2, ρ 24, ρ 11, ρ 25] (γ 11) 0 1 (γ 12) := hS12 _ _ _ _ _ l9
  have l10 : sn13 [105, 115, 0, 0, 0, ρ 26, ρ 29] (γ 12) 0 1 (γ 13) := hS13 _ _ _ _ _ l10
  have l11 : sn18 [ρ 22, ρ 15] (γ 13) 0 0 (γ 14) := hS18 _ _ _ _ _ l11
  have l12 : sn34 [1, ρ 28, ρ 2, ρ 20, ρ 21, ρ 6, ρ 7, ρ 8, ρ 22, ρ 11, ρ 26, ρ 29, ρ 23, ρ 15] (γ 14) 0 1 (γ 15) := hS34 _ _ _ _ _ l12
  have l13 : sn7 [ρ 30, ρ 2] (γ 15) 0 0 (γ 16) := hS7 _ _ _ _ _ l13
  have l14 : sn6 [ρ 36, ρ 2] (γ 16) 0 (ρ 37) (γ 17) := hS6 _ _ _ _ _ l14
  have l15 : ρ 37 ≠ 43 := l15
  have l16 : ρ 37 ≠ 45 := l16
  have l17 : ρ 37 ≠ 42 := l17
  have l18 : sn8 [ρ 36, ρ 2, ρ 11] (γ 17) 0 0 (γ 18) := hS8 _ _ _ _ _ l18
  obtain ⟨wl_0, wl_1, wl_2, wl_3⟩ : (ρ 17 ≠ 33) ∧ (¬ (ρ 37 = 43)) ∧ (¬ (ρ 37 = 45)) ∧ (¬ (ρ 37 = 42)) := ⟨by omega, by omega, by omega, by omega⟩
  show sn37 [ρ 0, ρ 1, ρ 2, ρ 3, ρ 4, ρ 5, ρ 6, ρ 7, ρ 8, ρ 9, ρ 10, ρ 11, ρ 12, ρ 13, ρ 14, ρ 15] (γ 0) 0 0 (γ 18)
  refine Eq.symm ?_
  show fn37 [ρ 0] (γ 0) = _
  unfold fn37
  refine (zLet_eq (show _ = ρ 0 from rfl)).trans ?_
  refine (zLet_eq m1).trans ?_
  refine (zLet_eq m5).trans ?_
  refine (zLet_eq m6).trans ?_
  refine (zLet_eq m14).trans ?_
  refine (zLet_eq (show fn7 [] (γ 0) = (0, 0, γ 1) from l0.symm)).trans ?_
  refine (zLet_eq (show _ = γ 1 from rfl)).trans ?_
  refine (zLet_eq m15).trans ?_
  refine (zLet_eq (show fn33 [] (γ 1) = (0, ρ 7 + 8 * ρ 6, γ 2) from l1.symm)).trans ?_
  refine (zLet_eq (show _ = γ 2 from rfl)).trans ?_
  refine (zLet_eq c3.symm).trans ?_
  refine (zLet_eq (show fn6 [ρ 16] (γ 3) = (0, ρ 17, γ 4) from l2.symm)).trans ?_
  refine (zLet_eq (show _ = γ 4 from rfl)).trans ?_
  refine (if_pos w_0).trans ?_
  refine (zLet_eq (show _ = ρ 17 from rfl)).trans ?_
  refine (if_pos wl_0).trans ?_
  refine (zLet_eq (show fn9 [ρ 17] (γ 4) = (0, 0, γ 5) from l4.symm)).trans ?_
  refine (zLet_eq (show _ = γ 5 from rfl)).trans ?_
  refine (if_neg zQ0_).trans ?_
  refine (zLet_eq (show fn20 [0] (γ 5) = (0, 1, γ 6) from l5.symm)).trans ?_
  refine (zLet_eq (show _ = γ 6 from rfl)).trans ?_
  refine (if_pos zQ1_).trans ?_
  refine (zLet_eq m20).trans ?_
  refine (zLet_eq m21).trans ?_
  refine (zLet_eq c7.symm).trans ?_
  refine (zLet_eq c8.symm).trans ?_
  refine (zLet_eq (show fn7 [] (γ 8) = (0, 0, γ 9) from l6.symm)).trans ?_
  refine (zLet_eq (show _ = γ 9 from rfl)).trans ?_
  refine (zLet_eq m25).trans ?_
  refine (if_neg w_1).trans ?_
  refine (zLet_eq (show fn6 [ρ 26] (γ 9) = (0, ρ 27, γ 10) from l7.symm)).trans ?_
  refine (zLet_eq (show _ = γ 10 from rfl)).trans ?_
  refine (if_pos w_2).trans ?_
  refine (zLet_eq (show _ = ρ 27 from rfl)).trans ?_
  refine (zLet_eq (show fn9 [ρ 27] (γ 10) = (0, 1, γ 11) from l8.symm)).trans ?_
  refine (zLet_eq (show _ = γ 11 from rfl)).trans ?_
  refine (if_pos zQ1_).trans ?_
  refine (zLet_eq (show fn12 [] (γ 11) = (0, 1, γ 12) from l9.symm)).trans ?_
  refine (zLet_eq (show _ = γ 12 from rfl)).trans ?_
  refine (if_pos zQ1_).trans ?_
  refine (zLet_eq (show fn13 [105, 115, 0, 0, 0] (γ 12) = (0, 1, γ 13) from l10.symm)).trans ?_
  refine (zLet_eq (show _ = γ 13 from rfl)).trans ?_
  refine (if_pos zQ1_).trans ?_
  refine (zLet_eq (show fn18 [ρ 22] (γ 13) = (0, 0, γ 14) from l11.symm)).trans ?_
  refine (zLet_eq (show _ = γ 14 from rfl)).trans ?_
  refine (if_neg zQ0_).trans ?_
  refine (zLet_eq (show fn34 [1] (γ 14) = (0, 1, γ 15) from l12.symm)).trans ?_
  refine (zLet_eq (show _ = γ 15 from rfl)).trans ?_
  refine (if_pos zQ1_).trans ?_
  refine (zLet_eq (show fn7 [] (γ 15) = (0, 0, γ 16) from l13.symm)).trans ?_
  refine (zLet_eq (show _ = γ 16 from rfl)).trans ?_
  refine (zLet_eq m38).trans ?_
  refine (zLet_eq (show fn6 [ρ 36] (γ 16) = (0, ρ 37, γ 17) from l14.symm)).trans ?_
  refine (zLet_eq (show _ = γ 17 from rfl)).trans ?_
  refine (if_pos w_3).trans ?_
  refine (zLet_eq (show _ = ρ 37 from rfl)).trans ?_
  refine (if_neg wl_1).trans ?_
  refine (if_neg wl_2).trans ?_
  refine (if_neg wl_3).trans ?_
  refine (zLet_eq (show fn8 [ρ 36] (γ 17) = (0, 0, γ 18) from l18.symm)).trans ?_
  refine (zLet_eq (show _ = γ 18 from rfl)).trans ?_
  rfl
theorem vn37_15 {S : Nat → zSpc} (hS6 : ∀ x g o v gz, S 6 x g o v gz → sn6 x g o v gz) (hS7 : ∀ x g o v gz, S 7 x g o v gz → sn7 x g o v gz) (hS8 : ∀ x g o v gz, S 8 x g o v gz → sn8 x g o v gz) (hS9 : ∀ x g o v gz, S 9 x g o v gz → sn9 x g o v gz) (hS12 : ∀ x g o v gz, S 12 x g o v gz → sn12 x g o v gz) (hS13 : ∀ x g o v gz, S 13 x g o v gz → sn13 x g o v gz) (hS15 : ∀ x g o v gz, S 15 x g o v gz → sn15 x g o v gz) (hS18 : ∀ x g o v gz, S 18 x g o v gz → sn18 x g o v gz) (hS20 : ∀ x g o v gz, S 20 x g o v gz → sn20 x g o v gz) (hS23 : ∀ x g o v gz, S 23 x g o v gz → sn23 x g o v gz) (hS33 : ∀ x g o v gz, S 33 x g o v gz → sn33 x g o v gz) (hS34 : ∀ x g o v gz, S 34 x g o v gz → sn34 x g o v gz) (hS35 : ∀ x g o v gz, S 35 x g o v gz → sn35 x g o v gz) (hS36 : ∀ x g o v gz, S 36 x g o v gz → sn36 x g o v gz) {a : List Int} {g : rHp} : ∀ (ρ : Nat → Int) (γ : Nat → rHp), zO 16 S a g q37_15 ρ γ → zGl (fun _ _ _ => True) (sn37 a g) q37_15 ρ γ := by
  intro ρ γ h
  obtain ⟨ha, hg, hr, hf, hm, hc, hl⟩ := h
  have ha : a = [ρ 0, ρ 1, ρ 2, ρ 3, ρ 4, ρ 5, ρ 6, ρ 7, ρ 8, ρ 9, ρ 10, ρ 11, ρ 12, ρ 13, ρ 14, ρ 15] := ha
  subst ha
  subst hg
  obtain ⟨-, -, -, -, -, -, -, -, -, -, -, -, -, -, -, -, -, r17, -, -, -, -, -, r23, -⟩ := hr
  have r17 : ((-128) : Int) ≤ ρ 17 ∧ ρ 17 ≤ 127 := r17
  have r23 : (1 : Int) ≤ ρ 23 ∧ ρ 23 ≤ 1 := r23
  obtain ⟨-, -, f2, -, -, -, -, -, -, -, -, -, -, -, -, f15, -, -, -, -, -, -, -, -, -, -, -, -, f28, -⟩ := hf
  have f2 : (0 : Int) ≤ ρ 36 + -ρ 2 := f2
  have f15 : (0 : Int) ≤ -ρ 26 + ρ 2 + (-1) := f15
  have f28 : (0 : Int) ≤ -ρ 16 + ρ 2 + (-1) := f28
  obtain ⟨w_0, w_1, w_2, w_3⟩ : (0 ≤ -ρ 16 + ρ 2 + (-1)) ∧ (¬ (ρ 23 ≠ 1)) ∧ (0 ≤ -ρ 26 + ρ 2 + (-1)) ∧ (¬ (0 ≤ -ρ 36 + ρ 2 + (-1))) := ⟨by omega, by omega, by omega, by omega⟩
  obtain ⟨-, m1, -, -, -, m5, m6, -, -, -, -, -, -, -, m14, m15, -, -, -, -, m20, m21, -, -, -, m25, -, -, -, -, -, -, -, -, -, -, -, -, m38, -⟩ := hm
  have m1 : γ 0 15 0 34 = ρ 2 := m1
  have m5 : γ 0 15 0 44 = ρ 6 := m5
  have m6 : γ 0 73 0 (ρ 6) = ρ 7 := m6
  have m14 : γ 0 15 0 45 = ρ 15 := m14
  have m15 : γ 1 15 0 35 = ρ 16 := m15
  have m20 : γ 6 15 0 39 = ρ 22 := m20
  have m21 : γ 6 15 0 40 = ρ 23 := m21
  have m25 : γ 9 15 0 35 = ρ 26 := m25
  have m38 : γ 16 15 0 35 = ρ 36 := m38
  obtain ⟨⟨⟨⟨⟨⟨⟨⟨⟨⟨⟨⟨⟨⟨⟨⟨-, c3⟩, -⟩, -⟩, -⟩, c7⟩, c8⟩, -⟩, -⟩, -⟩, -⟩, -⟩, -⟩, -⟩, -⟩, -⟩, -⟩ := hc
  have c3 : γ 3 = rUp (γ 2) 79 0 (ρ 7 + 8 * ρ 6) (ρ 15) := c3
  have c7 : γ 7 = rUp (γ 6) 80 0 (4 * ρ 7 + 32 * ρ 6) (ρ 23) := c7
  have c8 : γ 8 = rUp (γ 7) 81 0 (4 * ρ 7 + 32 * ρ 6) (ρ 22) := c8
  obtain ⟨l0, l1, l2, l3, l4, l5, l6, l7, l8, l9, l10, l11, l12, l13, l14, l15, -⟩ := hl
  have l0 : sn7 [ρ 1, ρ 2] (γ 0) 0 0 (γ 1) := hS7 _ _ _ _ _ l0
  have l1 : sn33 [ρ 6, ρ 7] (γ 1) 0 (ρ 7 + 8 * ρ 6) (γ 2) := hS33 _ _ _ _ _ l1
  have l2 : sn6 [ρ 16, ρ 2] (γ 3) 0 (ρ 17) (γ 4) := hS6 _ _ _ _ _ l2
  have l3 : ρ 17 ≠ 33 := l3
  have l4 : sn9 [ρ 17] (γ 4) 0 0 (γ 5) := hS9 _ _ _ _ _ l4
  have l5 : sn20 [0, ρ 16, ρ 2, ρ 3, ρ 4, ρ 18, ρ 14, ρ 11, ρ 12, ρ 13, ρ 6] (γ 5) 0 1 (γ 6) := hS20 _ _ _ _ _ l5
  have l6 : sn7 [ρ 19, ρ 2] (γ 8) 0 0 (γ 9) := hS7 _ _ _ _ _ l6
  have l7 : sn6 [ρ 26, ρ 2] (γ 9) 0 (ρ 27) (γ 10) := hS6 _ _ _ _ _ l7
  have l8 : sn9 [ρ 27] (γ 10) 0 1 (γ 11) := hS9 _ _ _ _ _ l8
  have l9 : sn12 [ρ 26, ρ 2, ρ 24, ρ 11, ρ 25] (γ 11) 0 1 (γ 12) := hS12 _ _ _ _ _ l9
  have l10 : sn13 [105, 115, 0, 0, 0, ρ 26, ρ 29] (γ 12) 0 1 (γ 13) := hS13 _ _ _ _ _ l10
  have l11 : sn18 [ρ 22, ρ 15] (γ 13) 0 0 (γ 14) := hS18 _ _ _ _ _ l11
  have l12 : sn34 [1, ρ 28, ρ 2, ρ 20, ρ 21, ρ 6, ρ 7, ρ 8, ρ 22, ρ 11, ρ 26, ρ 29, ρ 23, ρ 15] (γ 14) 0 1 (γ 15) := hS34 _ _ _ _ _ l12
  have l13 : sn7 [ρ 30, ρ 2] (γ 15) 0 0 (γ 16) := hS7 _ _ _ _ _ l13
  have l14 : sn6 [ρ 36, ρ 2] (γ 16) 0 (-1) (γ 17) := hS6 _ _ _ _ _ l14
  have l15 : sn8 [ρ 36, ρ 2, ρ 11] (γ 17) 0 0 (γ 18) := hS8 _ _ _ _ _ l15
  have wl_0 : ρ 17 ≠ 33 := by omega
  show sn37 [ρ 0, ρ 1, ρ 2, ρ 3, ρ 4, ρ 5, ρ 6, ρ 7, ρ 8, ρ 9, ρ 10, ρ 11, ρ 12, ρ 13, ρ 14, ρ 15] (γ 0) 0 0 (γ 18)
  refine Eq.symm ?_
  show fn37 [ρ 0] (γ 0) = _
  unfold fn37
  refine (zLet_eq (show _ = ρ 0 from rfl)).trans ?_
  refine (zLet_eq m1).trans ?_
  refine (zLet_eq m5).trans ?_
  refine (zLet_eq m6).trans ?_
  refine (zLet_eq m14).trans ?_
  refine (zLet_eq (show fn7 [] (γ 0) = (0, 0, γ 1) from l0.symm)).trans ?_
  refine (zLet_eq (show _ = γ 1 from rfl)).trans ?_
  refine (zLet_eq m15).trans ?_
  refine (zLet_eq (show fn33 [] (γ 1) = (0, ρ 7 + 8 * ρ 6, γ 2) from l1.symm)).trans ?_
  refine (zLet_eq (show _ = γ 2 from rfl)).trans ?_
  refine (zLet_eq c3.symm).trans ?_
  refine (zLet_eq (show fn6 [ρ 16] (γ 3) = (0, ρ 17, γ 4) from l2.symm)).trans ?_
  refine (zLet_eq (show _ = γ 4 from rfl)).trans ?_
  refine (if_pos w_0).trans ?_
  refine (zLet_eq (show _ = ρ 17 from rfl)).trans ?_
  refine (if_pos wl_0).trans ?_
  refine (zLet_eq (show fn9 [ρ 17] (γ 4) = (0, 0, γ 5) from l4.symm)).trans ?_
  refine (zLet_eq (show _ = γ 5 from rfl)).trans ?_
  refine (if_neg zQ0_).trans ?_
  refine (zLet_eq (show fn20 [0] (γ 5) = (0, 1, γ 6) from l5.symm)).trans ?_
  refine (zLet_eq (show _ = γ 6 from rfl)).trans ?_
  refine (if_pos zQ1_).trans ?_
  refine (zLet_eq m20).trans ?_
  refine (zLet_eq m21).trans ?_
  refine (zLet_eq c7.symm).trans ?_
  refine (zLet_eq c8.symm).trans ?_
  refine (zLet_eq (show fn7 [] (γ 8) = (0, 0, γ 9) from l6.symm)).trans ?_
  refine (zLet_eq (show _ = γ 9 from rfl)).trans ?_
  refine (zLet_eq m25).trans ?_
  refine (if_neg w_1).trans ?_
  refine (zLet_eq (show fn6 [ρ 26] (γ 9) = (0, ρ 27, γ 10) from l7.symm)).trans ?_
  refine (zLet_eq (show _ = γ 10 from rfl)).trans ?_
  refine (if_pos w_2).trans ?_
  refine (zLet_eq (show _ = ρ 27 from rfl)).trans ?_
  refine (zLet_eq (show fn9 [ρ 27] (γ 10) = (0, 1, γ 11) from l8.symm)).trans ?_
  refine (zLet_eq (show _ = γ 11 from rfl)).trans ?_
  refine (if_pos zQ1_).trans ?_
  refine (zLet_eq (show fn12 [] (γ 11) = (0, 1, γ 12) from l9.symm)).trans ?_
  refine (zLet_eq (show _ = γ 12 from rfl)).trans ?_
  refine (if_pos zQ1_).trans ?_
  refine (zLet_eq (show fn13 [105, 115, 0, 0, 0] (γ 12) = (0, 1, γ 13) from l10.symm)).trans ?_
  refine (zLet_eq (show _ = γ 13 from rfl)).trans ?_
  refine (if_pos zQ1_).trans ?_
  refine (zLet_eq (show fn18 [ρ 22] (γ 13) = (0, 0, γ 14) from l11.symm)).trans ?_
  refine (zLet_eq (show _ = γ 14 from rfl)).trans ?_
  refine (if_neg zQ0_).trans ?_
  refine (zLet_eq (show fn34 [1] (γ 14) = (0, 1, γ 15) from l12.symm)).trans ?_
  refine (zLet_eq (show _ = γ 15 from rfl)).trans ?_
  refine (if_pos zQ1_).trans ?_
  refine (zLet_eq (show fn7 [] (γ 15) = (0, 0, γ 16) from l13.symm)).trans ?_
  refine (zLet_eq (show _ = γ 16 from rfl)).trans ?_
  refine (zLet_eq m38).trans ?_
  refine (zLet_eq (show fn6 [ρ 36] (γ 16) = (0, (-1), γ 17) from l14.symm)).trans ?_
  refine (zLet_eq (show _ = γ 17 from rfl)).trans ?_
  refine (if_neg w_3).trans ?_
  refine (zLet_eq (show fn8 [ρ 36] (γ 17) = (0, 0, γ 18) from l15.symm)).trans ?_
  refine (zLet_eq (show _ = γ 18 from rfl)).trans ?_
  rfl
theorem vn37_16 {S : Nat → zSpc} (hS6 : ∀ x g o v gz, S 6 x g o v gz → sn6 x g o v gz) (hS7 : ∀ x g o v gz, S 7 x g o v gz → sn7 x g o v gz) (hS8 : ∀ x g o v gz, S 8 x g o v gz → sn8 x g o v gz) (hS9 : ∀ x g o v gz, S 9 x g o v gz → sn9 x g o v gz) (hS12 : ∀ x g o v gz, S 12 x g o v gz → sn12 x g o v gz) (hS13 : ∀ x g o v gz, S 13 x g o v gz → sn13 x g o v gz) (hS15 : ∀ x g o v gz, S 15 x g o v gz → sn15 x g o v gz) (hS18 : ∀ x g o v gz, S 18 x g o v gz → sn18 x g o v gz) (hS20 : ∀ x g o v gz, S 20 x g o v gz → sn20 x g o v gz) (hS23 : ∀ x g o v gz, S 23 x g o v gz → sn23 x g o v gz) (hS33 : ∀ x g o v gz, S 33 x g o v gz → sn33 x g o v gz) (hS34 : ∀ x g o v gz, S 34 x g o v gz → sn34 x g o v gz) (hS35 : ∀ x g o v gz, S 35 x g o v gz → sn35 x g o v gz) (hS36 : ∀ x g o v gz, S 36 x g o v gz → sn36 x g o v gz) {a : List Int} {g : rHp} : ∀ (ρ : Nat → Int) (γ : Nat → rHp), zO 16 S a g q37_16 ρ γ → zGl (fun _ _ _ => True) (sn37 a g) q37_16 ρ γ := by
  intro ρ γ h
  obtain ⟨ha, hg, hr, hf, hm, hc, hl⟩ := h
  have ha : a = [ρ 0, ρ 1, ρ 2, ρ 3, ρ 4, ρ 5, ρ 6, ρ 7, ρ 8, ρ 9, ρ 10, ρ 11, ρ 12, ρ 13, ρ 14, ρ 15] := ha
  subst ha
  subst hg
  obtain ⟨-, -, -, -, -, -, -, -, -, -, -, -, -, -, -, -, -, r17, -, -, -, -, -, r23, -⟩ := hr
  have r17 : ((-128) : Int) ≤ ρ 17 ∧ ρ 17 ≤ 127 := r17
  have r23 : (1 : Int) ≤ ρ 23 ∧ ρ 23 ≤ 1 := r23
  obtain ⟨-, -, f2, -, -, -, -, -, -, -, -, -, -, -, -, -, f16, -⟩ := hf
  have f2 : (0 : Int) ≤ -ρ 26 + ρ 2 + (-1) := f2
  have f16 : (0 : Int) ≤ -ρ 16 + ρ 2 + (-1) := f16
  obtain ⟨w_0, w_1, w_2⟩ : (0 ≤ -ρ 16 + ρ 2 + (-1)) ∧ (¬ (ρ 23 ≠ 1)) ∧ (0 ≤ -ρ 26 + ρ 2 + (-1)) := ⟨by omega, by omega, by omega⟩
  obtain ⟨-, m1, -, -, -, m5, m6, -, -, -, -, -, -, -, m14, m15, -, -, -, -, m20, m21, -, -, -, m25, -⟩ := hm
  have m1 : γ 0 15 0 34 = ρ 2 := m1
  have m5 : γ 0 15 0 44 = ρ 6 := m5
  have m6 : γ 0 73 0 (ρ 6) = ρ 7 := m6
  have m14 : γ 0 15 0 45 = ρ 15 := m14
  have m15 : γ 1 15 0 35 = ρ 16 := m15
  have m20 : γ 6 15 0 39 = ρ 22 := m20
  have m21 : γ 6 15 0 40 = ρ 23 := m21
  have m25 : γ 9 15 0 35 = ρ 26 := m25
  obtain ⟨⟨⟨⟨⟨⟨⟨⟨⟨⟨⟨⟨⟨-, c3⟩, -⟩, -⟩, -⟩, c7⟩, c8⟩, -⟩, -⟩, -⟩, -⟩, -⟩, -⟩, -⟩ := hc
  have c3 : γ 3 = rUp (γ 2) 79 0 (ρ 7 + 8 * ρ 6) (ρ 15) := c3
  have c7 : γ 7 = rUp (γ 6) 80 0 (4 * ρ 7 + 32 * ρ 6) (ρ 23) := c7
  have c8 : γ 8 = rUp (γ 7) 81 0 (4 * ρ 7 + 32 * ρ 6) (ρ 22) := c8
  obtain ⟨l0, l1, l2, l3, l4, l5, l6, l7, l8, l9, l10, l11, l12, -⟩ := hl
  have l0 : sn7 [ρ 1, ρ 2] (γ 0) 0 0 (γ 1) := hS7 _ _ _ _ _ l0
  have l1 : sn33 [ρ 6, ρ 7] (γ 1) 0 (ρ 7 + 8 * ρ 6) (γ 2) := hS33 _ _ _ _ _ l1
  have l2 : sn6 [ρ 16, ρ 2] (γ 3) 0 (ρ 17) (γ 4) := hS6 _ _ _ _ _ l2
  have l3 : ρ 17 ≠ 33 := l3
  have l4 : sn9 [ρ 17] (γ 4) 0 0 (γ 5) := hS9 _ _ _ _ _ l4
  have l5 : sn20 [0, ρ 16, ρ 2, ρ 3, ρ 4, ρ 18, ρ 14, ρ 11, ρ 12, ρ 13, ρ 6] (γ 5) 0 1 (γ 6) := hS20 _ _ _ _ _ l5
  have l6 : sn7 [ρ 19, ρ 2] (γ 8) 0 0 (γ 9) := hS7 _ _ _ _ _ l6
  have l7 : sn6 [ρ 26, ρ 2] (γ 9) 0 (ρ 27) (γ 10) := hS6 _ _ _ _ _ l7
  have l8 : sn9 [ρ 27] (γ 10) 0 1 (γ 11) := hS9 _ _ _ _ _ l8
  have l9 : sn12 [ρ 26, ρ 2, ρ 24, ρ 11, ρ 25] (γ 11) 0 1 (γ 12) := hS12 _ _ _ _ _ l9
  have l10 : sn13 [105, 115, 0, 0, 0, ρ 26, ρ 29] (γ 12) 0 1 (γ 13) := hS13 _ _ _ _ _ l10
  have l11 : sn18 [ρ 22, ρ 15] (γ 13) 0 1 (γ 14) := hS18 _ _ _ _ _ l11
  have l12 : sn8 [ρ 16, ρ 2, ρ 11] (γ 14) 0 0 (γ 15) := hS8 _ _ _ _ _ l12
  have wl_0 : ρ 17 ≠ 33 := by omega
  show sn37 [ρ 0, ρ 1, ρ 2, ρ 3, ρ 4, ρ 5, ρ 6, ρ 7, ρ 8, ρ 9, ρ 10, ρ 11, ρ 12, ρ 13, ρ 14, ρ 15] (γ 0) 0 0 (γ 15)
  refine Eq.symm ?_
  show fn37 [ρ 0] (γ 0) = _
  unfold fn37
  refine (zLet_eq (show _ = ρ 0 from rfl)).trans ?_
  refine (zLet_eq m1).trans ?_
  refine (zLet_eq m5).trans ?_
  refine (zLet_eq m6).trans ?_
  refine (zLet_eq m14).trans ?_
  refine (zLet_eq (show fn7 [] (γ 0) = (0, 0, γ 1) from l0.symm)).trans ?_
  refine (zLet_eq (show _ = γ 1 from rfl)).trans ?_
  refine (zLet_eq m15).trans ?_
  refine (zLet_eq (show fn33 [] (γ 1) = (0, ρ 7 + 8 * ρ 6, γ 2) from l1.symm)).trans ?_
  refine (zLet_eq (show _ = γ 2 from rfl)).trans ?_
  refine (zLet_eq c3.symm).trans ?_
  refine (zLet_eq (show fn6 [ρ 16] (γ 3) = (0, ρ 17, γ 4) from l2.symm)).trans ?_
  refine (zLet_eq (show _ = γ 4 from rfl)).trans ?_
  refine (if_pos w_0).trans ?_
  refine (zLet_eq (show _ = ρ 17 from rfl)).trans ?_
  refine (if_pos wl_0).trans ?_
  refine (zLet_eq (show fn9 [ρ 17] (γ 4) = (0, 0, γ 5) from l4.symm)).trans ?_
  refine (zLet_eq (show _ = γ 5 from rfl)).trans ?_
  refine (if_neg zQ0_).trans ?_
  refine (zLet_eq (show fn20 [0] (γ 5) = (0, 1, γ 6) from l5.symm)).trans ?_
  refine (zLet_eq (show _ = γ 6 from rfl)).trans ?_
  refine (if_pos zQ1_).trans ?_
  refine (zLet_eq m20).trans ?_
  refine (zLet_eq m21).trans ?_
  refine (zLet_eq c7.symm).trans ?_
  refine (zLet_eq c8.symm).trans ?_
  refine (zLet_eq (show fn7 [] (γ 8) = (0, 0, γ 9) from l6.symm)).trans ?_
  refine (zLet_eq (show _ = γ 9 from rfl)).trans ?_
  refine (zLet_eq m25).trans ?_
  refine (if_neg w_1).trans ?_
  refine (zLet_eq (show fn6 [ρ 26] (γ 9) = (0, ρ 27, γ 10) from l7.symm)).trans ?_
  refine (zLet_eq (show _ = γ 10 from rfl)).trans ?_
  refine (if_pos w_2).trans ?_
  refine (zLet_eq (show _ = ρ 27 from rfl)).trans ?_
  refine (zLet_eq (show fn9 [ρ 27] (γ 10) = (0, 1, γ 11) from l8.symm)).trans ?_
  refine (zLet_eq (show _ = γ 11 from rfl)).trans ?_
  refine (if_pos zQ1_).trans ?_
  refine (zLet_eq (show fn12 [] (γ 11) = (0, 1, γ 12) from l9.symm)).trans ?_
  refine (zLet_eq (show _ = γ 12 from rfl)).trans ?_
  refine (if_pos zQ1_).trans ?_
  refine (zLet_eq (show fn13 [105, 115, 0, 0, 0] (γ 12) = (0, 1, γ 13) from l10.symm)).trans ?_
  refine (zLet_eq (show _ = γ 13 from rfl)).trans ?_
  refine (if_pos zQ1_).trans ?_
  refine (zLet_eq (show fn18 [ρ 22] (γ 13) = (0, 1, γ 14) from l11.symm)).trans ?_
  refine (zLet_eq (show _ = γ 14 from rfl)).trans ?_
  refine (if_pos zQ1_).trans ?_
  refine (zLet_eq (show fn8 [ρ 16] (γ 14) = (0, 0, γ 15) from l12.symm)).trans ?_
  refine (zLet_eq (show _ = γ 15 from rfl)).trans ?_
  rfl
theorem vn37_17 {S : Nat → zSpc} (hS6 : ∀ x g o v gz, S 6 x g o v gz → sn6 x g o v gz) (hS7 : ∀ x g o v gz, S 7 x g o v gz → sn7 x g o v gz) (hS8 : ∀ x g o v gz, S 8 x g o v gz → sn8 x g o v gz) (hS9 : ∀ x g o v gz, S 9 x g o v gz → sn9 x g o v gz) (hS12 : ∀ x g o v gz, S 12 x g o v gz → sn12 x g o v gz) (hS13 : ∀ x g o v gz, S 13 x g o v gz → sn13 x g o v gz) (hS15 : ∀ x g o v gz, S 15 x g o v gz → sn15 x g o v gz) (hS18 : ∀ x g o v gz, S 18 x g o v gz → sn18 x g o v gz) (hS20 : ∀ x g o v gz, S 20 x g o v gz → sn20 x g o v gz) (hS23 : ∀ x g o v gz, S 23 x g o v gz → sn23 x g o v gz) (hS33 : ∀ x g o v gz, S 33 x g o v gz → sn33 x g o v gz) (hS34 : ∀ x g o v gz, S 34 x g o v gz → sn34 x g o v gz) (hS35 : ∀ x g o v gz, S 35 x g o v gz → sn35 x g o v gz) (hS36 : ∀ x g o v gz, S 36 x g o v gz → sn36 x g o v gz) {a : List Int} {g : rHp} : ∀ (ρ : Nat → Int) (γ : Nat → rHp), zO 16 S a g q37_17 ρ γ → zGl (fun _ _ _ => True) (sn37 a g) q37_17 ρ γ := by
  intro ρ γ h
  obtain ⟨ha, hg, hr, hf, hm, hc, hl⟩ := h
  have ha : a = [ρ 0, ρ 1, ρ 2, ρ 3, ρ 4, ρ 5, ρ 6, ρ 7, ρ 8, ρ 9, ρ 10, ρ 11, ρ 12, ρ 13, ρ 14, ρ 15] := ha
  subst ha
  subst hg
  obtain ⟨-, -, -, -, -, -, -, -, -, -, -, -, -, -, -, -, -, r17, -, -, -, -, -, r23, -⟩ := hr
  have r17 : ((-128) : Int) ≤ ρ 17 ∧ ρ 17 ≤ 127 := r17
  have r23 : (1 : Int) ≤ ρ 23 ∧ ρ 23 ≤ 1 := r23
  obtain ⟨-, -, -, -, -, -, -, -, -, -, f10, -, -, -, -, -, -, -, -, f19, -⟩ := hf
  have f10 : (0 : Int) ≤ ρ 26 + -ρ 2 := f10
  have f19 : (0 : Int) ≤ -ρ 16 + ρ 2 + (-1) := f19
  obtain ⟨w_0, w_1, w_2⟩ : (0 ≤ -ρ 16 + ρ 2 + (-1)) ∧ (¬ (ρ 23 ≠ 1)) ∧ (¬ (0 ≤ -ρ 26 + ρ 2 + (-1))) := ⟨by omega, by omega, by omega⟩
  obtain ⟨-, m1, -, -, -, m5, m6, -, -, -, -, -, -, -, m14, m15, -, -, -, -, m20, m21, -, -, -, m25, -⟩ := hm
  have m1 : γ 0 15 0 34 = ρ 2 := m1
  have m5 : γ 0 15 0 44 = ρ 6 := m5
  have m6 : γ 0 73 0 (ρ 6) = ρ 7 := m6
  have m14 : γ 0 15 0 45 = ρ 15 := m14
  have m15 : γ 1 15 0 35 = ρ 16 := m15
  have m20 : γ 6 15 0 39 = ρ 22 := m20
  have m21 : γ 6 15 0 40 = ρ 23 := m21
  have m25 : γ 9 15 0 35 = ρ 26 := m25
  obtain ⟨⟨⟨⟨⟨⟨⟨⟨⟨⟨-, c3⟩, -⟩, -⟩, -⟩, c7⟩, c8⟩, -⟩, -⟩, -⟩, -⟩ := hc
  have c3 : γ 3 = rUp (γ 2) 79 0 (ρ 7 + 8 * ρ 6) (ρ 15) := c3
  have c7 : γ 7 = rUp (γ 6) 80 0 (4 * ρ 7 + 32 * ρ 6) (ρ 23) := c7
  have c8 : γ 8 = rUp (γ 7) 81 0 (4 * ρ 7 + 32 * ρ 6) (ρ 22) := c8
  obtain ⟨l0, l1, l2, l3, l4, l5, l6, l7, l8, l9, -⟩ := hl
  have l0 : sn7 [ρ 1, ρ 2] (γ 0) 0 0 (γ 1) := hS7 _ _ _ _ _ l0
  have l1 : sn33 [ρ 6, ρ 7] (γ 1) 0 (ρ 7 + 8 * ρ 6) (γ 2) := hS33 _ _ _ _ _ l1
  have l2 : sn6 [ρ 16, ρ 2] (γ 3) 0 (ρ 17) (γ 4) := hS6 _ _ _ _ _ l2
  have l3 : ρ 17 ≠ 33 := l3
  have l4 : sn9 [ρ 17] (γ 4) 0 0 (γ 5) := hS9 _ _ _ _ _ l4
  have l5 : sn20 [0, ρ 16, ρ 2, ρ 3, ρ 4, ρ 18, ρ 14, ρ 11, ρ 12, ρ 13, ρ 6] (γ 5) 0 1 (γ 6) := hS20 _ _ _ _ _ l5
  have l6 : sn7 [ρ 19, ρ 2] (γ 8) 0 0 (γ 9) := hS7 _ _ _ _ _ l6
  have l7 : sn6 [ρ 26, ρ 2] (γ 9) 0 (-1) (γ 10) := hS6 _ _ _ _ _ l7
  have l8 : sn9 [(-1)] (γ 10) 0 0 (γ 11) := hS9 _ _ _ _ _ l8
  have l9 : sn35 [ρ 16, ρ 26, ρ 2, ρ 20, ρ 21, ρ 6, ρ 7, ρ 8, ρ 22, ρ 11, ρ 24, ρ 25, ρ 23, ρ 15] (γ 11) 0 0 (γ 12) := hS35 _ _ _ _ _ l9
  have wl_0 : ρ 17 ≠ 33 := by omega
  show sn37 [ρ 0, ρ 1, ρ 2, ρ 3, ρ 4, ρ 5, ρ 6, ρ 7, ρ 8, ρ 9, ρ 10, ρ 11, ρ 12, ρ 13, ρ 14, ρ 15] (γ 0) 0 0 (γ 12)
  refine Eq.symm ?_
  show fn37 [ρ 0] (γ 0) = _
  unfold fn37
  refine (zLet_eq (show _ = ρ 0 from rfl)).trans ?_
  refine (zLet_eq m1).trans ?_
  refine (zLet_eq m5).trans ?_
  refine (zLet_eq m6).trans ?_
  refine (zLet_eq m14).trans ?_
  refine (zLet_eq (show fn7 [] (γ 0) = (0, 0, γ 1) from l0.symm)).trans ?_
  refine (zLet_eq (show _ = γ 1 from rfl)).trans ?_
  refine (zLet_eq m15).trans ?_
  refine (zLet_eq (show fn33 [] (γ 1) = (0, ρ 7 + 8 * ρ 6, γ 2) from l1.symm)).trans ?_
  refine (zLet_eq (show _ = γ 2 from rfl)).trans ?_
  refine (zLet_eq c3.symm).trans ?_
  refine (zLet_eq (show fn6 [ρ 16] (γ 3) = (0, ρ 17, γ 4) from l2.symm)).trans ?_
  refine (zLet_eq (show _ = γ 4 from rfl)).trans ?_
  refine (if_pos w_0).trans ?_
  refine (zLet_eq (show _ = ρ 17 from rfl)).trans ?_
  refine (if_pos wl_0).trans ?_
  refine (zLet_eq (show fn9 [ρ 17] (γ 4) = (0, 0, γ 5) from l4.symm)).trans ?_
  refine (zLet_eq (show _ = γ 5 from rfl)).trans ?_
  refine (if_neg zQ0_).trans ?_
  refine (zLet_eq (show fn20 [0] (γ 5) = (0, 1, γ 6) from l5.symm)).trans ?_
  refine (zLet_eq (show _ = γ 6 from rfl)).trans ?_
  refine (if_pos zQ1_).trans ?_
  refine (zLet_eq m20).trans ?_
  refine (zLet_eq m21).trans ?_
  refine (zLet_eq c7.symm).trans ?_
  refine (zLet_eq c8.symm).trans ?_
  refine (zLet_eq (show fn7 [] (γ 8) = (0, 0, γ 9) from l6.symm)).trans ?_
  refine (zLet_eq (show _ = γ 9 from rfl)).trans ?_
  refine (zLet_eq m25).trans ?_
  refine (if_neg w_1).trans ?_
  refine (zLet_eq (show fn6 [ρ 26] (γ 9) = (0, (-1), γ 10) from l7.symm)).trans ?_
  refine (zLet_eq (show _ = γ 10 from rfl)).trans ?_
  refine (if_neg w_2).trans ?_
  refine (zLet_eq (show fn9 [(-1)] (γ 10) = (0, 0, γ 11) from l8.symm)).trans ?_
  refine (zLet_eq (show _ = γ 11 from rfl)).trans ?_
  refine (zLet_eq (show fn35 [ρ 16] (γ 11) = (0, 0, γ 12) from l9.symm)).trans ?_
  refine (zLet_eq (show _ = γ 12 from rfl)).trans ?_
  rfl
theorem vn37_18 {S : Nat → zSpc} (hS6 : ∀ x g o v gz, S 6 x g o v gz → sn6 x g o v gz) (hS7 : ∀ x g o v gz, S 7 x g o v gz → sn7 x g o v gz) (hS8 : ∀ x g o v gz, S 8 x g o v gz → sn8 x g o v gz) (hS9 : ∀ x g o v gz, S 9 x g o v gz → sn9 x g o v gz) (hS12 : ∀ x g o v gz, S 12 x g o v gz → sn12 x g o v gz) (hS13 : ∀ x g o v gz, S 13 x g o v gz → sn13 x g o v gz) (hS15 : ∀ x g o v gz, S 15 x g o v gz → sn15 x g o v gz) (hS18 : ∀ x g o v gz, S 18 x g o v gz → sn18 x g o v gz) (hS20 : ∀ x g o v gz, S 20 x g o v gz → sn20 x g o v gz) (hS23 : ∀ x g o v gz, S 23 x g o v gz → sn23 x g o v gz) (hS33 : ∀ x g o v gz, S 33 x g o v gz → sn33 x g o v gz) (hS34 : ∀ x g o v gz, S 34 x g o v gz → sn34 x g o v gz) (hS35 : ∀ x g o v gz, S 35 x g o v gz → sn35 x g o v gz) (hS36 : ∀ x g o v gz, S 36 x g o v gz → sn36 x g o v gz) {a : List Int} {g : rHp} : ∀ (ρ : Nat → Int) (γ : Nat → rHp), zO 16 S a g q37_18 ρ γ → zGl (fun _ _ _ => True) (sn37 a g) q37_18 ρ γ := by
  intro ρ γ h
  obtain ⟨ha, hg, hr, hf, hm, hc, hl⟩ := h
  have ha : a = [ρ 0, ρ 1, ρ 2, ρ 3, ρ 4, ρ 5, ρ 6, ρ 7, ρ 8, ρ 9, ρ 10, ρ 11, ρ 12, ρ 13, ρ 14, ρ 15] := ha
  subst ha
  subst hg
  obtain ⟨-, -, -, -, -, -, -, -, -, -, -, -, -, -, -, -, -, r17, -⟩ := hr
  have r17 : (97 : Int) ≤ ρ 17 ∧ ρ 17 ≤ 122 := r17
  obtain ⟨f0, -⟩ := hf
  have f0 : (0 : Int) ≤ -ρ 16 + ρ 2 + (-1) := f0
  obtain ⟨w_0, w_1⟩ : (0 ≤ -ρ 16 + ρ 2 + (-1)) ∧ (ρ 17 ≠ 33) := ⟨by omega, by omega⟩
  obtain ⟨-, m1, -, -, -, m5, m6, -, -, -, -, -, -, -, m14, m15, -⟩ := hm
  have m1 : γ 0 15 0 34 = ρ 2 := m1
  have m5 : γ 0 15 0 44 = ρ 6 := m5
  have m6 : γ 0 73 0 (ρ 6) = ρ 7 := m6
  have m14 : γ 0 15 0 45 = ρ 15 := m14
  have m15 : γ 1 15 0 35 = ρ 16 := m15
  obtain ⟨⟨⟨⟨-, c3⟩, -⟩, -⟩, -⟩ := hc
  have c3 : γ 3 = rUp (γ 2) 79 0 (ρ 7 + 8 * ρ 6) (ρ 15) := c3
  obtain ⟨l0, l1, l2, l3, l4, l5, -⟩ := hl
  have l0 : sn7 [ρ 1, ρ 2] (γ 0) 0 0 (γ 1) := hS7 _ _ _ _ _ l0
  have l1 : sn33 [ρ 6, ρ 7] (γ 1) 0 (ρ 7 + 8 * ρ 6) (γ 2) := hS33 _ _ _ _ _ l1
  have l2 : sn6 [ρ 16, ρ 2] (γ 3) 0 (ρ 17) (γ 4) := hS6 _ _ _ _ _ l2
  have l3 : ρ 17 ≠ 33 := l3
  have l4 : sn9 [ρ 17] (γ 4) 0 1 (γ 5) := hS9 _ _ _ _ _ l4
  have l5 : sn12 [ρ 16, ρ 2, ρ 12, ρ 11, ρ 13] (γ 5) 0 0 (γ 6) := hS12 _ _ _ _ _ l5
  show sn37 [ρ 0, ρ 1, ρ 2, ρ 3, ρ 4, ρ 5, ρ 6, ρ 7, ρ 8, ρ 9, ρ 10, ρ 11, ρ 12, ρ 13, ρ 14, ρ 15] (γ 0) 0 0 (γ 6)
  refine Eq.symm ?_
  show fn37 [ρ 0] (γ 0) = _
  unfold fn37
  refine (zLet_eq (show _ = ρ 0 from rfl)).trans ?_
  refine (zLet_eq m1).trans ?_
  refine (zLet_eq m5).trans ?_
  refine (zLet_eq m6).trans ?_
  refine (zLet_eq m14).trans ?_
  refine (zLet_eq (show fn7 [] (γ 0) = (0, 0, γ 1) from l0.symm)).trans ?_
  refine (zLet_eq (show _ = γ 1 from rfl)).trans ?_
  refine (zLet_eq m15).trans ?_
  refine (zLet_eq (show fn33 [] (γ 1) = (0, ρ 7 + 8 * ρ 6, γ 2) from l1.symm)).trans ?_
  refine (zLet_eq (show _ = γ 2 from rfl)).trans ?_
  refine (zLet_eq c3.symm).trans ?_
  refine (zLet_eq (show fn6 [ρ 16] (γ 3) = (0, ρ 17, γ 4) from l2.symm)).trans ?_
  refine (zLet_eq (show _ = γ 4 from rfl)).trans ?_
  refine (if_pos w_0).trans ?_
  refine (zLet_eq (show _ = ρ 17 from rfl)).trans ?_
  refine (if_pos w_1).trans ?_
  refine (zLet_eq (show fn9 [ρ 17] (γ 4) = (0, 1, γ 5) from l4.symm)).trans ?_
  refine (zLet_eq (show _ = γ 5 from rfl)).trans ?_
  refine (if_pos zQ1_).trans ?_
  refine (zLet_eq (show fn12 [] (γ 5) = (0, 0, γ 6) from l5.symm)).trans ?_
  refine (zLet_eq (show _ = γ 6 from rfl)).trans ?_
  refine (if_neg zQ0_).trans ?_
  rfl
theorem vn37_19 {S : Nat → zSpc} (hS6 : ∀ x g o v gz, S 6 x g o v gz → sn6 x g o v gz) (hS7 : ∀ x g o v gz, S 7 x g o v gz → sn7 x g o v gz) (hS8 : ∀ x g o v gz, S 8 x g o v gz → sn8 x g o v gz) (hS9 : ∀ x g o v gz, S 9 x g o v gz → sn9 x g o v gz) (hS12 : ∀ x g o v gz, S 12 x g o v gz → sn12 x g o v gz) (hS13 : ∀ x g o v gz, S 13 x g o v gz → sn13 x g o v gz) (hS15 : ∀ x g o v gz, S 15 x g o v gz → sn15 x g o v gz) (hS18 : ∀ x g o v gz, S 18 x g o v gz → sn18 x g o v gz) (hS20 : ∀ x g o v gz, S 20 x g o v gz → sn20 x g o v gz) (hS23 : ∀ x g o v gz, S 23 x g o v gz → sn23 x g o v gz) (hS33 : ∀ x g o v gz, S 33 x g o v gz → sn33 x g o v gz) (hS34 : ∀ x g o v gz, S 34 x g o v gz → sn34 x g o v gz) (hS35 : ∀ x g o v gz, S 35 x g o v gz → sn35 x g o v gz) (hS36 : ∀ x g o v gz, S 36 x g o v gz → sn36 x g o v gz) {a : List Int} {g : rHp} : ∀ (ρ : Nat → Int) (γ : Nat → rHp), zO 16 S a g q37_19 ρ γ → zGl (fun _ _ _ => True) (sn37 a g) q37_19 ρ γ := by
  intro ρ γ h
  obtain ⟨ha, hg, hr, hf, hm, hc, hl⟩ := h
  have ha : a = [ρ 0, ρ 1, ρ 2, ρ 3, ρ 4, ρ 5, ρ 6, ρ 7, ρ 8, ρ 9, ρ 10, ρ 11, ρ 12, ρ 13, ρ 14, ρ 15] := ha
  subst ha
  subst hg
  obtain ⟨-, -, -, -, -, -, -, -, -, -, -, -, -, -, -, -, -, r17, -, -, -, r21, -⟩ := hr
  have r17 : (97 : Int) ≤ ρ 17 ∧ ρ 17 ≤ 122 := r17
  have r21 : ((-128) : Int) ≤ ρ 21 ∧ ρ 21 ≤ 127 := r21
  obtain ⟨-, -, -, -, -, -, -, -, -, -, -, -, -, -, -, -, -, -, -, f19, -, -, f22, -⟩ := hf
  have f19 : (0 : Int) ≤ -ρ 20 + ρ 2 + (-1) := f19
  have f22 : (0 : Int) ≤ -ρ 16 + ρ 2 + (-1) := f22
  obtain ⟨w_0, w_1, w_2⟩ : (0 ≤ -ρ 16 + ρ 2 + (-1)) ∧ (ρ 17 ≠ 33) ∧ (0 ≤ -ρ 20 + ρ 2 + (-1)) := ⟨by omega, by omega, by omega⟩
  obtain ⟨-, m1, -, -, -, m5, m6, -, -, -, -, -, -, -, m14, m15, -, -, -, -, m20, -⟩ := hm
  have m1 : γ 0 15 0 34 = ρ 2 := m1
  have m5 : γ 0 15 0 44 = ρ 6 := m5
  have m6 : γ 0 73 0 (ρ 6) = ρ 7 := m6
  have m14 : γ 0 15 0 45 = ρ 15 := m14
  have m15 : γ 1 15 0 35 = ρ 16 := m15
  have m20 : γ 7 15 0 35 = ρ 20 := m20
  obtain ⟨⟨⟨⟨⟨⟨⟨⟨⟨⟨⟨⟨⟨-, c3⟩, -⟩, -⟩, -⟩, -⟩, -⟩, -⟩, c10⟩, c11⟩, c12⟩, c13⟩, -⟩, -⟩ := hc
  have c3 : γ 3 = rUp (γ 2) 79 0 (ρ 7 + 8 * ρ 6) (ρ 15) := c3
  have c10 : γ 10 = rUp (γ 9) 15 0 39 (ρ 22) := c10
  have c11 : γ 11 = rUp (γ 10) 15 0 40 0 := c11
  have c12 : γ 12 = rUp (γ 11) 80 0 (4 * ρ 7 + 32 * ρ 6) 0 := c12
  have c13 : γ 13 = rUp (γ 12) 81 0 (4 * ρ 7 + 32 * ρ 6) (ρ 22) := c13
  obtain ⟨l0, l1, l2, l3, l4, l5, l6, l7, l8, l9, l10, l11, -⟩ := hl
  have l0 : sn7 [ρ 1, ρ 2] (γ 0) 0 0 (γ 1) := hS7 _ _ _ _ _ l0
  have l1 : sn33 [ρ 6, ρ 7] (γ 1) 0 (ρ 7 + 8 * ρ 6) (γ 2) := hS33 _ _ _ _ _ l1
  have l2 : sn6 [ρ 16, ρ 2] (γ 3) 0 (ρ 17) (γ 4) := hS6 _ _ _ _ _ l2
  have l3 : ρ 17 ≠ 33 := l3
  have l4 : sn9 [ρ 17] (γ 4) 0 1 (γ 5) := hS9 _ _ _ _ _ l4
  have l5 : sn12 [ρ 16, ρ 2, ρ 12, ρ 11, ρ 13] (γ 5) 0 1 (γ 6) := hS12 _ _ _ _ _ l5
  have l6 : sn7 [ρ 18, ρ 2] (γ 6) 0 0 (γ 7) := hS7 _ _ _ _ _ l6
  have l7 : sn6 [ρ 20, ρ 2] (γ 7) 0 (ρ 21) (γ 8) := hS6 _ _ _ _ _ l7
  have l8 : ρ 21 ≠ 40 := l8
  have l9 : sn15 [ρ 2, ρ 3, ρ 4, ρ 16, ρ 19] (γ 8) 0 (ρ 22) (γ 9) := hS15 _ _ _ _ _ l9
  have l10 : sn7 [ρ 20, ρ 2] (γ 13) 0 0 (γ 14) := hS7 _ _ _ _ _ l10
  have l11 : sn35 [ρ 16, ρ 25, ρ 2, ρ 23, ρ 24, ρ 6, ρ 7, ρ 8, ρ 22, ρ 11, ρ 16, ρ 19, 0, ρ 15] (γ 14) 0 0 (γ 15) := hS35 _ _ _ _ _ l11
  have wl_0 : ρ 21 ≠ 40 := by omega
  show sn37 [ρ 0, ρ 1, ρ 2, ρ 3, ρ 4, ρ 5, ρ 6, ρ 7, ρ 8, ρ 9, ρ 10, ρ 11, ρ 12, ρ 13, ρ 14, ρ 15] (γ 0) 0 0 (γ 15)
  refine Eq.symm ?_
  show fn37 [ρ 0] (γ 0) = _
  unfold fn37
  refine (zLet_eq (show _ = ρ 0 from rfl)).trans ?_
  refine (zLet_eq m1).trans ?_
  refine (zLet_eq m5).trans ?_
  refine (zLet_eq m6).trans ?_
  refine (zLet_eq m14).trans ?_
  refine (zLet_eq (show fn7 [] (γ 0) = (0, 0, γ 1) from l0.symm)).trans ?_
  refine (zLet_eq (show _ = γ 1 from rfl)).trans ?_
  refine (zLet_eq m15).trans ?_
  refine (zLet_eq (show fn33 [] (γ 1) = (0, ρ 7 + 8 * ρ 6, γ 2) from l1.symm)).trans ?_
  refine (zLet_eq (show _ = γ 2 from rfl)).trans ?_
  refine (zLet_eq c3.symm).trans ?_
  refine (zLet_eq (show fn6 [ρ 16] (γ 3) = (0, ρ 17, γ 4) from l2.symm)).trans ?_
  refine (zLet_eq (show _ = γ 4 from rfl)).trans ?_
  refine (if_pos w_0).trans ?_
  refine (zLet_eq (show _ = ρ 17 from rfl)).trans ?_
  refine (if_pos w_1).trans ?_
  refine (zLet_eq (show fn9 [ρ 17] (γ 4) = (0, 1, γ 5) from l4.symm)).trans ?_
  refine (zLet_eq (show _ = γ 5 from rfl)).trans ?_
  refine (if_pos zQ1_).trans ?_
  refine (zLet_eq (show fn12 [] (γ 5) = (0, 1, γ 6) from l5.symm)).trans ?_
  refine (zLet_eq (show _ = γ 6 from rfl)).trans ?_
  refine (if_pos zQ1_).trans ?_
  refine (zLet_eq (show fn7 [] (γ 6) = (0, 0, γ 7) from l6.symm)).trans ?_
  refine (zLet_eq (show _ = γ 7 from rfl)).trans ?_
  refine (zLet_eq m20).trans ?_
  refine (zLet_eq (show fn6 [ρ 20] (γ 7) = (0, ρ 21, γ 8) from l7.symm)).trans ?_
  refine (zLet_eq (show _ = γ 8 from rfl)).trans ?_
  refine (if_pos w_2).trans ?_
  refine (zLet_eq (show _ = ρ 21 from rfl)).trans ?_
  refine (if_pos wl_0).trans ?_
  refine (zLet_eq (show fn15 [] (γ 8) = (0, ρ 22, γ 9) from l9.symm)).trans ?_
  refine (zLet_eq (show _ = γ 9 from rfl)).trans ?_
  refine (zLet_eq (show _ = ρ 22 from rfl)).trans ?_
  refine (zLet_eq c10.symm).trans ?_
  refine (zLet_eq c11.symm).trans ?_
  refine (zLet_eq c12.symm).trans ?_
  refine (zLet_eq c13.symm).trans ?_
  refine (zLet_eq (show fn7 [] (γ 13) = (0, 0, γ 14) from l10.symm)).trans ?_
  refine (zLet_eq (show _ = γ 14 from rfl)).trans ?_
  refine (zLet_eq (show fn35 [ρ 16] (γ 14) = (0, 0, γ 15) from l11.symm)).trans ?_
  refine (zLet_eq (show _ = γ 15 from rfl)).trans ?_
  refine (if_neg zQ0_).trans ?_
  rfl
theorem vn37_20 {S : Nat → zSpc} (hS6 : ∀ x g o v gz, S 6 x g o v gz → sn6 x g o v gz) (hS7 : ∀ x g o v gz, S 7 x g o v gz → sn7 x g o v gz) (hS8 : ∀ x g o v gz, S 8 x g o v gz → sn8 x g o v gz) (hS9 : ∀ x g o v gz, S 9 x g o v gz → sn9 x g o v gz) (hS12 : ∀ x g o v gz, S 12 x g o v gz → sn12 x g o v gz) (hS13 : ∀ x g o v gz, S 13 x g o v gz → sn13 x g o v gz) (hS15 : ∀ x g o v gz, S 15 x g o v gz → sn15 x g o v gz) (hS18 : ∀ x g o v gz, S 18 x g o v gz → sn18 x g o v gz) (hS20 : ∀ x g o v gz, S 20 x g o v gz → sn20 x g o v gz) (hS23 : ∀ x g o v gz, S 23 x g o v gz → sn23 x g o v gz) (hS33 : ∀ x g o v gz, S 33 x g o v gz → sn33 x g o v gz) (hS34 : ∀ x g o v gz, S 34 x g o v gz → sn34 x g o v gz) (hS35 : ∀ x g o v gz, S 35 x g o v gz → sn35 x g o v gz) (hS36 : ∀ x g o v gz, S 36 x g o v gz → sn36 x g o v gz) {a : List Int} {g : rHp} : ∀ (ρ : Nat → Int) (γ : Nat → rHp), zO 16 S a g q37_20 ρ γ → zGl (fun _ _ _ => True) (sn37 a g) q37_20 ρ γ := by
  intro ρ γ h
  obtain ⟨ha, hg, hr, hf, hm, hc, hl⟩ := h
  have ha : a = [ρ 0, ρ 1, ρ 2, ρ 3, ρ 4, ρ 5, ρ 6, ρ 7, ρ 8, ρ 9, ρ 10, ρ 11, ρ 12, ρ 13, ρ 14, ρ 15] := ha
  subst ha
  subst hg
  obtain ⟨-, -, -, -, -, -, -, -, -, -, -, -, -, -, -, -, -, r17, -, -, -, r21, -⟩ := hr
  have r17 : (97 : Int) ≤ ρ 17 ∧ ρ 17 ≤ 122 := r17
  have r21 : ((-128) : Int) ≤ ρ 21 ∧ ρ 21 ≤ 127 := r21
  obtain ⟨-, -, -, -, -, -, -, -, -, -, -, -, -, -, -, -, -, -, -, -, f20, -, -, f23, -⟩ := hf
  have f20 : (0 : Int) ≤ -ρ 20 + ρ 2 + (-1) := f20
  have f23 : (0 : Int) ≤ -ρ 16 + ρ 2 + (-1) := f23
  obtain ⟨w_0, w_1, w_2⟩ : (0 ≤ -ρ 16 + ρ 2 + (-1)) ∧ (ρ 17 ≠ 33) ∧ (0 ≤ -ρ 20 + ρ 2 + (-1)) := ⟨by omega, by omega, by omega⟩
  obtain ⟨-, m1, -, -, -, m5, m6, -, -, -, -, -, -, -, m14, m15, -, -, -, -, m20, -⟩ := hm
  have m1 : γ 0 15 0 34 = ρ 2 := m1
  have m5 : γ 0 15 0 44 = ρ 6 := m5
  have m6 : γ 0 73 0 (ρ 6) = ρ 7 := m6
  have m14 : γ 0 15 0 45 = ρ 15 := m14
  have m15 : γ 1 15 0 35 = ρ 16 := m15
  have m20 : γ 7 15 0 35 = ρ 20 := m20
  obtain ⟨⟨⟨⟨⟨⟨⟨⟨⟨⟨⟨⟨⟨-, c3⟩, -⟩, -⟩, -⟩, -⟩, -⟩, -⟩, c10⟩, c11⟩, c12⟩, c13⟩, -⟩, -⟩ := hc
  have c3 : γ 3 = rUp (γ 2) 79 0 (ρ 7 + 8 * ρ 6) (ρ 15) := c3
  have c10 : γ 10 = rUp (γ 9) 15 0 39 (ρ 22) := c10
  have c11 : γ 11 = rUp (γ 10) 15 0 40 0 := c11
  have c12 : γ 12 = rUp (γ 11) 80 0 (4 * ρ 7 + 32 * ρ 6) 0 := c12
  have c13 : γ 13 = rUp (γ 12) 81 0 (4 * ρ 7 + 32 * ρ 6) (ρ 22) := c13
  obtain ⟨l0, l1, l2, l3, l4, l5, l6, l7, l8, l9, l10, l11, -⟩ := hl
  have l0 : sn7 [ρ 1, ρ 2] (γ 0) 0 0 (γ 1) := hS7 _ _ _ _ _ l0
  have l1 : sn33 [ρ 6, ρ 7] (γ 1) 0 (ρ 7 + 8 * ρ 6) (γ 2) := hS33 _ _ _ _ _ l1
  have l2 : sn6 [ρ 16, ρ 2] (γ 3) 0 (ρ 17) (γ 4) := hS6 _ _ _ _ _ l2
  have l3 : ρ 17 ≠ 33 := l3
  have l4 : sn9 [ρ 17] (γ 4) 0 1 (γ 5) := hS9 _ _ _ _ _ l4
  have l5 : sn12 [ρ 16, ρ 2, ρ 12, ρ 11, ρ 13] (γ 5) 0 1 (γ 6) := hS12 _ _ _ _ _ l5
  have l6 : sn7 [ρ 18, ρ 2] (γ 6) 0 0 (γ 7) := hS7 _ _ _ _ _ l6
  have l7 : sn6 [ρ 20, ρ 2] (γ 7) 0 (ρ 21) (γ 8) := hS6 _ _ _ _ _ l7
  have l8 : ρ 21 ≠ 40 := l8
  have l9 : sn15 [ρ 2, ρ 3, ρ 4, ρ 16, ρ 19] (γ 8) 0 (ρ 22) (γ 9) := hS15 _ _ _ _ _ l9
  have l10 : sn7 [ρ 20, ρ 2] (γ 13) 0 0 (γ 14) := hS7 _ _ _ _ _ l10
  have l11 : sn35 [ρ 16, ρ 25, ρ 2, ρ 23, ρ 24, ρ 6, ρ 7, ρ 8, ρ 22, ρ 11, ρ 16, ρ 19, 0, ρ 15] (γ 14) 0 1 (γ 15) := hS35 _ _ _ _ _ l11
  have wl_0 : ρ 21 ≠ 40 := by omega
  show sn37 [ρ 0, ρ 1, ρ 2, ρ 3, ρ 4, ρ 5, ρ 6, ρ 7, ρ 8, ρ 9, ρ 10, ρ 11, ρ 12, ρ 13, ρ 14, ρ 15] (γ 0) 0 1 (γ 15)
  refine Eq.symm ?_
  show fn37 [ρ 0] (γ 0) = _
  unfold fn37
  refine (zLet_eq (show _ = ρ 0 from rfl)).trans ?_
  refine (zLet_eq m1).trans ?_
  refine (zLet_eq m5).trans ?_
  refine (zLet_eq m6).trans ?_
  refine (zLet_eq m14).trans ?_
  refine (zLet_eq (show fn7 [] (γ 0) = (0, 0, γ 1) from l0.symm)).trans ?_
  refine (zLet_eq (show _ = γ 1 from rfl)).trans ?_
  refine (zLet_eq m15).trans ?_
  refine (zLet_eq (show fn33 [] (γ 1) = (0, ρ 7 + 8 * ρ 6, γ 2) from l1.symm)).trans ?_
  refine (zLet_eq (show _ = γ 2 from rfl)).trans ?_
  refine (zLet_eq c3.symm).trans ?_
  refine (zLet_eq (show fn6 [ρ 16] (γ 3) = (0, ρ 17, γ 4) from l2.symm)).trans ?_
  refine (zLet_eq (show _ = γ 4 from rfl)).trans ?_
  refine (if_pos w_0).trans ?_
  refine (zLet_eq (show _ = ρ 17 from rfl)).trans ?_
  refine (if_pos w_1).trans ?_
  refine (zLet_eq (show fn9 [ρ 17] (γ 4) = (0, 1, γ 5) from l4.symm)).trans ?_
  refine (zLet_eq (show _ = γ 5 from rfl)).trans ?_
  refine (if_pos zQ1_).trans ?_
  refine (zLet_eq (show fn12 [] (γ 5) = (0, 1, γ 6) from l5.symm)).trans ?_
  refine (zLet_eq (show _ = γ 6 from rfl)).trans ?_
  refine (if_pos zQ1_).trans ?_
  refine (zLet_eq (show fn7 [] (γ 6) = (0, 0, γ 7) from l6.symm)).trans ?_
  refine (zLet_eq (show _ = γ 7 from rfl)).trans ?_
  refine (zLet_eq m20).trans ?_
  refine (zLet_eq (show fn6 [ρ 20] (γ 7) = (0, ρ 21, γ 8) from l7.symm)).trans ?_
  refine (zLet_eq (show _ = γ 8 from rfl)).trans ?_
  refine (if_pos w_2).trans ?_
  refine (zLet_eq (show _ = ρ 21 from rfl)).trans ?_
  refine (if_pos wl_0).trans ?_
  refine (zLet_eq (show fn15 [] (γ 8) = (0, ρ 22, γ 9) from l9.symm)).trans ?_
  refine (zLet_eq (show _ = γ 9 from rfl)).trans ?_
  refine (zLet_eq (show _ = ρ 22 from rfl)).trans ?_
  refine (zLet_eq c10.symm).trans ?_
  refine (zLet_eq c11.symm).trans ?_
  refine (zLet_eq c12.symm).trans ?_
  refine (zLet_eq c13.symm).trans ?_
  refine (zLet_eq (show fn7 [] (γ 13) = (0, 0, γ 14) from l10.symm)).trans ?_
  refine (zLet_eq (show _ = γ 14 from rfl)).trans ?_
  refine (zLet_eq (show fn35 [ρ 16] (γ 14) = (0, 1, γ 15) from l11.symm)).trans ?_
  refine (zLet_eq (show _ = γ 15 from rfl)).trans ?_
  refine (if_pos zQ1_).trans ?_
  rfl
theorem vn37_21 {S : Nat → zSpc} (hS6 : ∀ x g o v gz, S 6 x g o v gz → sn6 x g o v gz) (hS7 : ∀ x g o v gz, S 7 x g o v gz → sn7 x g o v gz) (hS8 : ∀ x g o v gz, S 8 x g o v gz → sn8 x g o v gz) (hS9 : ∀ x g o v gz, S 9 x g o v gz → sn9 x g o v gz) (hS12 : ∀ x g o v gz, S 12 x g o v gz → sn12 x g o v gz) (hS13 : ∀ x g o v gz, S 13 x g o v gz → sn13 x g o v gz) (hS15 : ∀ x g o v gz, S 15 x g o v gz → sn15 x g o v gz) (hS18 : ∀ x g o v gz, S 18 x g o v gz → sn18 x g o v gz) (hS20 : ∀ x g o v gz, S 20 x g o v gz → sn20 x g o v gz) (hS23 : ∀ x g o v gz, S 23 x g o v gz → sn23 x g o v gz) (hS33 : ∀ x g o v gz, S 33 x g o v gz → sn33 x g o v gz) (hS34 : ∀ x g o v gz, S 34 x g o v gz → sn34 x g o v gz) (hS35 : ∀ x g o v gz, S 35 x g o v gz → sn35 x g o v gz) (hS36 : ∀ x g o v gz, S 36 x g o v gz → sn36 x g o v gz) {a : List Int} {g : rHp} : ∀ (ρ : Nat → Int) (γ : Nat → rHp), zO 16 S a g q37_21 ρ γ → zGl (fun _ _ _ => True) (sn37 a g) q37_21 ρ γ := by
  intro ρ γ h
  obtain ⟨ha, hg, hr, hf, hm, hc, hl⟩ := h
  have ha : a = [ρ 0, ρ 1, ρ 2, ρ 3, ρ 4, ρ 5, ρ 6, ρ 7, ρ 8, ρ 9, ρ 10, ρ 11, ρ 12, ρ 13, ρ 14, ρ 15] := ha
  subst ha
  subst hg
  obtain ⟨-, -, -, -, -, -, -, -, -, -, -, -, -, -, -, -, -, r17, -, -, -, r21, -⟩ := hr
  have r17 : (97 : Int) ≤ ρ 17 ∧ ρ 17 ≤ 122 := r17
  have r21 : (40 : Int) ≤ ρ 21 ∧ ρ 21 ≤ 40 := r21
  obtain ⟨-, -, f2, -, -, -, -, -, -, -, -, -, -, -, -, -, f16, -⟩ := hf
  have f2 : (0 : Int) ≤ -ρ 20 + ρ 2 + (-1) := f2
  have f16 : (0 : Int) ≤ -ρ 16 + ρ 2 + (-1) := f16
  obtain ⟨w_0, w_1, w_2, w_3⟩ : (0 ≤ -ρ 16 + ρ 2 + (-1)) ∧ (ρ 17 ≠ 33) ∧ (0 ≤ -ρ 20 + ρ 2 + (-1)) ∧ (¬ (ρ 21 ≠ 40)) := ⟨by omega, by omega, by omega, by omega⟩
  obtain ⟨-, m1, -, -, -, m5, m6, -, -, -, -, -, -, -, m14, m15, -, -, -, -, m20, -⟩ := hm
  have m1 : γ 0 15 0 34 = ρ 2 := m1
  have m5 : γ 0 15 0 44 = ρ 6 := m5
  have m6 : γ 0 73 0 (ρ 6) = ρ 7 := m6
  have m14 : γ 0 15 0 45 = ρ 15 := m14
  have m15 : γ 1 15 0 35 = ρ 16 := m15
  have m20 : γ 7 15 0 35 = ρ 20 := m20
  obtain ⟨⟨⟨⟨⟨⟨⟨-, c3⟩, -⟩, -⟩, -⟩, -⟩, -⟩, -⟩ := hc
  have c3 : γ 3 = rUp (γ 2) 79 0 (ρ 7 + 8 * ρ 6) (ρ 15) := c3
  obtain ⟨l0, l1, l2, l3, l4, l5, l6, l7, l8, -⟩ := hl
  have l0 : sn7 [ρ 1, ρ 2] (γ 0) 0 0 (γ 1) := hS7 _ _ _ _ _ l0
  have l1 : sn33 [ρ 6, ρ 7] (γ 1) 0 (ρ 7 + 8 * ρ 6) (γ 2) := hS33 _ _ _ _ _ l1
  have l2 : sn6 [ρ 16, ρ 2] (γ 3) 0 (ρ 17) (γ 4) := hS6 _ _ _ _ _ l2
  have l3 : ρ 17 ≠ 33 := l3
  have l4 : sn9 [ρ 17] (γ 4) 0 1 (γ 5) := hS9 _ _ _ _ _ l4
  have l5 : sn12 [ρ 16, ρ 2, ρ 12, ρ 11, ρ 13] (γ 5) 0 1 (γ 6) := hS12 _ _ _ _ _ l5
  have l6 : sn7 [ρ 18, ρ 2] (γ 6) 0 0 (γ 7) := hS7 _ _ _ _ _ l6
  have l7 : sn6 [ρ 20, ρ 2] (γ 7) 0 (ρ 21) (γ 8) := hS6 _ _ _ _ _ l7
  have l8 : sn36 [0, ρ 0, ρ 20, ρ 2, ρ 3, ρ 4, ρ 5, ρ 16, ρ 19, ρ 6, ρ 7, ρ 8, ρ 9, ρ 10, ρ 11, ρ 14, ρ 15] (γ 8) 0 0 (γ 9) := hS36 _ _ _ _ _ l8
  show sn37 [ρ 0, ρ 1, ρ 2, ρ 3, ρ 4, ρ 5, ρ 6, ρ 7, ρ 8, ρ 9, ρ 10, ρ 11, ρ 12, ρ 13, ρ 14, ρ 15] (γ 0) 0 0 (γ 9)
  refine Eq.symm ?_
  show fn37 [ρ 0] (γ 0) = _
  unfold fn37
  refine (zLet_eq (show _ = ρ 0 from rfl)).trans ?_
  refine (zLet_eq m1).trans ?_
  refine (zLet_eq m5).trans ?_
  refine (zLet_eq m6).trans ?_
  refine (zLet_eq m14).trans ?_
  refine (zLet_eq (show fn7 [] (γ 0) = (0, 0, γ 1) from l0.symm)).trans ?_
  refine (zLet_eq (show _ = γ 1 from rfl)).trans ?_
  refine (zLet_eq m15).trans ?_
  refine (zLet_eq (show fn33 [] (γ 1) = (0, ρ 7 + 8 * ρ 6, γ 2) from l1.symm)).trans ?_
  refine (zLet_eq (show _ = γ 2 from rfl)).trans ?_
  refine (zLet_eq c3.symm).trans ?_
  refine (zLet_eq (show fn6 [ρ 16] (γ 3) = (0, ρ 17, γ 4) from l2.symm)).trans ?_
  refine (zLet_eq (show _ = γ 4 from rfl)).trans ?_
  refine (if_pos w_0).trans ?_
  refine (zLet_eq (show _ = ρ 17 from rfl)).trans ?_
  refine (if_pos w_1).trans ?_
  refine (zLet_eq (show fn9 [ρ 17] (γ 4) = (0, 1, γ 5) from l4.symm)).trans ?_
  refine (zLet_eq (show _ = γ 5 from rfl)).trans ?_
  refine (if_pos zQ1_).trans ?_
  refine (zLet_eq (show fn12 [] (γ 5) = (0, 1, γ 6) from l5.symm)).trans ?_
  refine (zLet_eq (show _ = γ 6 from rfl)).trans ?_
  refine (if_pos zQ1_).trans ?_
  refine (zLet_eq (show fn7 [] (γ 6) = (0, 0, γ 7) from l6.symm)).trans ?_
  refine (zLet_eq (show _ = γ 7 from rfl)).trans ?_
  refine (zLet_eq m20).trans ?_
  refine (zLet_eq (show fn6 [ρ 20] (γ 7) = (0, ρ 21, γ 8) from l7.symm)).trans ?_
  refine (zLet_eq (show _ = γ 8 from rfl)).trans ?_
  refine (if_pos w_2).trans ?_
  refine (zLet_eq (show _ = ρ 21 from rfl)).trans ?_
  refine (if_neg w_3).trans ?_
  refine (zLet_eq (show fn36 [0, ρ 0] (γ 8) = (0, 0, γ 9) from l8.symm)).trans ?_
  refine (zLet_eq (show _ = γ 9 from rfl)).trans ?_
  refine (if_neg zQ0_).trans ?_
  rfl
theorem vn37_22 {S : Nat → zSpc} (hS6 : ∀ x g o v gz, S 6 x g o v gz → sn6 x g o v gz) (hS7 : ∀ x g o v gz, S 7 x g o v gz → sn7 x g o v gz) (hS8 : ∀ x g o v gz, S 8 x g o v gz → sn8 x g o v gz) (hS9 : ∀ x g o v gz, S 9 x g o v gz → sn9 x g o v gz) (hS12 : ∀ x g o v gz, S 12 x g o v gz → sn12 x g o v gz) (hS13 : ∀ x g o v gz, S 13 x g o v gz → sn13 x g o v gz) (hS15 : ∀ x g o v gz, S 15 x g o v gz → sn15 x g o v gz) (hS18 : ∀ x g o v gz, S 18 x g o v gz → sn18 x g o v gz) (hS20 : ∀ x g o v gz, S 20 x g o v gz → sn20 x g o v gz) (hS23 : ∀ x g o v gz, S 23 x g o v gz → sn23 x g o v gz) (hS33 : ∀ x g o v gz, S 33 x g o v gz → sn33 x g o v gz) (hS34 : ∀ x g o v gz, S 34 x g o v gz → sn34 x g o v gz) (hS35 : ∀ x g o v gz, S 35 x g o v gz → sn35 x g o v gz) (hS36 : ∀ x g o v gz, S 36 x g o v gz → sn36 x g o v gz) {a : List Int} {g : rHp} : ∀ (ρ : Nat → Int) (γ : Nat → rHp), zO 16 S a g q37_22 ρ γ → zGl (fun _ _ _ => True) (sn37 a g) q37_22 ρ γ := by
  intro ρ γ h
  obtain ⟨ha, hg, hr, hf, hm, hc, hl⟩ := h
  have ha : a = [ρ 0, ρ 1, ρ 2, ρ 3, ρ 4, ρ 5, ρ 6, ρ 7, ρ 8, ρ 9, ρ 10, ρ 11, ρ 12, ρ 13, ρ 14, ρ 15] := ha
  subst ha
  subst hg
  obtain ⟨-, -, -, -, -, -, -, -, -, -, -, -, -, -, -, -, -, r17, -, -, -, r21, -⟩ := hr
  have r17 : (97 : Int) ≤ ρ 17 ∧ ρ 17 ≤ 122 := r17
  have r21 : (40 : Int) ≤ ρ 21 ∧ ρ 21 ≤ 40 := r21
  obtain ⟨-, -, f2, -, -, -, -, -, -, -, -, -, -, -, -, -, -, f17, -⟩ := hf
  have f2 : (0 : Int) ≤ -ρ 20 + ρ 2 + (-1) := f2
  have f17 : (0 : Int) ≤ -ρ 16 + ρ 2 + (-1) := f17
  obtain ⟨w_0, w_1, w_2, w_3⟩ : (0 ≤ -ρ 16 + ρ 2 + (-1)) ∧ (ρ 17 ≠ 33) ∧ (0 ≤ -ρ 20 + ρ 2 + (-1)) ∧ (¬ (ρ 21 ≠ 40)) := ⟨by omega, by omega, by omega, by omega⟩
  obtain ⟨-, m1, -, -, -, m5, m6, -, -, -, -, -, -, -, m14, m15, -, -, -, -, m20, -⟩ := hm
  have m1 : γ 0 15 0 34 = ρ 2 := m1
  have m5 : γ 0 15 0 44 = ρ 6 := m5
  have m6 : γ 0 73 0 (ρ 6) = ρ 7 := m6
  have m14 : γ 0 15 0 45 = ρ 15 := m14
  have m15 : γ 1 15 0 35 = ρ 16 := m15
  have m20 : γ 7 15 0 35 = ρ 20 := m20
  obtain ⟨⟨⟨⟨⟨⟨⟨-, c3⟩, -⟩, -⟩, -⟩, -⟩, -⟩, -⟩ := hc
  have c3 : γ 3 = rUp (γ 2) 79 0 (ρ 7 + 8 * ρ 6) (ρ 15) := c3
  obtain ⟨l0, l1, l2, l3, l4, l5, l6, l7, l8, -⟩ := hl
  have l0 : sn7 [ρ 1, ρ 2] (γ 0) 0 0 (γ 1) := hS7 _ _ _ _ _ l0
  have l1 : sn33 [ρ 6, ρ 7] (γ 1) 0 (ρ 7 + 8 * ρ 6) (γ 2) := hS33 _ _ _ _ _ l1
  have l2 : sn6 [ρ 16, ρ 2] (γ 3) 0 (ρ 17) (γ 4) := hS6 _ _ _ _ _ l2
  have l3 : ρ 17 ≠ 33 := l3
  have l4 : sn9 [ρ 17] (γ 4) 0 1 (γ 5) := hS9 _ _ _ _ _ l4
  have l5 : sn12 [ρ 16, ρ 2, ρ 12, ρ 11, ρ 13] (γ 5) 0 1 (γ 6) := hS12 _ _ _ _ _ l5
  have l6 : sn7 [ρ 18, ρ 2] (γ 6) 0 0 (γ 7) := hS7 _ _ _ _ _ l6
  have l7 : sn6 [ρ 20, ρ 2] (γ 7) 0 (ρ 21) (γ 8) := hS6 _ _ _ _ _ l7
  have l8 : sn36 [0, ρ 0, ρ 20, ρ 2, ρ 3, ρ 4, ρ 5, ρ 16, ρ 19, ρ 6, ρ 7, ρ 8, ρ 9, ρ 10, ρ 11, ρ 14, ρ 15] (γ 8) 0 1 (γ 9) := hS36 _ _ _ _ _ l8
  show sn37 [ρ 0, ρ 1, ρ 2, ρ 3, ρ 4, ρ 5, ρ 6, ρ 7, ρ 8, ρ 9, ρ 10, ρ 11, ρ 12, ρ 13, ρ 14, ρ 15] (γ 0) 0 1 (γ 9)
  refine Eq.symm ?_
  show fn37 [ρ 0] (γ 0) = _
  unfold fn37
  refine (zLet_eq (show _ = ρ 0 from rfl)).trans ?_
  refine (zLet_eq m1).trans ?_
  refine (zLet_eq m5).trans ?_
  refine (zLet_eq m6).trans ?_
  refine (zLet_eq m14).trans ?_
  refine (zLet_eq (show fn7 [] (γ 0) = (0, 0, γ 1) from l0.symm)).trans ?_
  refine (zLet_eq (show _ = γ 1 from rfl)).trans ?_
  refine (zLet_eq m15).trans ?_
  refine (zLet_eq (show fn33 [] (γ 1) = (0, ρ 7 + 8 * ρ 6, γ 2) from l1.symm)).trans ?_
  refine (zLet_eq (show _ = γ 2 from rfl)).trans ?_
  refine (zLet_eq c3.symm).trans ?_
  refine (zLet_eq (show fn6 [ρ 16] (γ 3) = (0, ρ 17, γ 4) from l2.symm)).trans ?_
  refine (zLet_eq (show _ = γ 4 from rfl)).trans ?_
  refine (if_pos w_0).trans ?_
  refine (zLet_eq (show _ = ρ 17 from rfl)).trans ?_
  refine (if_pos w_1).trans ?_
  refine (zLet_eq (show fn9 [ρ 17] (γ 4) = (0, 1, γ 5) from l4.symm)).trans ?_
  refine (zLet_eq (show _ = γ 5 from rfl)).trans ?_
  refine (if_pos zQ1_).trans ?_
  refine (zLet_eq (show fn12 [] (γ 5) = (0, 1, γ 6) from l5.symm)).trans ?_
  refine (zLet_eq (show _ = γ 6 from rfl)).trans ?_
  refine (if_pos zQ1_).trans ?_
  refine (zLet_eq (show fn7 [] (γ 6) = (0, 0, γ 7) from l6.symm)).trans ?_
  refine (zLet_eq (show _ = γ 7 from rfl)).trans ?_
  refine (zLet_eq m20).trans ?_
  refine (zLet_eq (show fn6 [ρ 20] (γ 7) = (0, ρ 21, γ 8) from l7.symm)).trans ?_
  refine (zLet_eq (show _ = γ 8 from rfl)).trans ?_
  refine (if_pos w_2).trans ?_
  refine (zLet_eq (show _ = ρ 21 from rfl)).trans ?_
  refine (if_neg w_3).trans ?_
  refine (zLet_eq (show fn36 [0, ρ 0] (γ 8) = (0, 1, γ 9) from l8.symm)).trans ?_
  refine (zLet_eq (show _ = γ 9 from rfl)).trans ?_
  refine (if_pos zQ1_).trans ?_
  rfl
theorem vn37_23 {S : Nat → zSpc} (hS6 : ∀ x g o v gz, S 6 x g o v gz → sn6 x g o v gz) (hS7 : ∀ x g o v gz, S 7 x g o v gz → sn7 x g o v gz) (hS8 : ∀ x g o v gz, S 8 x g o v gz → sn8 x g o v gz) (hS9 : ∀ x g o v gz, S 9 x g o v gz → sn9 x g o v gz) (hS12 : ∀ x g o v gz, S 12 x g o v gz → sn12 x g o v gz) (hS13 : ∀ x g o v gz, S 13 x g o v gz → sn13 x g o v gz) (hS15 : ∀ x g o v gz, S 15 x g o v gz → sn15 x g o v gz) (hS18 : ∀ x g o v gz, S 18 x g o v gz → sn18 x g o v gz) (hS20 : ∀ x g o v gz, S 20 x g o v gz → sn20 x g o v gz) (hS23 : ∀ x g o v gz, S 23 x g o v gz → sn23 x g o v gz) (hS33 : ∀ x g o v gz, S 33 x g o v gz → sn33 x g o v gz) (hS34 : ∀ x g o v gz, S 34 x g o v gz → sn34 x g o v gz) (hS35 : ∀ x g o v gz, S 35 x g o v gz → sn35 x g o v gz) (hS36 : ∀ x g o v gz, S 36 x g o v gz → sn36 x g o v gz) {a : List Int} {g : rHp} : ∀ (ρ : Nat → Int) (γ : Nat → rHp), zO 16 S a g q37_23 ρ γ → zGl (fun _ _ _ => True) (sn37 a g) q37_23 ρ γ := by
  intro ρ γ h
  obtain ⟨ha, hg, hr, hf, hm, hc, hl⟩ := h
  have ha : a = [ρ 0, ρ 1, ρ 2, ρ 3, ρ 4, ρ 5, ρ 6, ρ 7, ρ 8, ρ 9, ρ 10, ρ 11, ρ 12, ρ 13, ρ 14, ρ 15] := ha
  subst ha
  subst hg
  obtain ⟨-, -, -, -, -, -, -, -, -, -, -, -, -, -, -, -, -, r17, -⟩ := hr
  have r17 : (97 : Int) ≤ ρ 17 ∧ ρ 17 ≤ 122 := r17
  obtain ⟨-, -, -, -, -, -, -, -, -, -, -, -, -, -, -, -, -, -, -, f19, -, -, f22, -⟩ := hf
  have f19 : (0 : Int) ≤ ρ 20 + -ρ 2 := f19
  have f22 : (0 : Int) ≤ -ρ 16 + ρ 2 + (-1) := f22
  obtain ⟨w_0, w_1, w_2⟩ : (0 ≤ -ρ 16 + ρ 2 + (-1)) ∧ (ρ 17 ≠ 33) ∧ (¬ (0 ≤ -ρ 20 + ρ 2 + (-1))) := ⟨by omega, by omega, by omega⟩
  obtain ⟨-, m1, -, -, -, m5, m6, -, -, -, -, -, -, -, m14, m15, -, -, -, -, m20, -⟩ := hm
  have m1 : γ 0 15 0 34 = ρ 2 := m1
  have m5 : γ 0 15 0 44 = ρ 6 := m5
  have m6 : γ 0 73 0 (ρ 6) = ρ 7 := m6
  have m14 : γ 0 15 0 45 = ρ 15 := m14
  have m15 : γ 1 15 0 35 = ρ 16 := m15
  have m20 : γ 7 15 0 35 = ρ 20 := m20
  obtain ⟨⟨⟨⟨⟨⟨⟨⟨⟨⟨⟨⟨⟨-, c3⟩, -⟩, -⟩, -⟩, -⟩, -⟩, -⟩, c10⟩, c11⟩, c12⟩, c13⟩, -⟩, -⟩ := hc
  have c3 : γ 3 = rUp (γ 2) 79 0 (ρ 7 + 8 * ρ 6) (ρ 15) := c3
  have c10 : γ 10 = rUp (γ 9) 15 0 39 (ρ 21) := c10
  have c11 : γ 11 = rUp (γ 10) 15 0 40 0 := c11
  have c12 : γ 12 = rUp (γ 11) 80 0 (4 * ρ 7 + 32 * ρ 6) 0 := c12
  have c13 : γ 13 = rUp (γ 12) 81 0 (4 * ρ 7 + 32 * ρ 6) (ρ 21) := c13
  obtain ⟨l0, l1, l2, l3, l4, l5, l6, l7, l8, l9, l10, -⟩ := hl
  have l0 : sn7 [ρ 1, ρ 2] (γ 0) 0 0 (γ 1) := hS7 _ _ _ _ _ l0
  have l1 : sn33 [ρ 6, ρ 7] (γ 1) 0 (ρ 7 + 8 * ρ 6) (γ 2) := hS33 _ _ _ _ _ l1
  have l2 : sn6 [ρ 16, ρ 2] (γ 3) 0 (ρ 17) (γ 4) := hS6 _ _ _ _ _ l2
  have l3 : ρ 17 ≠ 33 := l3
  have l4 : sn9 [ρ 17] (γ 4) 0 1 (γ 5) := hS9 _ _ _ _ _ l4
  have l5 : sn12 [ρ 16, ρ 2, ρ 12, ρ 11, ρ 13] (γ 5) 0 1 (γ 6) := hS12 _ _ _ _ _ l5
  have l6 : sn7 [ρ 18, ρ 2] (γ 6) 0 0 (γ 7) := hS7 _ _ _ _ _ l6
  have l7 : sn6 [ρ 20, ρ 2] (γ 7) 0 (-1) (γ 8) := hS6 _ _ _ _ _ l7
  have l8 : sn15 [ρ 2, ρ 3, ρ 4, ρ 16, ρ 19] (γ 8) 0 (ρ 21) (γ 9) := hS15 _ _ _ _ _ l8
  have l9 : sn7 [ρ 20, ρ 2] (γ 13) 0 0 (γ 14) := hS7 _ _ _ _ _ l9
  have l10 : sn35 [ρ 16, ρ 24, ρ 2, ρ 22, ρ 23, ρ 6, ρ 7, ρ 8, ρ 21, ρ 11, ρ 16, ρ 19, 0, ρ 15] (γ 14) 0 0 (γ 15) := hS35 _ _ _ _ _ l10
  show sn37 [ρ 0, ρ 1, ρ 2, ρ 3, ρ 4, ρ 5, ρ 6, ρ 7, ρ 8, ρ 9, ρ 10, ρ 11, ρ 12, ρ 13, ρ 14, ρ 15] (γ 0) 0 0 (γ 15)
  refine Eq.symm ?_
  show fn37 [ρ 0] (γ 0) = _
  unfold fn37
  refine (zLet_eq (show _ = ρ 0 from rfl)).trans ?_
  refine (zLet_eq m1).trans ?_
  refine (zLet_eq m5).trans ?_
  refine (zLet_eq m6).trans ?_
  refine (zLet_eq m14).trans ?_
  refine (zLet_eq (show fn7 [] (γ 0) = (0, 0, γ 1) from l0.symm)).trans ?_
  refine (zLet_eq (show _ = γ 1 from rfl)).trans ?_
  refine (zLet_eq m15).trans ?_
  refine (zLet_eq (show fn33 [] (γ 1) = (0, ρ 7 + 8 * ρ 6, γ 2) from l1.symm)).trans ?_
  refine (zLet_eq (show _ = γ 2 from rfl)).trans ?_
  refine (zLet_eq c3.symm).trans ?_
  refine (zLet_eq (show fn6 [ρ 16] (γ 3) = (0, ρ 17, γ 4) from l2.symm)).trans ?_
  refine (zLet_eq (show _ = γ 4 from rfl)).trans ?_
  refine (if_pos w_0).trans ?_
  refine (zLet_eq (show _ = ρ 17 from rfl)).trans ?_
  refine (if_pos w_1).trans ?_
  refine (zLet_eq (show fn9 [ρ 17] (γ 4) = (0, 1, γ 5) from l4.symm)).trans ?_
  refine (zLet_eq (show _ = γ 5 from rfl)).trans ?_
  refine (if_pos zQ1_).trans ?_
  refine (zLet_eq (show fn12 [] (γ 5) = (0, 1, γ 6) from l5.symm)).trans ?_
  refine (zLet_eq (show _ = γ 6 from rfl)).trans ?_
  refine (if_pos zQ1_).trans ?_
  refine (zLet_eq (show fn7 [] (γ 6) = (0, 0, γ 7) from l6.symm)).trans ?_
  refine (zLet_eq (show _ = γ 7 from rfl)).trans ?_
  refine (zLet_eq m20).trans ?_
  refine (zLet_eq (show fn6 [ρ 20] (γ 7) = (0, (-1), γ 8) from l7.symm)).trans ?_
  refine (zLet_eq (show _ = γ 8 from rfl)).trans ?_
  refine (if_neg w_2).trans ?_
  refine (zLet_eq (show fn15 [] (γ 8) = (0, ρ 21, γ 9) from l8.symm)).trans ?_
  refine (zLet_eq (show _ = γ 9 from rfl)).trans ?_
  refine (zLet_eq (show _ = ρ 21 from rfl)).trans ?_
  refine (zLet_eq c10.symm).trans ?_
  refine (zLet_eq c11.symm).trans ?_
  refine (zLet_eq c12.symm).trans ?_
  refine (zLet_eq c13.symm).trans ?_
  refine (zLet_eq (show fn7 [] (γ 13) = (0, 0, γ 14) from l9.symm)).trans ?_
  refine (zLet_eq (show _ = γ 14 from rfl)).trans ?_
  refine (zLet_eq (show fn35 [ρ 16] (γ 14) = (0, 0, γ 15) from l10.symm)).trans ?_
  refine (zLet_eq (show _ = γ 15 from rfl)).trans ?_
  rfl
theorem vn37_24 {S : Nat → zSpc} (hS6 : ∀ x g o v gz, S 6 x g o v gz → sn6 x g o v gz) (hS7 : ∀ x g o v gz, S 7 x g o v gz → sn7 x g o v gz) (hS8 : ∀ x g o v gz, S 8 x g o v gz → sn8 x g o v gz) (hS9 : ∀ x g o v gz, S 9 x g o v gz → sn9 x g o v gz) (hS12 : ∀ x g o v gz, S 12 x g o v gz → sn12 x g o v gz) (hS13 : ∀ x g o v gz, S 13 x g o v gz → sn13 x g o v gz) (hS15 : ∀ x g o v gz, S 15 x g o v gz → sn15 x g o v gz) (hS18 : ∀ x g o v gz, S 18 x g o v gz → sn18 x g o v gz) (hS20 : ∀ x g o v gz, S 20 x g o v gz → sn20 x g o v gz) (hS23 : ∀ x g o v gz, S 23 x g o v gz → sn23 x g o v gz) (hS33 : ∀ x g o v gz, S 33 x g o v gz → sn33 x g o v gz) (hS34 : ∀ x g o v gz, S 34 x g o v gz → sn34 x g o v gz) (hS35 : ∀ x g o v gz, S 35 x g o v gz → sn35 x g o v gz) (hS36 : ∀ x g o v gz, S 36 x g o v gz → sn36 x g o v gz) {a : List Int} {g : rHp} : ∀ (ρ : Nat → Int) (γ : Nat → rHp), zO 16 S a g q37_24 ρ γ → zGl (fun _ _ _ => True) (sn37 a g) q37_24 ρ γ := by
  intro ρ γ h
  obtain ⟨ha, hg, hr, hf, hm, hc, hl⟩ := h
  have ha : a = [ρ 0, ρ 1, ρ 2, ρ 3, ρ 4, ρ 5, ρ 6, ρ 7, ρ 8, ρ 9, ρ 10, ρ 11, ρ 12, ρ 13, ρ 14, ρ 15] := ha
  subst ha
  subst hg
  obtain ⟨-, -, -, -, -, -, -, -, -, -, -, -, -, -, -, -, -, r17, -⟩ := hr
  have r17 : (33 : Int) ≤ ρ 17 ∧ ρ 17 ≤ 33 := r17
  obtain ⟨f0, -⟩ := hf
  have f0 : (0 : Int) ≤ -ρ 16 + ρ 2 + (-1) := f0
  obtain ⟨w_0, w_1⟩ : (0 ≤ -ρ 16 + ρ 2 + (-1)) ∧ (¬ (ρ 17 ≠ 33)) := ⟨by omega, by omega⟩
  obtain ⟨-, m1, -, -, -, m5, m6, -, -, -, -, -, -, -, m14, m15, -⟩ := hm
  have m1 : γ 0 15 0 34 = ρ 2 := m1
  have m5 : γ 0 15 0 44 = ρ 6 := m5
  have m6 : γ 0 73 0 (ρ 6) = ρ 7 := m6
  have m14 : γ 0 15 0 45 = ρ 15 := m14
  have m15 : γ 1 15 0 35 = ρ 16 := m15
  obtain ⟨⟨⟨⟨-, c3⟩, -⟩, c5⟩, -⟩ := hc
  have c3 : γ 3 = rUp (γ 2) 79 0 (ρ 7 + 8 * ρ 6) (ρ 15) := c3
  have c5 : γ 5 = rUp (γ 4) 15 0 35 (ρ 16 + 1) := c5
  obtain ⟨l0, l1, l2, l3, -⟩ := hl
  have l0 : sn7 [ρ 1, ρ 2] (γ 0) 0 0 (γ 1) := hS7 _ _ _ _ _ l0
  have l1 : sn33 [ρ 6, ρ 7] (γ 1) 0 (ρ 7 + 8 * ρ 6) (γ 2) := hS33 _ _ _ _ _ l1
  have l2 : sn6 [ρ 16, ρ 2] (γ 3) 0 (ρ 17) (γ 4) := hS6 _ _ _ _ _ l2
  have l3 : sn23 [ρ 16 + 1, ρ 2, ρ 11, ρ 12, ρ 13] (γ 5) 0 0 (γ 6) := hS23 _ _ _ _ _ l3
  show sn37 [ρ 0, ρ 1, ρ 2, ρ 3, ρ 4, ρ 5, ρ 6, ρ 7, ρ 8, ρ 9, ρ 10, ρ 11, ρ 12, ρ 13, ρ 14, ρ 15] (γ 0) 0 0 (γ 6)
  refine Eq.symm ?_
  show fn37 [ρ 0] (γ 0) = _
  unfold fn37
  refine (zLet_eq (show _ = ρ 0 from rfl)).trans ?_
  refine (zLet_eq m1).trans ?_
  refine (zLet_eq m5).trans ?_
  refine (zLet_eq m6).trans ?_
  refine (zLet_eq m14).trans ?_
  refine (zLet_eq (show fn7 [] (γ 0) = (0, 0, γ 1) from l0.symm)).trans ?_
  refine (zLet_eq (show _ = γ 1 from rfl)).trans ?_
  refine (zLet_eq m15).trans ?_
  refine (zLet_eq (show fn33 [] (γ 1) = (0, ρ 7 + 8 * ρ 6, γ 2) from l1.symm)).trans ?_
  refine (zLet_eq (show _ = γ 2 from rfl)).trans ?_
  refine (zLet_eq c3.symm).trans ?_
  refine (zLet_eq (show fn6 [ρ 16] (γ 3) = (0, ρ 17, γ 4) from l2.symm)).trans ?_
  refine (zLet_eq (show _ = γ 4 from rfl)).trans ?_
  refine (if_pos w_0).trans ?_
  refine (zLet_eq (show _ = ρ 17 from rfl)).trans ?_
  refine (if_neg w_1).trans ?_
  refine (zLet_eq c5.symm).trans ?_
  refine (zLet_eq (show fn23 [] (γ 5) = (0, 0, γ 6) from l3.symm)).trans ?_
  refine (zLet_eq (show _ = γ 6 from rfl)).trans ?_
  refine (if_neg zQ0_).trans ?_
  rfl
theorem vn37_25 {S : Nat → zSpc} (hS6 : ∀ x g o v gz, S 6 x g o v gz → sn6 x g o v gz) (hS7 : ∀ x g o v gz, S 7 x g o v gz → sn7 x g o v gz) (hS8 : ∀ x g o v gz, S 8 x g o v gz → sn8 x g o v gz) (hS9 : ∀ x g o v gz, S 9 x g o v gz → sn9 x g o v gz) (hS12 : ∀ x g o v gz, S 12 x g o v gz → sn12 x g o v gz) (hS13 : ∀ x g o v gz, S 13 x g o v gz → sn13 x g o v gz) (hS15 : ∀ x g o v gz, S 15 x g o v gz → sn15 x g o v gz) (hS18 : ∀ x g o v gz, S 18 x g o v gz → sn18 x g o v gz) (hS20 : ∀ x g o v gz, S 20 x g o v gz → sn20 x g o v gz) (hS23 : ∀ x g o v gz, S 23 x g o v gz → sn23 x g o v gz) (hS33 : ∀ x g o v gz, S 33 x g o v gz → sn33 x g o v gz) (hS34 : ∀ x g o v gz, S 34 x g o v gz → sn34 x g o v gz) (hS35 : ∀ x g o v gz, S 35 x g o v gz → sn35 x g o v gz) (hS36 : ∀ x g o v gz, S 36 x g o v gz → sn36 x g o v gz) {a : List Int} {g : rHp} : ∀ (ρ : Nat → Int) (γ : Nat → rHp), zO 16 S a g q37_25 ρ γ → zGl (fun _ _ _ => True) (sn37 a g) q37_25 ρ γ := by
  intro ρ γ h
  obtain ⟨ha, hg, hr, hf, hm, hc, hl⟩ := h
  have ha : a = [ρ 0, ρ 1, ρ 2, ρ 3, ρ 4, ρ 5, ρ 6, ρ 7, ρ 8, ρ 9, ρ 10, ρ 11, ρ 12, ρ 13, ρ 14, ρ 15] := ha
  subst ha
  subst hg
  obtain ⟨-, -, -, -, -, -, -, -, -, -, -, -, -, -, -, -, -, r17, -, -, -, -, r22, -⟩ := hr
  have r17 : (33 : Int) ≤ ρ 17 ∧ ρ 17 ≤ 33 := r17
  have r22 : ((-128) : Int) ≤ ρ 22 ∧ ρ 22 ≤ 127 := r22
  obtain ⟨-, -, f2, -, -, -, f6, -⟩ := hf
  have f2 : (0 : Int) ≤ -ρ 21 + ρ 2 + (-1) := f2
  have f6 : (0 : Int) ≤ -ρ 16 + ρ 2 + (-1) := f6
  obtain ⟨w_0, w_1, w_2⟩ : (0 ≤ -ρ 16 + ρ 2 + (-1)) ∧ (¬ (ρ 17 ≠ 33)) ∧ (0 ≤ -ρ 21 + ρ 2 + (-1)) := ⟨by omega, by omega, by omega⟩
  obtain ⟨-, m1, -, -, -, m5, m6, -, -, -, -, -, -, -, m14, m15, -, -, -, -, m20, -⟩ := hm
  have m1 : γ 0 15 0 34 = ρ 2 := m1
  have m5 : γ 0 15 0 44 = ρ 6 := m5
  have m6 : γ 0 73 0 (ρ 6) = ρ 7 := m6
  have m14 : γ 0 15 0 45 = ρ 15 := m14
  have m15 : γ 1 15 0 35 = ρ 16 := m15
  have m20 : γ 7 15 0 35 = ρ 21 := m20
  obtain ⟨⟨⟨⟨⟨⟨⟨-, c3⟩, -⟩, c5⟩, -⟩, -⟩, -⟩, -⟩ := hc
  have c3 : γ 3 = rUp (γ 2) 79 0 (ρ 7 + 8 * ρ 6) (ρ 15) := c3
  have c5 : γ 5 = rUp (γ 4) 15 0 35 (ρ 16 + 1) := c5
  obtain ⟨l0, l1, l2, l3, l4, l5, l6, l7, -⟩ := hl
  have l0 : sn7 [ρ 1, ρ 2] (γ 0) 0 0 (γ 1) := hS7 _ _ _ _ _ l0
  have l1 : sn33 [ρ 6, ρ 7] (γ 1) 0 (ρ 7 + 8 * ρ 6) (γ 2) := hS33 _ _ _ _ _ l1
  have l2 : sn6 [ρ 16, ρ 2] (γ 3) 0 (ρ 17) (γ 4) := hS6 _ _ _ _ _ l2
  have l3 : sn23 [ρ 16 + 1, ρ 2, ρ 11, ρ 12, ρ 13] (γ 5) 0 1 (γ 6) := hS23 _ _ _ _ _ l3
  have l4 : sn7 [ρ 18, ρ 2] (γ 6) 0 0 (γ 7) := hS7 _ _ _ _ _ l4
  have l5 : sn6 [ρ 21, ρ 2] (γ 7) 0 (ρ 22) (γ 8) := hS6 _ _ _ _ _ l5
  have l6 : ρ 22 ≠ 40 := l6
  have l7 : sn8 [ρ 21, ρ 2, ρ 11] (γ 8) 0 0 (γ 9) := hS8 _ _ _ _ _ l7
  have wl_0 : ρ 22 ≠ 40 := by omega
  show sn37 [ρ 0, ρ 1, ρ 2, ρ 3, ρ 4, ρ 5, ρ 6, ρ 7, ρ 8, ρ 9, ρ 10, ρ 11, ρ 12, ρ 13, ρ 14, ρ 15] (γ 0) 0 0 (γ 9)
  refine Eq.symm ?_
  show fn37 [ρ 0] (γ 0) = _
  unfold fn37
  refine (zLet_eq (show _ = ρ 0 from rfl)).trans ?_
  refine (zLet_eq m1).trans ?_
  refine (zLet_eq m5).trans ?_
  refine (zLet_eq m6).trans ?_
  refine (zLet_eq m14).trans ?_
  refine (zLet_eq (show fn7 [] (γ 0) = (0, 0, γ 1) from l0.symm)).trans ?_
  refine (zLet_eq (show _ = γ 1 from rfl)).trans ?_
  refine (zLet_eq m15).trans ?_
  refine (zLet_eq (show fn33 [] (γ 1) = (0, ρ 7 + 8 * ρ 6, γ 2) from l1.symm)).trans ?_
  refine (zLet_eq (show _ = γ 2 from rfl)).trans ?_
  refine (zLet_eq c3.symm).trans ?_
  refine (zLet_eq (show fn6 [ρ 16] (γ 3) = (0, ρ 17, γ 4) from l2.symm)).trans ?_
  refine (zLet_eq (show _ = γ 4 from rfl)).trans ?_
  refine (if_pos w_0).trans ?_
  refine (zLet_eq (show _ = ρ 17 from rfl)).trans ?_
  refine (if_neg w_1).trans ?_
  refine (zLet_eq c5.symm).trans ?_
  refine (zLet_eq (show fn23 [] (γ 5) = (0, 1, γ 6) from l3.symm)).trans ?_
  refine (zLet_eq (show _ = γ 6 from rfl)).trans ?_
  refine (if_pos zQ1_).trans ?_
  refine (zLet_eq (show fn7 [] (γ 6) = (0, 0, γ 7) from l4.symm)).trans ?_
  refine (zLet_eq (show _ = γ 7 from rfl)).trans ?_
  refine (zLet_eq m20).trans ?_
  refine (zLet_eq (show fn6 [ρ 21] (γ 7) = (0, ρ 22, γ 8) from l5.symm)).trans ?_
  refine (zLet_eq (show _ = γ 8 from rfl)).trans ?_
  refine (if_pos w_2).trans ?_
  refine (zLet_eq (show _ = ρ 22 from rfl)).trans ?_
  refine (if_pos wl_0).trans ?_
  refine (zLet_eq (show fn8 [ρ 21] (γ 8) = (0, 0, γ 9) from l7.symm)).trans ?_
  refine (zLet_eq (show _ = γ 9 from rfl)).trans ?_
  rfl
theorem vn37_26 {S : Nat → zSpc} (hS6 : ∀ x g o v gz, S 6 x g o v gz → sn6 x g o v gz) (hS7 : ∀ x g o v gz, S 7 x g o v gz → sn7 x g o v gz) (hS8 : ∀ x g o v gz, S 8 x g o v gz → sn8 x g o v gz) (hS9 : ∀ x g o v gz, S 9 x g o v gz → sn9 x g o v gz) (hS12 : ∀ x g o v gz, S 12 x g o v gz → sn12 x g o v gz) (hS13 : ∀ x g o v gz, S 13 x g o v gz → sn13 x g o v gz) (hS15 : ∀ x g o v gz, S 15 x g o v gz → sn15 x g o v gz) (hS18 : ∀ x g o v gz, S 18 x g o v gz → sn18 x g o v gz) (hS20 : ∀ x g o v gz, S 20 x g o v gz → sn20 x g o v gz) (hS23 : ∀ x g o v gz, S 23 x g o v gz → sn23 x g o v gz) (hS33 : ∀ x g o v gz, S 33 x g o v gz → sn33 x g o v gz) (hS34 : ∀ x g o v gz, S 34 x g o v gz → sn34 x g o v gz) (hS35 : ∀ x g o v gz, S 35 x g o v gz → sn35 x g o v gz) (hS36 : ∀ x g o v gz, S 36 x g o v gz → sn36 x g o v gz) {a : List Int} {g : rHp} : ∀ (ρ : Nat → Int) (γ : Nat → rHp), zO 16 S a g q37_26 ρ γ → zGl (fun _ _ _ => True) (sn37 a g) q37_26 ρ γ := by
  intro ρ γ h
  obtain ⟨ha, hg, hr, hf, hm, hc, hl⟩ := h
  have ha : a = [ρ 0, ρ 1, ρ 2, ρ 3, ρ 4, ρ 5, ρ 6, ρ 7, ρ 8, ρ 9, ρ 10, ρ 11, ρ 12, ρ 13, ρ 14, ρ 15] := ha
  subst ha
  subst hg
  obtain ⟨-, -, -, -, -, -, -, -, -, -, -, -, -, -, -, -, -, r17, -, -, -, -, r22, -⟩ := hr
  have r17 : (33 : Int) ≤ ρ 17 ∧ ρ 17 ≤ 33 := r17
  have r22 : (40 : Int) ≤ ρ 22 ∧ ρ 22 ≤ 40 := r22
  obtain ⟨-, -, f2, -, -, -, -, -, -, -, -, -, -, -, -, -, f16, -⟩ := hf
  have f2 : (0 : Int) ≤ -ρ 21 + ρ 2 + (-1) := f2
  have f16 : (0 : Int) ≤ -ρ 16 + ρ 2 + (-1) := f16
  obtain ⟨w_0, w_1, w_2, w_3⟩ : (0 ≤ -ρ 16 + ρ 2 + (-1)) ∧ (¬ (ρ 17 ≠ 33)) ∧ (0 ≤ -ρ 21 + ρ 2 + (-1)) ∧ (¬ (ρ 22 ≠ 40)) := ⟨by omega, by omega, by omega, by omega⟩
  obtain ⟨-, m1, -, -, -, m5, m6, -, -, -, -, -, -, -, m14, m15, -, -, -, -, m20, -⟩ := hm
  have m1 : γ 0 15 0 34 = ρ 2 := m1
  have m5 : γ 0 15 0 44 = ρ 6 := m5
  have m6 : γ 0 73 0 (ρ 6) = ρ 7 := m6
  have m14 : γ 0 15 0 45 = ρ 15 := m14
  have m15 : γ 1 15 0 35 = ρ 16 := m15
  have m20 : γ 7 15 0 35 = ρ 21 := m20
  obtain ⟨⟨⟨⟨⟨⟨⟨-, c3⟩, -⟩, c5⟩, -⟩, -⟩, -⟩, -⟩ := hc
  have c3 : γ 3 = rUp (γ 2) 79 0 (ρ 7 + 8 * ρ 6) (ρ 15) := c3
  have c5 : γ 5 = rUp (γ 4) 15 0 35 (ρ 16 + 1) := c5
  obtain ⟨l0, l1, l2, l3, l4, l5, l6, -⟩ := hl
  have l0 : sn7 [ρ 1, ρ 2] (γ 0) 0 0 (γ 1) := hS7 _ _ _ _ _ l0
  have l1 : sn33 [ρ 6, ρ 7] (γ 1) 0 (ρ 7 + 8 * ρ 6) (γ 2) := hS33 _ _ _ _ _ l1
  have l2 : sn6 [ρ 16, ρ 2] (γ 3) 0 (ρ 17) (γ 4) := hS6 _ _ _ _ _ l2
  have l3 : sn23 [ρ 16 + 1, ρ 2, ρ 11, ρ 12, ρ 13] (γ 5) 0 1 (γ 6) := hS23 _ _ _ _ _ l3
  have l4 : sn7 [ρ 18, ρ 2] (γ 6) 0 0 (γ 7) := hS7 _ _ _ _ _ l4
  have l5 : sn6 [ρ 21, ρ 2] (γ 7) 0 (ρ 22) (γ 8) := hS6 _ _ _ _ _ l5
  have l6 : sn36 [1, ρ 0, ρ 21, ρ 2, ρ 3, ρ 4, ρ 5, ρ 19, ρ 20, ρ 6, ρ 7, ρ 8, ρ 9, ρ 10, ρ 11, ρ 14, ρ 15] (γ 8) 0 0 (γ 9) := hS36 _ _ _ _ _ l6
  show sn37 [ρ 0, ρ 1, ρ 2, ρ 3, ρ 4, ρ 5, ρ 6, ρ 7, ρ 8, ρ 9, ρ 10, ρ 11, ρ 12, ρ 13, ρ 14, ρ 15] (γ 0) 0 0 (γ 9)
  refine Eq.symm ?_
  show fn37 [ρ 0] (γ 0) = _
  unfold fn37
  refine (zLet_eq (show _ = ρ 0 from rfl)).trans ?_
  refine (zLet_eq m1).trans ?_
  refine (zLet_eq m5).trans ?_
  refine (zLet_eq m6).trans ?_
  refine (zLet_eq m14).trans ?_
  refine (zLet_eq (show fn7 [] (γ 0) = (0, 0, γ 1) from l0.symm)).trans ?_
  refine (zLet_eq (show _ = γ 1 from rfl)).trans ?_
  refine (zLet_eq m15).trans ?_
  refine (zLet_eq (show fn33 [] (γ 1) = (0, ρ 7 + 8 * ρ 6, γ 2) from l1.symm)).trans ?_
  refine (zLet_eq (show _ = γ 2 from rfl)).trans ?_
  refine (zLet_eq c3.symm).trans ?_
  refine (zLet_eq (show fn6 [ρ 16] (γ 3) = (0, ρ 17, γ 4) from l2.symm)).trans ?_
  refine (zLet_eq (show _ = γ 4 from rfl)).trans ?_
  refine (if_pos w_0).trans ?_
  refine (zLet_eq (show _ = ρ 17 from rfl)).trans ?_
  refine (if_neg w_1).trans ?_
  refine (zLet_eq c5.symm).trans ?_
  refine (zLet_eq (show fn23 [] (γ 5) = (0, 1, γ 6) from l3.symm)).trans ?_
  refine (zLet_eq (show _ = γ 6 from rfl)).trans ?_
  refine (if_pos zQ1_).trans ?_
  refine (zLet_eq (show fn7 [] (γ 6) = (0, 0, γ 7) from l4.symm)).trans ?_
  refine (zLet_eq (show _ = γ 7 from rfl)).trans ?_
  refine (zLet_eq m20).trans ?_
  refine (zLet_eq (show fn6 [ρ 21] (γ 7) = (0, ρ 22, γ 8) from l5.symm)).trans ?_
  refine (zLet_eq (show _ = γ 8 from rfl)).trans ?_
  refine (if_pos w_2).trans ?_
  refine (zLet_eq (show _ = ρ 22 from rfl)).trans ?_
  refine (if_neg w_3).trans ?_
  refine (zLet_eq (show fn36 [1, ρ 0] (γ 8) = (0, 0, γ 9) from l6.symm)).trans ?_
  refine (zLet_eq (show _ = γ 9 from rfl)).trans ?_
  refine (if_neg zQ0_).trans ?_
  rfl
theorem vn37_27 {S : Nat → zSpc} (hS6 : ∀ x g o v gz, S 6 x g o v gz → sn6 x g o v gz) (hS7 : ∀ x g o v gz, S 7 x g o v gz → sn7 x g o v gz) (hS8 : ∀ x g o v gz, S 8 x g o v gz → sn8 x g o v gz) (hS9 : ∀ x g o v gz, S 9 x g o v gz → sn9 x g o v gz) (hS12 : ∀ x g o v gz, S 12 x g o v gz → sn12 x g o v gz) (hS13 : ∀ x g o v gz, S 13 x g o v gz → sn13 x g o v gz) (hS15 : ∀ x g o v gz, S 15 x g o v gz → sn15 x g o v gz) (hS18 : ∀ x g o v gz, S 18 x g o v gz → sn18 x g o v gz) (hS20 : ∀ x g o v gz, S 20 x g o v gz → sn20 x g o v gz) (hS23 : ∀ x g o v gz, S 23 x g o v gz → sn23 x g o v gz) (hS33 : ∀ x g o v gz, S 33 x g o v gz → sn33 x g o v gz) (hS34 : ∀ x g o v gz, S 34 x g o v gz → sn34 x g o v gz) (hS35 : ∀ x g o v gz, S 35 x g o v gz → sn35 x g o v gz) (hS36 : ∀ x g o v gz, S 36 x g o v gz → sn36 x g o v gz) {a : List Int} {g : rHp} : ∀ (ρ : Nat → Int) (γ : Nat → rHp), zO 16 S a g q37_27 ρ γ → zGl (fun _ _ _ => True) (sn37 a g) q37_27 ρ γ := by
  intro ρ γ h
  obtain ⟨ha, hg, hr, hf, hm, hc, hl⟩ := h
  have ha : a = [ρ 0, ρ 1, ρ 2, ρ 3, ρ 4, ρ 5, ρ 6, ρ 7, ρ 8, ρ 9, ρ 10, ρ 11, ρ 12, ρ 13, ρ 14, ρ 15] := ha
  subst ha
  subst hg
  obtain ⟨-, -, -, -, -, -, -, -, -, -, -, -, -, -, -, -, -, r17, -, -, -, -, r22, -⟩ := hr
  have r17 : (33 : Int) ≤ ρ 17 ∧ ρ 17 ≤ 33 := r17
  have r22 : (40 : Int) ≤ ρ 22 ∧ ρ 22 ≤ 40 := r22
  obtain ⟨-, -, f2, -, -, -, -, -, -, -, -, -, -, -, -, -, -, f17, -⟩ := hf
  have f2 : (0 : Int) ≤ -ρ 21 + ρ 2 + (-1) := f2
  have f17 : (0 : Int) ≤ -ρ 16 + ρ 2 + (-1) := f17
  obtain ⟨w_0, w_1, w_2, w_3⟩ : (0 ≤ -ρ 16 + ρ 2 + (-1)) ∧ (¬ (ρ 17 ≠ 33)) ∧ (0 ≤ -ρ 21 + ρ 2 + (-1)) ∧ (¬ (ρ 22 ≠ 40)) := ⟨by omega, by omega, by omega, by omega⟩
  obtain ⟨-, m1, -, -, -, m5, m6, -, -, -, -, -, -, -, m14, m15, -, -, -, -, m20, -⟩ := hm
  have m1 : γ 0 15 0 34 = ρ 2 := m1
  have m5 : γ 0 15 0 44 = ρ 6 := m5
  have m6 : γ 0 73 0 (ρ 6) = ρ 7 := m6
  have m14 : γ 0 15 0 45 = ρ 15 := m14
  have m15 : γ 1 15 0 35 = ρ 16 := m15
  have m20 : γ 7 15 0 35 = ρ 21 := m20
  obtain ⟨⟨⟨⟨⟨⟨⟨-, c3⟩, -⟩, c5⟩, -⟩, -⟩, -⟩, -⟩ := hc
  have c3 : γ 3 = rUp (γ 2) 79 0 (ρ 7 + 8 * ρ 6) (ρ 15) := c3
  have c5 : γ 5 = rUp (γ 4) 15 0 35 (ρ 16 + 1) := c5
  obtain ⟨l0, l1, l2, l3, l4, l5, l6, -⟩ := hl
  have l0 : sn7 [ρ 1, ρ 2] (γ 0) 0 0 (γ 1) := hS7 _ _ _ _ _ l0
  have l1 : sn33 [ρ 6, ρ 7] (γ 1) 0 (ρ 7 + 8 * ρ 6) (γ 2) := hS33 _ _ _ _ _ l1
  have l2 : sn6 [ρ 16, ρ 2] (γ 3) 0 (ρ 17) (γ 4) := hS6 _ _ _ _ _ l2
  have l3 : sn23 [ρ 16 + 1, ρ 2, ρ 11, ρ 12, ρ 13] (γ 5) 0 1 (γ 6) := hS23 _ _ _ _ _ l3
  have l4 : sn7 [ρ 18, ρ 2] (γ 6) 0 0 (γ 7) := hS7 _ _ _ _ _ l4
  have l5 : sn6 [ρ 21, ρ 2] (γ 7) 0 (ρ 22) (γ 8) := hS6 _ _ _ _ _ l5
  have l6 : sn36 [1, ρ 0, ρ 21, ρ 2, ρ 3, ρ 4, ρ 5, ρ 19, ρ 20, ρ 6, ρ 7, ρ 8, ρ 9, ρ 10, ρ 11, ρ 14, ρ 15] (γ 8) 0 1 (γ 9) := hS36 _ _ _ _ _ l6
  show sn37 [ρ 0, ρ 1, ρ 2, ρ 3, ρ 4, ρ 5, ρ 6, ρ 7, ρ 8, ρ 9, ρ 10, ρ 11, ρ 12, ρ 13, ρ 14, ρ 15] (γ 0) 0 1 (γ 9)
  refine Eq.symm ?_
  show fn37 [ρ 0] (γ 0) = _
  unfold fn37
  refine (zLet_eq (show _ = ρ 0 from rfl)).trans ?_
  refine (zLet_eq m1).trans ?_
  refine (zLet_eq m5).trans ?_
  refine (zLet_eq m6).trans ?_
  refine (zLet_eq m14).trans ?_
  refine (zLet_eq (show fn7 [] (γ 0) = (0, 0, γ 1) from l0.symm)).trans ?_
  refine (zLet_eq (show _ = γ 1 from rfl)).trans ?_
  refine (zLet_eq m15).trans ?_
  refine (zLet_eq (show fn33 [] (γ 1) = (0, ρ 7 + 8 * ρ 6, γ 2) from l1.symm)).trans ?_
  refine (zLet_eq (show _ = γ 2 from rfl)).trans ?_
  refine (zLet_eq c3.symm).trans ?_
  refine (zLet_eq (show fn6 [ρ 16] (γ 3) = (0, ρ 17, γ 4) from l2.symm)).trans ?_
  refine (zLet_eq (show _ = γ 4 from rfl)).trans ?_
  refine (if_pos w_0).trans ?_
  refine (zLet_eq (show _ = ρ 17 from rfl)).trans ?_
  refine (if_neg w_1).trans ?_
  refine (zLet_eq c5.symm).trans ?_
  refine (zLet_eq (show fn23 [] (γ 5) = (0, 1, γ 6) from l3.symm)).trans ?_
  refine (zLet_eq (show _ = γ 6 from rfl)).trans ?_
  refine (if_pos zQ1_).trans ?_
  refine (zLet_eq (show fn7 [] (γ 6) = (0, 0, γ 7) from l4.symm)).trans ?_
  refine (zLet_eq (show _ = γ 7 from rfl)).trans ?_
  refine (zLet_eq m20).trans ?_
  refine (zLet_eq (show fn6 [ρ 21] (γ 7) = (0, ρ 22, γ 8) from l5.symm)).trans ?_
  refine (zLet_eq (show _ = γ 8 from rfl)).trans ?_
  refine (if_pos w_2).trans ?_
  refine (zLet_eq (show _ = ρ 22 from rfl)).trans ?_
  refine (if_neg w_3).trans ?_
  refine (zLet_eq (show fn36 [1, ρ 0] (γ 8) = (0, 1, γ 9) from l6.symm)).trans ?_
  refine (zLet_eq (show _ = γ 9 from rfl)).trans ?_
  refine (if_pos zQ1_).trans ?_
  rfl
theorem vn37_28 {S : Nat → zSpc} (hS6 : ∀ x g o v gz, S 6 x g o v gz → sn6 x g o v gz) (hS7 : ∀ x g o v gz, S 7 x g o v gz → sn7 x g o v gz) (hS8 : ∀ x g o v gz, S 8 x g o v gz → sn8 x g o v gz) (hS9 : ∀ x g o v gz, S 9 x g o v gz → sn9 x g o v gz) (hS12 : ∀ x g o v gz, S 12 x g o v gz → sn12 x g o v gz) (hS13 : ∀ x g o v gz, S 13 x g o v gz → sn13 x g o v gz) (hS15 : ∀ x g o v gz, S 15 x g o v gz → sn15 x g o v gz) (hS18 : ∀ x g o v gz, S 18 x g o v gz → sn18 x g o v gz) (hS20 : ∀ x g o v gz, S 20 x g o v gz → sn20 x g o v gz) (hS23 : ∀ x g o v gz, S 23 x g o v gz → sn23 x g o v gz) (hS33 : ∀ x g o v gz, S 33 x g o v gz → sn33 x g o v gz) (hS34 : ∀ x g o v gz, S 34 x g o v gz → sn34 x g o v gz) (hS35 : ∀ x g o v gz, S 35 x g o v gz → sn35 x g o v gz) (hS36 : ∀ x g o v gz, S 36 x g o v gz → sn36 x g o v gz) {a : List Int} {g : rHp} : ∀ (ρ : Nat → Int) (γ : Nat → rHp), zO 16 S a g q37_28 ρ γ → zGl (fun _ _ _ => True) (sn37 a g) q37_28 ρ γ := by
  intro ρ γ h
  obtain ⟨ha, hg, hr, hf, hm, hc, hl⟩ := h
  have ha : a = [ρ 0, ρ 1, ρ 2, ρ 3, ρ 4, ρ 5, ρ 6, ρ 7, ρ 8, ρ 9, ρ 10, ρ 11, ρ 12, ρ 13, ρ 14, ρ 15] := ha
  subst ha
  subst hg
  obtain ⟨-, -, -, -, -, -, -, -, -, -, -, -, -, -, -, -, -, r17, -⟩ := hr
  have r17 : (33 : Int) ≤ ρ 17 ∧ ρ 17 ≤ 33 := r17
  obtain ⟨-, -, f2, -, -, -, f6, -⟩ := hf
  have f2 : (0 : Int) ≤ ρ 21 + -ρ 2 := f2
  have f6 : (0 : Int) ≤ -ρ 16 + ρ 2 + (-1) := f6
  obtain ⟨w_0, w_1, w_2⟩ : (0 ≤ -ρ 16 + ρ 2 + (-1)) ∧ (¬ (ρ 17 ≠ 33)) ∧ (¬ (0 ≤ -ρ 21 + ρ 2 + (-1))) := ⟨by omega, by omega, by omega⟩
  obtain ⟨-, m1, -, -, -, m5, m6, -, -, -, -, -, -, -, m14, m15, -, -, -, -, m20, -⟩ := hm
  have m1 : γ 0 15 0 34 = ρ 2 := m1
  have m5 : γ 0 15 0 44 = ρ 6 := m5
  have m6 : γ 0 73 0 (ρ 6) = ρ 7 := m6
  have m14 : γ 0 15 0 45 = ρ 15 := m14
  have m15 : γ 1 15 0 35 = ρ 16 := m15
  have m20 : γ 7 15 0 35 = ρ 21 := m20
  obtain ⟨⟨⟨⟨⟨⟨⟨-, c3⟩, -⟩, c5⟩, -⟩, -⟩, -⟩, -⟩ := hc
  have c3 : γ 3 = rUp (γ 2) 79 0 (ρ 7 + 8 * ρ 6) (ρ 15) := c3
  have c5 : γ 5 = rUp (γ 4) 15 0 35 (ρ 16 + 1) := c5
  obtain ⟨l0, l1, l2, l3, l4, l5, l6, -⟩ := hl
  have l0 : sn7 [ρ 1, ρ 2] (γ 0) 0 0 (γ 1) := hS7 _ _ _ _ _ l0
  have l1 : sn33 [ρ 6, ρ 7] (γ 1) 0 (ρ 7 + 8 * ρ 6) (γ 2) := hS33 _ _ _ _ _ l1
  have l2 : sn6 [ρ 16, ρ 2] (γ 3) 0 (ρ 17) (γ 4) := hS6 _ _ _ _ _ l2
  have l3 : sn23 [ρ 16 + 1, ρ 2, ρ 11, ρ 12, ρ 13] (γ 5) 0 1 (γ 6) := hS23 _ _ _ _ _ l3
  have l4 : sn7 [ρ 18, ρ 2] (γ 6) 0 0 (γ 7) := hS7 _ _ _ _ _ l4
  have l5 : sn6 [ρ 21, ρ 2] (γ 7) 0 (-1) (γ 8) := hS6 _ _ _ _ _ l5
  have l6 : sn8 [ρ 21, ρ 2, ρ 11] (γ 8) 0 0 (γ 9) := hS8 _ _ _ _ _ l6
  show sn37 [ρ 0, ρ 1, ρ 2, ρ 3, ρ 4, ρ 5, ρ 6, ρ 7, ρ 8, ρ 9, ρ 10, ρ 11, ρ 12, ρ 13, ρ 14, ρ 15] (γ 0) 0 0 (γ 9)
  refine Eq.symm ?_
  show fn37 [ρ 0] (γ 0) = _
  unfold fn37
  refine (zLet_eq (show _ = ρ 0 from rfl)).trans ?_
  refine (zLet_eq m1).trans ?_
  refine (zLet_eq m5).trans ?_
  refine (zLet_eq m6).trans ?_
  refine (zLet_eq m14).trans ?_
  refine (zLet_eq (show fn7 [] (γ 0) = (0, 0, γ 1) from l0.symm)).trans ?_
  refine (zLet_eq (show _ = γ 1 from rfl)).trans ?_
  refine (zLet_eq m15).trans ?_
  refine (zLet_eq (show fn33 [] (γ 1) = (0, ρ 7 + 8 * ρ 6, γ 2) from l1.symm)).trans ?_
  refine (zLet_eq (show _ = γ 2 from rfl)).trans ?_
  refine (zLet_eq c3.symm).trans ?_
  refine (zLet_eq (show fn6 [ρ 16] (γ 3) = (0, ρ 17, γ 4) from l2.symm)).trans ?_
  refine (zLet_eq (show _ = γ 4 from rfl)).trans ?_
  refine (if_pos w_0).trans ?_
  refine (zLet_eq (show _ = ρ 17 from rfl)).trans ?_
  refine (if_neg w_1).trans ?_
  refine (zLet_eq c5.symm).trans ?_
  refine (zLet_eq (show fn23 [] (γ 5) = (0, 1, γ 6) from l3.symm)).trans ?_
  refine (zLet_eq (show _ = γ 6 from rfl)).trans ?_
  refine (if_pos zQ1_).trans ?_
  refine (zLet_eq (show fn7 [] (γ 6) = (0, 0, γ 7) from l4.symm)).trans ?_
  refine (zLet_eq (show _ = γ 7 from rfl)).trans ?_
  refine (zLet_eq m20).trans ?_
  refine (zLet_eq (show fn6 [ρ 21] (γ 7) = (0, (-1), γ 8) from l5.symm)).trans ?_
  refine (zLet_eq (show _ = γ 8 from rfl)).trans ?_
  refine (if_neg w_2).trans ?_
  refine (zLet_eq (show fn8 [ρ 21] (γ 8) = (0, 0, γ 9) from l6.symm)).trans ?_
  refine (zLet_eq (show _ = γ 9 from rfl)).trans ?_
  rfl
theorem vn37_29 {S : Nat → zSpc} (hS6 : ∀ x g o v gz, S 6 x g o v gz → sn6 x g o v gz) (hS7 : ∀ x g o v gz, S 7 x g o v gz → sn7 x g o v gz) (hS8 : ∀ x g o v gz, S 8 x g o v gz → sn8 x g o v gz) (hS9 : ∀ x g o v gz, S 9 x g o v gz → sn9 x g o v gz) (hS12 : ∀ x g o v gz, S 12 x g o v gz → sn12 x g o v gz) (hS13 : ∀ x g o v gz, S 13 x g o v gz → sn13 x g o v gz) (hS15 : ∀ x g o v gz, S 15 x g o v gz → sn15 x g o v gz) (hS18 : ∀ x g o v gz, S 18 x g o v gz → sn18 x g o v gz) (hS20 : ∀ x g o v gz, S 20 x g o v gz → sn20 x g o v gz) (hS23 : ∀ x g o v gz, S 23 x g o v gz → sn23 x g o v gz) (hS33 : ∀ x g o v gz, S 33 x g o v gz → sn33 x g o v gz) (hS34 : ∀ x g o v gz, S 34 x g o v gz → sn34 x g o v gz) (hS35 : ∀ x g o v gz, S 35 x g o v gz → sn35 x g o v gz) (hS36 : ∀ x g o v gz, S 36 x g o v gz → sn36 x g o v gz) {a : List Int} {g : rHp} : ∀ (ρ : Nat → Int) (γ : Nat → rHp), zO 16 S a g q37_29 ρ γ → zGl (fun _ _ _ => True) (sn37 a g) q37_29 ρ γ := by
  intro ρ γ h
  obtain ⟨ha, hg, hr, hf, hm, hc, hl⟩ := h
  have ha : a = [ρ 0, ρ 1, ρ 2, ρ 3, ρ 4, ρ 5, ρ 6, ρ 7, ρ 8, ρ 9, ρ 10, ρ 11, ρ 12, ρ 13, ρ 14, ρ 15] := ha
  subst ha
  subst hg
  obtain ⟨-, -, -, -, -, -, f6, -⟩ := hf
  have f6 : (0 : Int) ≤ ρ 16 + -ρ 2 := f6
  have w_0 : ¬ (0 ≤ -ρ 16 + ρ 2 + (-1)) := by omega
  obtain ⟨-, m1, -, -, -, m5, m6, -, -, -, -, -, -, -, m14, m15, -⟩ := hm
  have m1 : γ 0 15 0 34 = ρ 2 := m1
  have m5 : γ 0 15 0 44 = ρ 6 := m5
  have m6 : γ 0 73 0 (ρ 6) = ρ 7 := m6
  have m14 : γ 0 15 0 45 = ρ 15 := m14
  have m15 : γ 1 15 0 35 = ρ 16 := m15
  obtain ⟨⟨⟨⟨-, c3⟩, -⟩, -⟩, -⟩ := hc
  have c3 : γ 3 = rUp (γ 2) 79 0 (ρ 7 + 8 * ρ 6) (ρ 15) := c3
  obtain ⟨l0, l1, l2, l3, l4, -⟩ := hl
  have l0 : sn7 [ρ 1, ρ 2] (γ 0) 0 0 (γ 1) := hS7 _ _ _ _ _ l0
  have l1 : sn33 [ρ 6, ρ 7] (γ 1) 0 (ρ 7 + 8 * ρ 6) (γ 2) := hS33 _ _ _ _ _ l1
  have l2 : sn6 [ρ 16, ρ 2] (γ 3) 0 (-1) (γ 4) := hS6 _ _ _ _ _ l2
  have l3 : sn9 [(-1)] (γ 4) 0 0 (γ 5) := hS9 _ _ _ _ _ l3
  have l4 : sn20 [0, ρ 16, ρ 2, ρ 3, ρ 4, ρ 17, ρ 14, ρ 11, ρ 12, ρ 13, ρ 6] (γ 5) 0 0 (γ 6) := hS20 _ _ _ _ _ l4
  show sn37 [ρ 0, ρ 1, ρ 2, ρ 3, ρ 4, ρ 5, ρ 6, ρ 7, ρ 8, ρ 9, ρ 10, ρ 11, ρ 12, ρ 13, ρ 14, ρ 15] (γ 0) 0 0 (γ 6)
  refine Eq.symm ?_
  show fn37 [ρ 0] (γ 0) = _
  unfold fn37
  refine (zLet_eq (show _ = ρ 0 from rfl)).trans ?_
  refine (zLet_eq m1).trans ?_
  refine (zLet_eq m5).trans ?_
  refine (zLet_eq m6).trans ?_
  refine (zLet_eq m14).trans ?_
  refine (zLet_eq (show fn7 [] (γ 0) = (0, 0, γ 1) from l0.symm)).trans ?_
  refine (zLet_eq (show _ = γ 1 from rfl)).trans ?_
  refine (zLet_eq m15).trans ?_
  refine (zLet_eq (show fn33 [] (γ 1) = (0, ρ 7 + 8 * ρ 6, γ 2) from l1.symm)).trans ?_
  refine (zLet_eq (show _ = γ 2 from rfl)).trans ?_
  refine (zLet_eq c3.symm).trans ?_
  refine (zLet_eq (show fn6 [ρ 16] (γ 3) = (0, (-1), γ 4) from l2.symm)).trans ?_
  refine (zLet_eq (show _ = γ 4 from rfl)).trans ?_
  refine (if_neg w_0).trans ?_
  refine (zLet_eq (show fn9 [(-1)] (γ 4) = (0, 0, γ 5) from l3.symm)).trans ?_
  refine (zLet_eq (show _ = γ 5 from rfl)).trans ?_
  refine (zLet_eq (show fn20 [0] (γ 5) = (0, 0, γ 6) from l4.symm)).trans ?_
  refine (zLet_eq (show _ = γ 6 from rfl)).trans ?_
  rfl
theorem yn37 {S : Nat → zSpc} (hS6 : ∀ x g o v gz, S 6 x g o v gz → sn6 x g o v gz) (hS7 : ∀ x g o v gz, S 7 x g o v gz → sn7 x g o v gz) (hS8 : ∀ x g o v gz, S 8 x g o v gz → sn8 x g o v gz) (hS9 : ∀ x g o v gz, S 9 x g o v gz → sn9 x g o v gz) (hS12 : ∀ x g o v gz, S 12 x g o v gz → sn12 x g o v gz) (hS13 : ∀ x g o v gz, S 13 x g o v gz → sn13 x g o v gz) (hS15 : ∀ x g o v gz, S 15 x g o v gz → sn15 x g o v gz) (hS18 : ∀ x g o v gz, S 18 x g o v gz → sn18 x g o v gz) (hS20 : ∀ x g o v gz, S 20 x g o v gz → sn20 x g o v gz) (hS23 : ∀ x g o v gz, S 23 x g o v gz → sn23 x g o v gz) (hS33 : ∀ x g o v gz, S 33 x g o v gz → sn33 x g o v gz) (hS34 : ∀ x g o v gz, S 34 x g o v gz → sn34 x g o v gz) (hS35 : ∀ x g o v gz, S 35 x g o v gz → sn35 x g o v gz) (hS36 : ∀ x g o v gz, S 36 x g o v gz → sn36 x g o v gz) : ∀ x g o v gz, zSem uW uT w37_.2.2.2.1 w37_.2.2.1.1.length S q37 (fun i => q37a.getD i []) (zNA a37_) x g o v gz → sn37 x g o v gz := by
  intro a g o v gz h
  exact zSem_all (l0 := q37) (las := q37a) (S := S) (J := (fun _ _ _ => True)) (P := sn37 a g) (fun _ => (show zAll _ [q37_0, q37_1, q37_2, q37_3, q37_4, q37_5, q37_6, q37_7, q37_8, q37_9, q37_10, q37_11, q37_12, q37_13, q37_14, q37_15, q37_16, q37_17, q37_18, q37_19, q37_20, q37_21, q37_22, q37_23, q37_24, q37_25, q37_26, q37_27, q37_28, q37_29] from (zAll_c (vn37_0 hS6 hS7 hS8 hS9 hS12 hS13 hS15 hS18 hS20 hS23 hS33 hS34 hS35 hS36) (zAll_c (vn37_1 hS6 hS7 hS8 hS9 hS12 hS13 hS15 hS18 hS20 hS23 hS33 hS34 hS35 hS36) (zAll_c (vn37_2 hS6 hS7 hS8 hS9 hS12 hS13 hS15 hS18 hS20 hS23 hS33 hS34 hS35 hS36) (zAll_c (vn37_3 hS6 hS7 hS8 hS9 hS12 hS13 hS15 hS18 hS20 hS23 hS33 hS34 hS35 hS36) (zAll_c (vn37_4 hS6 hS7 hS8 hS9 hS12 hS13 hS15 hS18 hS20 hS23 hS33 hS34 hS35 hS36) (zAll_c (vn37_5 hS6 hS7 hS8 hS9 hS12 hS13 hS15 hS18 hS20 hS23 hS33 hS34 hS35 hS36) (zAll_c (vn37_6 hS6 hS7 hS8 hS9 hS12 hS13 hS15 hS18 hS20 hS23 hS33 hS34 hS35 hS36) (zAll_c (vn37_7 hS6 hS7 hS8 hS9 hS12 hS13 hS15 hS18 hS20 hS23 hS33 hS34 hS35 hS36) (zAll_c (vn37_8 hS6 hS7 hS8 hS9 hS12 hS13 hS15 hS18 hS20 hS23 hS33 hS34 hS35 hS36) (zAll_c (vn37_9 hS6 hS7 hS8 hS9 hS12 hS13 hS15 hS18 hS20 hS23 hS33 hS34 hS35 hS36) (zAll_c (vn37_10 hS6 hS7 hS8 hS9 hS12 hS13 hS15 hS18 hS20 hS23 hS33 hS34 hS35 hS36) (zAll_c (vn37_11 hS6 hS7 hS8 hS9 hS12 hS13 hS15 hS18 hS20 hS23 hS33 hS34 hS35 hS36) (zAll_c (vn37_12 hS6 hS7 hS8 hS9 hS12 hS13 hS15 hS18 hS20 hS23 hS33 hS34 hS35 hS36) (zAll_c (vn37_13 hS6 hS7 hS8 hS9 hS12 hS13 hS15 hS18 hS20 hS23 hS33 hS34 hS35 hS36) (zAll_c (vn37_14 hS6 hS7 hS8 hS9 hS12 hS13 hS15 hS18 hS20 hS23 hS33 hS34 hS35 hS36) (zAll_c (vn37_15 hS6 hS7 hS8 hS9 hS12 hS13 hS15 hS18 hS20 hS23 hS33 hS34 hS35 hS36) (zAll_c (vn37_16 hS6 hS7 hS8 hS9 hS12 hS13 hS15 hS18 hS20 hS23 hS33 hS34 hS35 hS36) (zAll_c (vn37_17 hS6 hS7 hS8 hS9 hS12 hS13 hS15 hS18 hS20 hS23 hS33 hS34 hS35 hS36) (zAll_c (vn37_18 hS6 hS7 hS8 hS9 hS12 hS13 hS15 hS18 hS20 hS23 hS33 hS34 hS35 hS36) (zAll_c (vn37_19 hS6 hS7 hS8 hS9 hS12 hS13 hS15 hS18 hS20 hS23 hS33 hS34 hS35 hS36) (zAll_c (vn37_20 hS6 hS7 hS8 hS9 hS12 hS13 hS15 hS18 hS20 hS23 hS33 hS34 hS35 hS36) (zAll_c (vn37_21 hS6 hS7 hS8 hS9 hS12 hS13 hS15 hS18 hS20 hS23 hS33 hS34 hS35 hS36) (zAll_c (vn37_22 hS6 hS7 hS8 hS9 hS12 hS13 hS15 hS18 hS20 hS23 hS33 hS34 hS35 hS36) (zAll_c (vn37_23 hS6 hS7 hS8 hS9 hS12 hS13 hS15 hS18 hS20 hS23 hS33 hS34 hS35 hS36) (zAll_c (vn37_24 hS6 hS7 hS8 hS9 hS12 hS13 hS15 hS18 hS20 hS23 hS33 hS34 hS35 hS36) (zAll_c (vn37_25 hS6 hS7 hS8 hS9 hS12 hS13 hS15 hS18 hS20 hS23 hS33 hS34 hS35 hS36) (zAll_c (vn37_26 hS6 hS7 hS8 hS9 hS12 hS13 hS15 hS18 hS20 hS23 hS33 hS34 hS35 hS36) (zAll_c (vn37_27 hS6 hS7 hS8 hS9 hS12 hS13 hS15 hS18 hS20 hS23 hS33 hS34 hS35 hS36) (zAll_c (vn37_28 hS6 hS7 hS8 hS9 hS12 hS13 hS15 hS18 hS20 hS23 hS33 hS34 hS35 hS36) (zAll_c (vn37_29 hS6 hS7 hS8 hS9 hS12 hS13 hS15 hS18 hS20 hS23 hS33 hS34 hS35 hS36) zAll_n)))))))))))))))))))))))))))))))) (fun _ => (show zAllI _ 0 [] from trivial)) h
