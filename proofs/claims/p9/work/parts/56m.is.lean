/-! ===== the runs are the functions ===== -/
theorem vn144_0 {S : Nat → zSpc} (hS102 : ∀ x g o v gz, S 102 x g o v gz → sn102 x g o v gz) (hS109 : ∀ x g o v gz, S 109 x g o v gz → sn109 x g o v gz) (hS114 : ∀ x g o v gz, S 114 x g o v gz → sn114 x g o v gz) (hS133 : ∀ x g o v gz, S 133 x g o v gz → sn133 x g o v gz) (hS141 : ∀ x g o v gz, S 141 x g o v gz → sn141 x g o v gz) (hS143 : ∀ x g o v gz, S 143 x g o v gz → sn143 x g o v gz) {a : List Int} {g : rHp} : ∀ (ρ : Nat → Int) (γ : Nat → rHp), zO 22 S a g q144_0 ρ γ → zGl (fun i vs g1 => jn144 a g i vs g1) (sn144 a g) q144_0 ρ γ := by
  intro ρ γ h
  obtain ⟨ha, hg, hr, hf, hm, hc, hl⟩ := h
  have ha : a = [ρ 0, ρ 1, ρ 2, ρ 3, ρ 4, ρ 5, ρ 6, ρ 7, ρ 8, ρ 9, ρ 10, ρ 11, ρ 12, ρ 13, ρ 14, ρ 15, ρ 16, ρ 17, ρ 18, ρ 19, ρ 20, ρ 21] := ha
  subst ha
  subst hg
  obtain ⟨-, -, -, -, -, -, -, -, -, -, -, -, -, -, m14, -, -, -, -, -, -, -, m22, -, -, -, -, -, -, m29, -⟩ := hm
  have m14 : γ 0 2 0 9 = ρ 14 := m14
  have m22 : γ 0 2 0 8 = ρ 22 := m22
  have m29 : γ 2 2 0 6 = ρ 23 := m29
  obtain ⟨l0, l1, l2, -⟩ := hl
  have l0 : sn102 [ρ 22, ρ 14, ρ 0, ρ 1, ρ 2, ρ 8, ρ 5, ρ 18, ρ 10, ρ 19, ρ 6] (γ 0) 0 0 (γ 1) := hS102 _ _ _ _ _ l0
  have l1 : sn114 [ρ 3, ρ 4] (γ 1) 0 (-1) (γ 2) := hS114 _ _ _ _ _ l1
  have l2 : sn109 [ρ 23, ρ 12] (γ 2) 0 0 (γ 3) := hS109 _ _ _ _ _ l2
  show sn144 [ρ 0, ρ 1, ρ 2, ρ 3, ρ 4, ρ 5, ρ 6, ρ 7, ρ 8, ρ 9, ρ 10, ρ 11, ρ 12, ρ 13, ρ 14, ρ 15, ρ 16, ρ 17, ρ 18, ρ 19, ρ 20, ρ 21] (γ 0) 0 0 (γ 3)
  have hD : dn144 [] (γ 0) = .inr (0, 0, γ 3) := by
    unfold dn144
    refine (zLet_eq m14).trans ?_
    refine (zLet_eq m22).trans ?_
    refine (zLet_eq (show fn102 [ρ 22, ρ 14] (γ 0) = (0, 0, γ 1) from l0.symm)).trans ?_
    refine (zLet_eq (show _ = γ 1 from rfl)).trans ?_
    refine (zLet_eq (show fn114 [] (γ 1) = (0, (-1), γ 2) from l1.symm)).trans ?_
    refine (zLet_eq (show _ = γ 2 from rfl)).trans ?_
    refine (if_neg zQ2_).trans ?_
    refine (zLet_eq m29).trans ?_
    refine (zLet_eq (show fn109 [ρ 23] (γ 2) = (0, 0, γ 3) from l2.symm)).trans ?_
    refine (zLet_eq (show _ = γ 3 from rfl)).trans ?_
    rfl
  exact zGoo_end hD
theorem vn144_1 {S : Nat → zSpc} (hS102 : ∀ x g o v gz, S 102 x g o v gz → sn102 x g o v gz) (hS109 : ∀ x g o v gz, S 109 x g o v gz → sn109 x g o v gz) (hS114 : ∀ x g o v gz, S 114 x g o v gz → sn114 x g o v gz) (hS133 : ∀ x g o v gz, S 133 x g o v gz → sn133 x g o v gz) (hS141 : ∀ x g o v gz, S 141 x g o v gz → sn141 x g o v gz) (hS143 : ∀ x g o v gz, S 143 x g o v gz → sn143 x g o v gz) {a : List Int} {g : rHp} : ∀ (ρ : Nat → Int) (γ : Nat → rHp), zO 22 S a g q144_1 ρ γ → zGl (fun i vs g1 => jn144 a g i vs g1) (sn144 a g) q144_1 ρ γ := by
  intro ρ γ h
  obtain ⟨ha, hg, hr, hf, hm, hc, hl⟩ := h
  have ha : a = [ρ 0, ρ 1, ρ 2, ρ 3, ρ 4, ρ 5, ρ 6, ρ 7, ρ 8, ρ 9, ρ 10, ρ 11, ρ 12, ρ 13, ρ 14, ρ 15, ρ 16, ρ 17, ρ 18, ρ 19, ρ 20, ρ 21] := ha
  subst ha
  subst hg
  obtain ⟨-, -, -, -, -, -, -, -, -, -, -, -, -, -, -, -, -, -, -, -, -, -, -, r23, -⟩ := hr
  have r23 : (40 : Int) ≤ ρ 23 ∧ ρ 23 ≤ 40 := r23
  obtain ⟨w_0, w_1⟩ : ((0 : Int) ≤ ρ 23) ∧ (ρ 23 = 40) := ⟨by omega, by omega⟩
  obtain ⟨-, -, -, -, -, -, -, -, -, -, -, -, -, -, m14, -, -, -, -, -, -, -, m22, -, -, -, -, -, -, m29, -⟩ := hm
  have m14 : γ 0 2 0 9 = ρ 14 := m14
  have m22 : γ 0 2 0 8 = ρ 22 := m22
  have m29 : γ 2 2 0 6 = ρ 24 := m29
  obtain ⟨-, c3⟩ := hc
  have c3 : γ 3 = rUp (γ 2) 2 0 6 (ρ 24 + 1) := c3
  obtain ⟨l0, l1, -⟩ := hl
  have l0 : sn102 [ρ 22, ρ 14, ρ 0, ρ 1, ρ 2, ρ 8, ρ 5, ρ 18, ρ 10, ρ 19, ρ 6] (γ 0) 0 0 (γ 1) := hS102 _ _ _ _ _ l0
  have l1 : sn114 [ρ 3, ρ 4] (γ 1) 0 (ρ 23) (γ 2) := hS114 _ _ _ _ _ l1
  show jn144 [ρ 0, ρ 1, ρ 2, ρ 3, ρ 4, ρ 5, ρ 6, ρ 7, ρ 8, ρ 9, ρ 10, ρ 11, ρ 12, ρ 13, ρ 14, ρ 15, ρ 16, ρ 17, ρ 18, ρ 19, ρ 20, ρ 21] (γ 0) 0 [ρ 0, ρ 1, ρ 2, ρ 3, ρ 4, ρ 5, ρ 6, ρ 7, ρ 8, ρ 9, ρ 10, ρ 11, ρ 12, ρ 13, ρ 14, ρ 15, ρ 16, ρ 17, ρ 18, ρ 19, ρ 20, ρ 21, 0, ρ 24 + 1, 0, 0, ρ 7, 0, (-1), ρ 13, ρ 14, ρ 15, ρ 16, ρ 17, (-1), ρ 20, ρ 21] (γ 3)
  have hD : dn144 [] (γ 0) = .inl (0, [0], γ 3) := by
    unfold dn144
    refine (zLet_eq m14).trans ?_
    refine (zLet_eq m22).trans ?_
    refine (zLet_eq (show fn102 [ρ 22, ρ 14] (γ 0) = (0, 0, γ 1) from l0.symm)).trans ?_
    refine (zLet_eq (show _ = γ 1 from rfl)).trans ?_
    refine (zLet_eq (show fn114 [] (γ 1) = (0, ρ 23, γ 2) from l1.symm)).trans ?_
    refine (zLet_eq (show _ = γ 2 from rfl)).trans ?_
    refine (if_pos w_0).trans ?_
    refine (zLet_eq (show _ = ρ 23 from rfl)).trans ?_
    refine (zLet_eq m29).trans ?_
    refine (if_pos w_1).trans ?_
    refine (zLet_eq c3.symm).trans ?_
    rfl
  exact zGoo_to hD
theorem vn144_2 {S : Nat → zSpc} (hS102 : ∀ x g o v gz, S 102 x g o v gz → sn102 x g o v gz) (hS109 : ∀ x g o v gz, S 109 x g o v gz → sn109 x g o v gz) (hS114 : ∀ x g o v gz, S 114 x g o v gz → sn114 x g o v gz) (hS133 : ∀ x g o v gz, S 133 x g o v gz → sn133 x g o v gz) (hS141 : ∀ x g o v gz, S 141 x g o v gz → sn141 x g o v gz) (hS143 : ∀ x g o v gz, S 143 x g o v gz → sn143 x g o v gz) {a : List Int} {g : rHp} : ∀ (ρ : Nat → Int) (γ : Nat → rHp), zO 22 S a g q144_2 ρ γ → zGl (fun i vs g1 => jn144 a g i vs g1) (sn144 a g) q144_2 ρ γ := by
  intro ρ γ h
  obtain ⟨ha, hg, hr, hf, hm, hc, hl⟩ := h
  have ha : a = [ρ 0, ρ 1, ρ 2, ρ 3, ρ 4, ρ 5, ρ 6, ρ 7, ρ 8, ρ 9, ρ 10, ρ 11, ρ 12, ρ 13, ρ 14, ρ 15, ρ 16, ρ 17, ρ 18, ρ 19, ρ 20, ρ 21] := ha
  subst ha
  subst hg
  obtain ⟨-, -, -, -, -, -, -, -, -, -, -, -, -, -, -, -, -, -, -, -, -, -, -, r23, -⟩ := hr
  have r23 : (0 : Int) ≤ ρ 23 ∧ ρ 23 ≤ 255 := r23
  have w_0 : (0 : Int) ≤ ρ 23 := by omega
  obtain ⟨-, -, -, -, -, -, -, -, -, -, -, -, -, -, m14, -, -, -, -, -, -, -, m22, -, -, -, -, -, -, m29, -⟩ := hm
  have m14 : γ 0 2 0 9 = ρ 14 := m14
  have m22 : γ 0 2 0 8 = ρ 22 := m22
  have m29 : γ 2 2 0 6 = ρ 24 := m29
  obtain ⟨l0, l1, l2, l3, -⟩ := hl
  have l0 : sn102 [ρ 22, ρ 14, ρ 0, ρ 1, ρ 2, ρ 8, ρ 5, ρ 18, ρ 10, ρ 19, ρ 6] (γ 0) 0 0 (γ 1) := hS102 _ _ _ _ _ l0
  have l1 : sn114 [ρ 3, ρ 4] (γ 1) 0 (ρ 23) (γ 2) := hS114 _ _ _ _ _ l1
  have l2 : ρ 23 ≠ 40 := l2
  have l3 : sn109 [ρ 24, ρ 12] (γ 2) 0 0 (γ 3) := hS109 _ _ _ _ _ l3
  have wl_0 : ¬ (ρ 23 = 40) := by omega
  show sn144 [ρ 0, ρ 1, ρ 2, ρ 3, ρ 4, ρ 5, ρ 6, ρ 7, ρ 8, ρ 9, ρ 10, ρ 11, ρ 12, ρ 13, ρ 14, ρ 15, ρ 16, ρ 17, ρ 18, ρ 19, ρ 20, ρ 21] (γ 0) 0 0 (γ 3)
  have hD : dn144 [] (γ 0) = .inr (0, 0, γ 3) := by
    unfold dn144
    refine (zLet_eq m14).trans ?_
    refine (zLet_eq m22).trans ?_
    refine (zLet_eq (show fn102 [ρ 22, ρ 14] (γ 0) = (0, 0, γ 1) from l0.symm)).trans ?_
    refine (zLet_eq (show _ = γ 1 from rfl)).trans ?_
    refine (zLet_eq (show fn114 [] (γ 1) = (0, ρ 23, γ 2) from l1.symm)).trans ?_
    refine (zLet_eq (show _ = γ 2 from rfl)).trans ?_
    refine (if_pos w_0).trans ?_
    refine (zLet_eq (show _ = ρ 23 from rfl)).trans ?_
    refine (zLet_eq m29).trans ?_
    refine (if_neg wl_0).trans ?_
    refine (zLet_eq (show fn109 [ρ 24] (γ 2) = (0, 0, γ 3) from l3.symm)).trans ?_
    refine (zLet_eq (show _ = γ 3 from rfl)).trans ?_
    rfl
  exact zGoo_end hD
theorem vn144a0_0 {S : Nat → zSpc} (hS102 : ∀ x g o v gz, S 102 x g o v gz → sn102 x g o v gz) (hS109 : ∀ x g o v gz, S 109 x g o v gz → sn109 x g o v gz) (hS114 : ∀ x g o v gz, S 114 x g o v gz → sn114 x g o v gz) (hS133 : ∀ x g o v gz, S 133 x g o v gz → sn133 x g o v gz) (hS141 : ∀ x g o v gz, S 141 x g o v gz → sn141 x g o v gz) (hS143 : ∀ x g o v gz, S 143 x g o v gz → sn143 x g o v gz) {a : List Int} {g : rHp} : ∀ (ρ : Nat → Int) (γ : Nat → rHp), jn144 a g 0 (zAg (zNA a144_ 0) ρ) (γ 1) → zO 22 S a g q144a0_0 ρ γ → zGl (fun i vs g1 => jn144 a g i vs g1) (sn144 a g) q144a0_0 ρ γ := by
  intro ρ γ hJ h
  obtain ⟨ha, hg, hr, hf, hm, hc, hl⟩ := h
  have ha : a = [ρ 0, ρ 1, ρ 2, ρ 3, ρ 4, ρ 5, ρ 6, ρ 7, ρ 8, ρ 9, ρ 10, ρ 11, ρ 12, ρ 13, ρ 14, ρ 15, ρ 16, ρ 17, ρ 18, ρ 19, ρ 20, ρ 21] := ha
  subst ha
  subst hg
  have hJ : jn144 [ρ 0, ρ 1, ρ 2, ρ 3, ρ 4, ρ 5, ρ 6, ρ 7, ρ 8, ρ 9, ρ 10, ρ 11, ρ 12, ρ 13, ρ 14, ρ 15, ρ 16, ρ 17, ρ 18, ρ 19, ρ 20, ρ 21] (γ 0) 0 [ρ 0, ρ 1, ρ 2, ρ 3, ρ 4, ρ 5, ρ 6, ρ 7, ρ 8, ρ 9, ρ 10, ρ 11, ρ 12, ρ 13, ρ 14, ρ 15, ρ 16, ρ 17, ρ 18, ρ 19, ρ 20, ρ 21, ρ 22, ρ 23, ρ 24, ρ 25, ρ 26, ρ 27, ρ 28, ρ 29, ρ 30, ρ 31, ρ 32, ρ 33, ρ 34, ρ 35, ρ 36] (γ 1) := hJ
  obtain ⟨-, -, -, -, -, -, -, -, -, -, -, -, -, -, -, -, -, -, -, -, -, -, r22, -⟩ := hr
  have r22 : (4 : Int) ≤ ρ 22 ∧ ρ 22 ≤ 4 := r22
  have w_0 : ρ 22 ≥ 4 := by omega
  obtain ⟨m0, m1, -, -, -, -, -, -, -, -, -, -, -, m13, -, -, -, -, -, -, -, -, -, -, -, -, -, -, -, -, -, -, -, -, -, m35, -, -, m38, -⟩ := hm
  have m0 : γ 0 1 0 10 = ρ 0 := m0
  have m1 : γ 0 40 0 (ρ 0) = ρ 1 := m1
  have m13 : γ 0 2 0 5 = ρ 13 := m13
  have m35 : γ 1 10 (9 * ρ 1) 9 = ρ 34 := m35
  have m38 : γ 2 2 0 6 = ρ 37 := m38
  obtain ⟨l0, l1, -⟩ := hl
  have l0 : sn114 [ρ 23, ρ 4] (γ 1) 0 (-1) (γ 2) := hS114 _ _ _ _ _ l0
  have l1 : sn109 [ρ 37, ρ 12] (γ 2) 0 0 (γ 3) := hS109 _ _ _ _ _ l1
  show sn144 [ρ 0, ρ 1, ρ 2, ρ 3, ρ 4, ρ 5, ρ 6, ρ 7, ρ 8, ρ 9, ρ 10, ρ 11, ρ 12, ρ 13, ρ 14, ρ 15, ρ 16, ρ 17, ρ 18, ρ 19, ρ 20, ρ 21] (γ 0) 0 0 (γ 3)
  have hD : en144 (γ 0) (0, [ρ 22], γ 1) = .inr (0, 0, γ 3) := by
    unfold en144
    refine (if_pos (show (0 : Nat) = 0 by decide)).trans ?_
    refine (zLet_eq (show _ = γ 1 from rfl)).trans ?_
    refine (zLet_eq (show _ = ρ 22 from rfl)).trans ?_
    refine (zLet_eq m0).trans ?_
    refine (zLet_eq m1).trans ?_
    refine (zLet_eq m13).trans ?_
    refine (zLet_eq m35).trans ?_
    refine (if_pos w_0).trans ?_
    refine (zLet_eq (show fn114 [] (γ 1) = (0, (-1), γ 2) from l0.symm)).trans ?_
    refine (zLet_eq (show _ = γ 2 from rfl)).trans ?_
    refine (if_neg zQ2_).trans ?_
    refine (zLet_eq m38).trans ?_
    refine (zLet_eq (show fn109 [ρ 37] (γ 2) = (0, 0, γ 3) from l1.symm)).trans ?_
    refine (zLet_eq (show _ = γ 3 from rfl)).trans ?_
    rfl
  exact zGoo_aend hJ hD
theorem vn144a0_1 {S : Nat → zSpc} (hS102 : ∀ x g o v gz, S 102 x g o v gz → sn102 x g o v gz) (hS109 : ∀ x g o v gz, S 109 x g o v gz → sn109 x g o v gz) (hS114 : ∀ x g o v gz, S 114 x g o v gz → sn114 x g o v gz) (hS133 : ∀ x g o v gz, S 133 x g o v gz → sn133 x g o v gz) (hS141 : ∀ x g o v gz, S 141 x g o v gz → sn141 x g o v gz) (hS143 : ∀ x g o v gz, S 143 x g o v gz → sn143 x g o v gz) {a : List Int} {g : rHp} : ∀ (ρ : Nat → Int) (γ : Nat → rHp), jn144 a g 0 (zAg (zNA a144_ 0) ρ) (γ 1) → zO 22 S a g q144a0_1 ρ γ → zGl (fun i vs g1 => jn144 a g i vs g1) (sn144 a g) q144a0_1 ρ γ := by
  intro ρ γ hJ h
  obtain ⟨ha, hg, hr, hf, hm, hc, hl⟩ := h
  have ha : a = [ρ 0, ρ 1, ρ 2, ρ 3, ρ 4, ρ 5, ρ 6, ρ 7, ρ 8, ρ 9, ρ 10, ρ 11, ρ 12, ρ 13, ρ 14, ρ 15, ρ 16, ρ 17, ρ 18, ρ 19, ρ 20, ρ 21] := ha
  subst ha
  subst hg
  have hJ : jn144 [ρ 0, ρ 1, ρ 2, ρ 3, ρ 4, ρ 5, ρ 6, ρ 7, ρ 8, ρ 9, ρ 10, ρ 11, ρ 12, ρ 13, ρ 14, ρ 15, ρ 16, ρ 17, ρ 18, ρ 19, ρ 20, ρ 21] (γ 0) 0 [ρ 0, ρ 1, ρ 2, ρ 3, ρ 4, ρ 5, ρ 6, ρ 7, ρ 8, ρ 9, ρ 10, ρ 11, ρ 12, ρ 13, ρ 14, ρ 15, ρ 16, ρ 17, ρ 18, ρ 19, ρ 20, ρ 21, ρ 22, ρ 23, ρ 24, ρ 25, ρ 26, ρ 27, ρ 28, ρ 29, ρ 30, ρ 31, ρ 32, ρ 33, ρ 34, ρ 35, ρ 36] (γ 1) := hJ
  obtain ⟨-, -, -, -, -, -, -, -, -, -, -, -, -, -, -, -, -, -, -, -, -, -, r22, -, -, -, -, -, -, -, -, -, -, -, -, -, -, r37, -⟩ := hr
  have r22 : (4 : Int) ≤ ρ 22 ∧ ρ 22 ≤ 4 := r22
  have r37 : (0 : Int) ≤ ρ 37 ∧ ρ 37 ≤ 255 := r37
  obtain ⟨w_0, w_1⟩ : (ρ 22 ≥ 4) ∧ ((0 : Int) ≤ ρ 37) := ⟨by omega, by omega⟩
  obtain ⟨m0, m1, -, -, -, -, -, -, -, -, -, -, -, m13, -, -, -, -, -, -, -, -, -, -, -, -, -, -, -, -, -, -, -, -, -, m35, -, -, m38, -⟩ := hm
  have m0 : γ 0 1 0 10 = ρ 0 := m0
  have m1 : γ 0 40 0 (ρ 0) = ρ 1 := m1
  have m13 : γ 0 2 0 5 = ρ 13 := m13
  have m35 : γ 1 10 (9 * ρ 1) 9 = ρ 34 := m35
  have m38 : γ 2 2 0 6 = ρ 38 := m38
  obtain ⟨l0, l1, -⟩ := hl
  have l0 : sn114 [ρ 23, ρ 4] (γ 1) 0 (ρ 37) (γ 2) := hS114 _ _ _ _ _ l0
  have l1 : sn109 [ρ 38, ρ 12] (γ 2) 0 0 (γ 3) := hS109 _ _ _ _ _ l1
  show sn144 [ρ 0, ρ 1, ρ 2, ρ 3, ρ 4, ρ 5, ρ 6, ρ 7, ρ 8, ρ 9, ρ 10, ρ 11, ρ 12, ρ 13, ρ 14, ρ 15, ρ 16, ρ 17, ρ 18, ρ 19, ρ 20, ρ 21] (γ 0) 0 0 (γ 3)
  have hD : en144 (γ 0) (0, [ρ 22], γ 1) = .inr (0, 0, γ 3) := by
    unfold en144
    refine (if_pos (show (0 : Nat) = 0 by decide)).trans ?_
    refine (zLet_eq (show _ = γ 1 from rfl)).trans ?_
    refine (zLet_eq (show _ = ρ 22 from rfl)).trans ?_
    refine (zLet_eq m0).trans ?_
    refine (zLet_eq m1).trans ?_
    refine (zLet_eq m13).trans ?_
    refine (zLet_eq m35).trans ?_
    refine (if_pos w_0).trans ?_
    refine (zLet_eq (show fn114 [] (γ 1) = (0, ρ 37, γ 2) from l0.symm)).trans ?_
    refine (zLet_eq (show _ = γ 2 from rfl)).trans ?_
    refine (if_pos w_1).trans ?_
    refine (zLet_eq m38).trans ?_
    refine (zLet_eq (show fn109 [ρ 38] (γ 2) = (0, 0, γ 3) from l1.symm)).trans ?_
    refine (zLet_eq (show _ = γ 3 from rfl)).trans ?_
    rfl
  exact zGoo_aend hJ hD
theorem vn144a0_2 {S : Nat → zSpc} (hS102 : ∀ x g o v gz, S 102 x g o v gz → sn102 x g o v gz) (hS109 : ∀ x g o v gz, S 109 x g o v gz → sn109 x g o v gz) (hS114 : ∀ x g o v gz, S 114 x g o v gz → sn114 x g o v gz) (hS133 : ∀ x g o v gz, S 133 x g o v gz → sn133 x g o v gz) (hS141 : ∀ x g o v gz, S 141 x g o v gz → sn141 x g o v gz) (hS143 : ∀ x g o v gz, S 143 x g o v gz → sn143 x g o v gz) {a : List Int} {g : rHp} : ∀ (ρ : Nat → Int) (γ : Nat → rHp), jn144 a g 0 (zAg (zNA a144_ 0) ρ) (γ 1) → zO 22 S a g q144a0_2 ρ γ → zGl (fun i vs g1 => jn144 a g i vs g1) (sn144 a g) q144a0_2 ρ γ := by
  intro ρ γ hJ h
  obtain ⟨ha, hg, hr, hf, hm, hc, hl⟩ := h
  have ha : a = [ρ 0, ρ 1, ρ 2, ρ 3, ρ 4, ρ 5, ρ 6, ρ 7, ρ 8, ρ 9, ρ 10, ρ 11, ρ 12, ρ 13, ρ 14, ρ 15, ρ 16, ρ 17, ρ 18, ρ 19, ρ 20, ρ 21] := ha
  subst ha
  subst hg
  have hJ : jn144 [ρ 0, ρ 1, ρ 2, ρ 3, ρ 4, ρ 5, ρ 6, ρ 7, ρ 8, ρ 9, ρ 10, ρ 11, ρ 12, ρ 13, ρ 14, ρ 15, ρ 16, ρ 17, ρ 18, ρ 19, ρ 20, ρ 21] (γ 0) 0 [ρ 0, ρ 1, ρ 2, ρ 3, ρ 4, ρ 5, ρ 6, ρ 7, ρ 8, ρ 9, ρ 10, ρ 11, ρ 12, ρ 13, ρ 14, ρ 15, ρ 16, ρ 17, ρ 18, ρ 19, ρ 20, ρ 21, ρ 22, ρ 23, ρ 24, ρ 25, ρ 26, ρ 27, ρ 28, ρ 29, ρ 30, ρ 31, ρ 32, ρ 33, ρ 34, ρ 35, ρ 36] (γ 1) := hJ
  obtain ⟨-, -, -, -, -, -, -, -, -, -, -, -, -, -, -, -, -, -, -, -, -, -, r22, -⟩ := hr
  have r22 : (0 : Int) ≤ ρ 22 ∧ ρ 22 ≤ 3 := r22
  have w_0 : ¬ (ρ 22 ≥ 4) := by omega
  obtain ⟨m0, m1, -, -, -, -, -, -, -, -, -, -, -, m13, -, -, -, -, -, -, -, -, -, -, -, -, -, -, -, -, -, -, -, -, -, m35, -⟩ := hm
  have m0 : γ 0 1 0 10 = ρ 0 := m0
  have m1 : γ 0 40 0 (ρ 0) = ρ 1 := m1
  have m13 : γ 0 2 0 5 = ρ 13 := m13
  have m35 : γ 1 10 (9 * ρ 1) 9 = ρ 34 := m35
  obtain ⟨l0, -⟩ := hl
  have l0 : sn141 [ρ 0, ρ 1, ρ 2, ρ 23, ρ 4, ρ 24, ρ 25, ρ 26, ρ 27, ρ 12, ρ 29, ρ 30, ρ 31, ρ 32, ρ 33, ρ 35, ρ 36] (γ 1) 0 0 (γ 2) := hS141 _ _ _ _ _ l0
  show sn144 [ρ 0, ρ 1, ρ 2, ρ 3, ρ 4, ρ 5, ρ 6, ρ 7, ρ 8, ρ 9, ρ 10, ρ 11, ρ 12, ρ 13, ρ 14, ρ 15, ρ 16, ρ 17, ρ 18, ρ 19, ρ 20, ρ 21] (γ 0) 0 0 (γ 2)
  have hD : en144 (γ 0) (0, [ρ 22], γ 1) = .inr (0, 0, γ 2) := by
    unfold en144
    refine (if_pos (show (0 : Nat) = 0 by decide)).trans ?_
    refine (zLet_eq (show _ = γ 1 from rfl)).trans ?_
    refine (zLet_eq (show _ = ρ 22 from rfl)).trans ?_
    refine (zLet_eq m0).trans ?_
    refine (zLet_eq m1).trans ?_
    refine (zLet_eq m13).trans ?_
    refine (zLet_eq m35).trans ?_
    refine (if_neg w_0).trans ?_
    refine (zLet_eq (show fn141 [] (γ 1) = (0, 0, γ 2) from l0.symm)).trans ?_
    refine (zLet_eq (show _ = γ 2 from rfl)).trans ?_
    refine (if_neg zQ0_).trans ?_
    rfl
  exact zGoo_aend hJ hD
theorem vn144a0_3 {S : Nat → zSpc} (hS102 : ∀ x g o v gz, S 102 x g o v gz → sn102 x g o v gz) (hS109 : ∀ x g o v gz, S 109 x g o v gz → sn109 x g o v gz) (hS114 : ∀ x g o v gz, S 114 x g o v gz → sn114 x g o v gz) (hS133 : ∀ x g o v gz, S 133 x g o v gz → sn133 x g o v gz) (hS141 : ∀ x g o v gz, S 141 x g o v gz → sn141 x g o v gz) (hS143 : ∀ x g o v gz, S 143 x g o v gz → sn143 x g o v gz) {a : List Int} {g : rHp} : ∀ (ρ : Nat → Int) (γ : Nat → rHp), jn144 a g 0 (zAg (zNA a144_ 0) ρ) (γ 1) → zO 22 S a g q144a0_3 ρ γ → zGl (fun i vs g1 => jn144 a g i vs g1) (sn144 a g) q144a0_3 ρ γ := by
  intro ρ γ hJ h
  obtain ⟨ha, hg, hr, hf, hm, hc, hl⟩ := h
  have ha : a = [ρ 0, ρ 1, ρ 2, ρ 3, ρ 4, ρ 5, ρ 6, ρ 7, ρ 8, ρ 9, ρ 10, ρ 11, ρ 12, ρ 13, ρ 14, ρ 15, ρ 16, ρ 17, ρ 18, ρ 19, ρ 20, ρ 21] := ha
  subst ha
  subst hg
  have hJ : jn144 [ρ 0, ρ 1, ρ 2, ρ 3, ρ 4, ρ 5, ρ 6, ρ 7, ρ 8, ρ 9, ρ 10, ρ 11, ρ 12, ρ 13, ρ 14, ρ 15, ρ 16, ρ 17, ρ 18, ρ 19, ρ 20, ρ 21] (γ 0) 0 [ρ 0, ρ 1, ρ 2, ρ 3, ρ 4, ρ 5, ρ 6, ρ 7, ρ 8, ρ 9, ρ 10, ρ 11, ρ 12, ρ 13, ρ 14, ρ 15, ρ 16, ρ 17, ρ 18, ρ 19, ρ 20, ρ 21, ρ 22, ρ 23, ρ 24, ρ 25, ρ 26, ρ 27, ρ 28, ρ 29, ρ 30, ρ 31, ρ 32, ρ 33, ρ 34, ρ 35, ρ 36] (γ 1) := hJ
  obtain ⟨-, -, -, -, -, -, -, -, -, -, -, -, -, -, -, -, -, -, -, -, -, -, r22, -, -, -, -, -, -, -, -, -, -, -, r34, -⟩ := hr
  have r22 : (0 : Int) ≤ ρ 22 ∧ ρ 22 ≤ 3 := r22
  have r34 : (0 : Int) ≤ ρ 34 ∧ ρ 34 ≤ 3 := r34
  obtain ⟨w_0, w_1⟩ : (¬ (ρ 22 ≥ 4)) ∧ (ρ 34 ≥ 0) := ⟨by omega, by omega⟩
  obtain ⟨m0, m1, -, -, -, -, -, -, -, -, -, -, -, m13, -, -, -, -, -, -, -, -, -, -, -, -, -, -, -, -, -, -, -, -, -, m35, -, -, -, -, -, -, -, -, -, -, -, -, -, -, m50, -⟩ := hm
  have m0 : γ 0 1 0 10 = ρ 0 := m0
  have m1 : γ 0 40 0 (ρ 0) = ρ 1 := m1
  have m13 : γ 0 2 0 5 = ρ 13 := m13
  have m35 : γ 1 10 (9 * ρ 1) 9 = ρ 34 := m35
  have m50 : γ 3 2 0 6 = ρ 48 := m50
  obtain ⟨l0, l1, l2, -⟩ := hl
  have l0 : sn141 [ρ 0, ρ 1, ρ 2, ρ 23, ρ 4, ρ 24, ρ 25, ρ 26, ρ 27, ρ 12, ρ 29, ρ 30, ρ 31, ρ 32, ρ 33, ρ 35, ρ 36] (γ 1) 0 1 (γ 2) := hS141 _ _ _ _ _ l0
  have l1 : sn114 [ρ 37, ρ 4] (γ 2) 0 (-1) (γ 3) := hS114 _ _ _ _ _ l1
  have l2 : sn109 [ρ 48, ρ 12] (γ 3) 0 0 (γ 4) := hS109 _ _ _ _ _ l2
  show sn144 [ρ 0, ρ 1, ρ 2, ρ 3, ρ 4, ρ 5, ρ 6, ρ 7, ρ 8, ρ 9, ρ 10, ρ 11, ρ 12, ρ 13, ρ 14, ρ 15, ρ 16, ρ 17, ρ 18, ρ 19, ρ 20, ρ 21] (γ 0) 0 0 (γ 4)
  have hD : en144 (γ 0) (0, [ρ 22], γ 1) = .inr (0, 0, γ 4) := by
    unfold en144
    refine (if_pos (show (0 : Nat) = 0 by decide)).trans ?_
    refine (zLet_eq (show _ = γ 1 from rfl)).trans ?_
    refine (zLet_eq (show _ = ρ 22 from rfl)).trans ?_
    refine (zLet_eq m0).trans ?_
    refine (zLet_eq m1).trans ?_
    refine (zLet_eq m13).trans ?_
    refine (zLet_eq m35).trans ?_
    refine (if_neg w_0).trans ?_
    refine (zLet_eq (show fn141 [] (γ 1) = (0, 1, γ 2) from l0.symm)).trans ?_
    refine (zLet_eq (show _ = γ 2 from rfl)).trans ?_
    refine (if_pos zQ1_).trans ?_
    refine (if_pos w_1).trans ?_
    refine (zLet_eq (show fn114 [] (γ 2) = (0, (-1), γ 3) from l1.symm)).trans ?_
    refine (zLet_eq (show _ = γ 3 from rfl)).trans ?_
    refine (if_neg zQ2_).trans ?_
    refine (zLet_eq m50).trans ?_
    refine (zLet_eq (show fn109 [ρ 48] (γ 3) = (0, 0, γ 4) from l2.symm)).trans ?_
    refine (zLet_eq (show _ = γ 4 from rfl)).trans ?_
    rfl
  exact zGoo_aend hJ hD
theorem vn144a0_4 {S : Nat → zSpc} (hS102 : ∀ x g o v gz, S 102 x g o v gz → sn102 x g o v gz) (hS109 : ∀ x g o v gz, S 109 x g o v gz → sn109 x g o v gz) (hS114 : ∀ x g o v gz, S 114 x g o v gz → sn114 x g o v gz) (hS133 : ∀ x g o v gz, S 133 x g o v gz → sn133 x g o v gz) (hS141 : ∀ x g o v gz, S 141 x g o v gz → sn141 x g o v gz) (hS143 : ∀ x g o v gz, S 143 x g o v gz → sn143 x g o v gz) {a : List Int} {g : rHp} : ∀ (ρ : Nat → Int) (γ : Nat → rHp), jn144 a g 0 (zAg (zNA a144_ 0) ρ) (γ 1) → zO 22 S a g q144a0_4 ρ γ → zGl (fun i vs g1 => jn144 a g i vs g1) (sn144 a g) q144a0_4 ρ γ := by
  intro ρ γ hJ h
  obtain ⟨ha, hg, hr, hf, hm, hc, hl⟩ := h
  have ha : a = [ρ 0, ρ 1, ρ 2, ρ 3, ρ 4, ρ 5, ρ 6, ρ 7, ρ 8, ρ 9, ρ 10, ρ 11, ρ 12, ρ 13, ρ 14, ρ 15, ρ 16, ρ 17, ρ 18, ρ 19, ρ 20, ρ 21] := ha
  subst ha
  subst hg
  have hJ : jn144 [ρ 0, ρ 1, ρ 2, ρ 3, ρ 4, ρ 5, ρ 6, ρ 7, ρ 8, ρ 9, ρ 10, ρ 11, ρ 12, ρ 13, ρ 14, ρ 15, ρ 16, ρ 17, ρ 18, ρ 19, ρ 20, ρ 21] (γ 0) 0 [ρ 0, ρ 1, ρ 2, ρ 3, ρ 4, ρ 5, ρ 6, ρ 7, ρ 8, ρ 9, ρ 10, ρ 11, ρ 12, ρ 13, ρ 14, ρ 15, ρ 16, ρ 17, ρ 18, ρ 19, ρ 20, ρ 21, ρ 22, ρ 23, ρ 24, ρ 25, ρ 26, ρ 27, ρ 28, ρ 29, ρ 30, ρ 31, ρ 32, ρ 33, ρ 34, ρ 35, ρ 36] (γ 1) := hJ
  obtain ⟨-, -, -, -, -, -, -, -, -, -, -, -, -, -, -, -, -, -, -, -, -, -, r22, -, -, -, -, -, -, -, -, -, -, -, r34, -, -, -, -, -, -, -, -, -, -, -, -, -, r48, -⟩ := hr
  have r22 : (0 : Int) ≤ ρ 22 ∧ ρ 22 ≤ 3 := r22
  have r34 : (0 : Int) ≤ ρ 34 ∧ ρ 34 ≤ 3 := r34
  have r48 : (41 : Int) ≤ ρ 48 ∧ ρ 48 ≤ 41 := r48
  obtain ⟨w_0, w_1, w_2, w_3⟩ : (¬ (ρ 22 ≥ 4)) ∧ (ρ 34 ≥ 0) ∧ ((0 : Int) ≤ ρ 48) ∧ (ρ 48 = 41) := ⟨by omega, by omega, by omega, by omega⟩
  obtain ⟨m0, m1, -, -, -, -, -, -, -, -, -, -, -, m13, -, -, -, -, -, -, -, -, -, -, -, -, -, -, -, -, -, -, -, -, -, m35, -, -, -, -, -, -, -, -, -, -, -, -, -, -, m50, -⟩ := hm
  have m0 : γ 0 1 0 10 = ρ 0 := m0
  have m1 : γ 0 40 0 (ρ 0) = ρ 1 := m1
  have m13 : γ 0 2 0 5 = ρ 13 := m13
  have m35 : γ 1 10 (9 * ρ 1) 9 = ρ 34 := m35
  have m50 : γ 3 2 0 6 = ρ 49 := m50
  obtain ⟨⟨-, c4⟩, -⟩ := hc
  have c4 : γ 4 = rUp (γ 3) 2 0 6 (ρ 49 + 1) := c4
  obtain ⟨l0, l1, l2, -⟩ := hl
  have l0 : sn141 [ρ 0, ρ 1, ρ 2, ρ 23, ρ 4, ρ 24, ρ 25, ρ 26, ρ 27, ρ 12, ρ 29, ρ 30, ρ 31, ρ 32, ρ 33, ρ 35, ρ 36] (γ 1) 0 1 (γ 2) := hS141 _ _ _ _ _ l0
  have l1 : sn114 [ρ 37, ρ 4] (γ 2) 0 (ρ 48) (γ 3) := hS114 _ _ _ _ _ l1
  have l2 : sn133 [ρ 0, ρ 1, ρ 2, ρ 9, ρ 28, ρ 11, ρ 12, ρ 38, ρ 14] (γ 4) 0 0 (γ 5) := hS133 _ _ _ _ _ l2
  show sn144 [ρ 0, ρ 1, ρ 2, ρ 3, ρ 4, ρ 5, ρ 6, ρ 7, ρ 8, ρ 9, ρ 10, ρ 11, ρ 12, ρ 13, ρ 14, ρ 15, ρ 16, ρ 17, ρ 18, ρ 19, ρ 20, ρ 21] (γ 0) 0 0 (γ 5)
  have hD : en144 (γ 0) (0, [ρ 22], γ 1) = .inr (0, 0, γ 5) := by
    unfold en144
    refine (if_pos (show (0 : Nat) = 0 by decide)).trans ?_
    refine (zLet_eq (show _ = γ 1 from rfl)).trans ?_
    refine (zLet_eq (show _ = ρ 22 from rfl)).trans ?_
    refine (zLet_eq m0).trans ?_
    refine (zLet_eq m1).trans ?_
    refine (zLet_eq m13).trans ?_
    refine (zLet_eq m35).trans ?_
    refine (if_neg w_0).trans ?_
    refine (zLet_eq (show fn141 [] (γ 1) = (0, 1, γ 2) from l0.symm)).trans ?_
    refine (zLet_eq (show _ = γ 2 from rfl)).trans ?_
    refine (if_pos zQ1_).trans ?_
    refine (if_pos w_1).trans ?_
    refine (zLet_eq (show fn114 [] (γ 2) = (0, ρ 48, γ 3) from l1.symm)).trans ?_
    refine (zLet_eq (show _ = γ 3 from rfl)).trans ?_
    refine (if_pos w_2).trans ?_
    refine (zLet_eq (show _ = ρ 48 from rfl)).trans ?_
    refine (zLet_eq m50).trans ?_
    refine (if_pos w_3).trans ?_
    refine (zLet_eq c4.symm).trans ?_
    refine (zLet_eq (show fn133 [] (γ 4) = (0, 0, γ 5) from l2.symm)).trans ?_
    refine (zLet_eq (show _ = γ 5 from rfl)).trans ?_
    refine (if_neg zQ0_).trans ?_
    rfl
  exact zGoo_aend hJ hD
theorem vn144a0_5 {S : Nat → zSpc} (hS102 : ∀ x g o v gz, S 102 x g o v gz → sn102 x g o v gz) (hS109 : ∀ x g o v gz, S 109 x g o v gz → sn109 x g o v gz) (hS114 : ∀ x g o v gz, S 114 x g o v gz → sn114 x g o v gz) (hS133 : ∀ x g o v gz, S 133 x g o v gz → sn133 x g o v gz) (hS141 : ∀ x g o v gz, S 141 x g o v gz → sn141 x g o v gz) (hS143 : ∀ x g o v gz, S 143 x g o v gz → sn143 x g o v gz) {a : List Int} {g : rHp} : ∀ (ρ : Nat → Int) (γ : Nat → rHp), jn144 a g 0 (zAg (zNA a144_ 0) ρ) (γ 1) → zO 22 S a g q144a0_5 ρ γ → zGl (fun i vs g1 => jn144 a g i vs g1) (sn144 a g) q144a0_5 ρ γ := by
  intro ρ γ hJ h
  obtain ⟨ha, hg, hr, hf, hm, hc, hl⟩ := h
  have ha : a = [ρ 0, ρ 1, ρ 2, ρ 3, ρ 4, ρ 5, ρ 6, ρ 7, ρ 8, ρ 9, ρ 10, ρ 11, ρ 12, ρ 13, ρ 14, ρ 15, ρ 16, ρ 17, ρ 18, ρ 19, ρ 20, ρ 21] := ha
  subst ha
  subst hg
  have hJ : jn144 [ρ 0, ρ 1, ρ 2, ρ 3, ρ 4, ρ 5, ρ 6, ρ 7, ρ 8, ρ 9, ρ 10, ρ 11, ρ 12, ρ 13, ρ 14, ρ 15, ρ 16, ρ 17, ρ 18, ρ 19, ρ 20, ρ 21] (γ 0) 0 [ρ 0, ρ 1, ρ 2, ρ 3, ρ 4, ρ 5, ρ 6, ρ 7, ρ 8, ρ 9, ρ 10, ρ 11, ρ 12, ρ 13, ρ 14, ρ 15, ρ 16, ρ 17, ρ 18, ρ 19, ρ 20, ρ 21, ρ 22, ρ 23, ρ 24, ρ 25, ρ 26, ρ 27, ρ 28, ρ 29, ρ 30, ρ 31, ρ 32, ρ 33, ρ 34, ρ 35, ρ 36] (γ 1) := hJ
  obtain ⟨-, -, -, -, -, -, -, -, -, -, -, -, -, -, -, -, -, -, -, -, -, -, r22, -, -, -, -, -, -, -, -, -, -, -, r34, -, -, -, -, -, -, -, -, -, -, -, -, -, r48, -⟩ := hr
  have r22 : (0 : Int) ≤ ρ 22 ∧ ρ 22 ≤ 3 := r22
  have r34 : (0 : Int) ≤ ρ 34 ∧ ρ 34 ≤ 3 := r34
  have r48 : (41 : Int) ≤ ρ 48 ∧ ρ 48 ≤ 41 := r48
  obtain ⟨w_0, w_1, w_2, w_3⟩ : (¬ (ρ 22 ≥ 4)) ∧ (ρ 34 ≥ 0) ∧ ((0 : Int) ≤ ρ 48) ∧ (ρ 48 = 41) := ⟨by omega, by omega, by omega, by omega⟩
  obtain ⟨m0, m1, -, -, -, -, -, -, -, -, -, -, -, m13, -, -, -, -, -, -, -, -, -, -, -, -, -, -, -, -, -, -, -, -, -, m35, -, -, -, -, -, -, -, -, -, -, -, -, -, -, m50, -⟩ := hm
  have m0 : γ 0 1 0 10 = ρ 0 := m0
  have m1 : γ 0 40 0 (ρ 0) = ρ 1 := m1
  have m13 : γ 0 2 0 5 = ρ 13 := m13
  have m35 : γ 1 10 (9 * ρ 1) 9 = ρ 34 := m35
  have m50 : γ 3 2 0 6 = ρ 49 := m50
  obtain ⟨⟨-, c4⟩, -⟩ := hc
  have c4 : γ 4 = rUp (γ 3) 2 0 6 (ρ 49 + 1) := c4
  obtain ⟨l0, l1, l2, -⟩ := hl
  have l0 : sn141 [ρ 0, ρ 1, ρ 2, ρ 23, ρ 4, ρ 24, ρ 25, ρ 26, ρ 27, ρ 12, ρ 29, ρ 30, ρ 31, ρ 32, ρ 33, ρ 35, ρ 36] (γ 1) 0 1 (γ 2) := hS141 _ _ _ _ _ l0
  have l1 : sn114 [ρ 37, ρ 4] (γ 2) 0 (ρ 48) (γ 3) := hS114 _ _ _ _ _ l1
  have l2 : sn133 [ρ 0, ρ 1, ρ 2, ρ 9, ρ 28, ρ 11, ρ 12, ρ 38, ρ 14] (γ 4) 0 1 (γ 5) := hS133 _ _ _ _ _ l2
  show sn144 [ρ 0, ρ 1, ρ 2, ρ 3, ρ 4, ρ 5, ρ 6, ρ 7, ρ 8, ρ 9, ρ 10, ρ 11, ρ 12, ρ 13, ρ 14, ρ 15, ρ 16, ρ 17, ρ 18, ρ 19, ρ 20, ρ 21] (γ 0) 0 1 (γ 5)
  have hD : en144 (γ 0) (0, [ρ 22], γ 1) = .inr (0, 1, γ 5) := by
    unfold en144
    refine (if_pos (show (0 : Nat) = 0 by decide)).trans ?_
    refine (zLet_eq (show _ = γ 1 from rfl)).trans ?_
    refine (zLet_eq (show _ = ρ 22 from rfl)).trans ?_
    refine (zLet_eq m0).trans ?_
    refine (zLet_eq m1).trans ?_
    refine (zLet_eq m13).trans ?_
    refine (zLet_eq m35).trans ?_
    refine (if_neg w_0).trans ?_
    refine (zLet_eq (show fn141 [] (γ 1) = (0, 1, γ 2) from l0.symm)).trans ?_
    refine (zLet_eq (show _ = γ 2 from rfl)).trans ?_
    refine (if_pos zQ1_).trans ?_
    refine (if_pos w_1).trans ?_
    refine (zLet_eq (show fn114 [] (γ 2) = (0, ρ 48, γ 3) from l1.symm)).trans ?_
    refine (zLet_eq (show _ = γ 3 from rfl)).trans ?_
    refine (if_pos w_2).trans ?_
    refine (zLet_eq (show _ = ρ 48 from rfl)).trans ?_
    refine (zLet_eq m50).trans ?_
    refine (if_pos w_3).trans ?_
    refine (zLet_eq c4.symm).trans ?_
    refine (zLet_eq (show fn133 [] (γ 4) = (0, 1, γ 5) from l2.symm)).trans ?_
    refine (zLet_eq (show _ = γ 5 from rfl)).trans ?_
    refine (if_pos zQ1_).trans ?_
    rfl
  exact zGoo_aend hJ hD
theorem vn144a0_6 {S : Nat → zSpc} (hS102 : ∀ x g o v gz, S 102 x g o v gz → sn102 x g o v gz) (hS109 : ∀ x g o v gz, S 109 x g o v gz → sn109 x g o v gz) (hS114 : ∀ x g o v gz, S 114 x g o v gz → sn114 x g o v gz) (hS133 : ∀ x g o v gz, S 133 x g o v gz → sn133 x g o v gz) (hS141 : ∀ x g o v gz, S 141 x g o v gz → sn141 x g o v gz) (hS143 : ∀ x g o v gz, S 143 x g o v gz → sn143 x g o v gz) {a : List Int} {g : rHp} : ∀ (ρ : Nat → Int) (γ : Nat → rHp), jn144 a g 0 (zAg (zNA a144_ 0) ρ) (γ 1) → zO 22 S a g q144a0_6 ρ γ → zGl (fun i vs g1 => jn144 a g i vs g1) (sn144 a g) q144a0_6 ρ γ := by
  intro ρ γ hJ h
  obtain ⟨ha, hg, hr, hf, hm, hc, hl⟩ := h
  have ha : a = [ρ 0, ρ 1, ρ 2, ρ 3, ρ 4, ρ 5, ρ 6, ρ 7, ρ 8, ρ 9, ρ 10, ρ 11, ρ 12, ρ 13, ρ 14, ρ 15, ρ 16, ρ 17, ρ 18, ρ 19, ρ 20, ρ 21] := ha
  subst ha
  subst hg
  have hJ : jn144 [ρ 0, ρ 1, ρ 2, ρ 3, ρ 4, ρ 5, ρ 6, ρ 7, ρ 8, ρ 9, ρ 10, ρ 11, ρ 12, ρ 13, ρ 14, ρ 15, ρ 16, ρ 17, ρ 18, ρ 19, ρ 20, ρ 21] (γ 0) 0 [ρ 0, ρ 1, ρ 2, ρ 3, ρ 4, ρ 5, ρ 6, ρ 7, ρ 8, ρ 9, ρ 10, ρ 11, ρ 12, ρ 13, ρ 14, ρ 15, ρ 16, ρ 17, ρ 18, ρ 19, ρ 20, ρ 21, ρ 22, ρ 23, ρ 24, ρ 25, ρ 26, ρ 27, ρ 28, ρ 29, ρ 30, ρ 31, ρ 32, ρ 33, ρ 34, ρ 35, ρ 36] (γ 1) := hJ
  obtain ⟨-, -, -, -, -, -, -, -, -, -, -, -, -, -, -, -, -, -, -, -, -, -, r22, -, -, -, -, -, -, -, -, -, -, -, r34, -, -, -, -, -, -, -, -, -, -, -, -, -, r48, -⟩ := hr
  have r22 : (0 : Int) ≤ ρ 22 ∧ ρ 22 ≤ 3 := r22
  have r34 : (0 : Int) ≤ ρ 34 ∧ ρ 34 ≤ 3 := r34
  have r48 : (41 : Int) ≤ ρ 48 ∧ ρ 48 ≤ 41 := r48
  obtain ⟨w_0, w_1, w_2, w_3⟩ : (¬ (ρ 22 ≥ 4)) ∧ (ρ 34 ≥ 0) ∧ ((0 : Int) ≤ ρ 48) ∧ (ρ 48 = 41) := ⟨by omega, by omega, by omega, by omega⟩
  obtain ⟨m0, m1, -, -, -, -, -, -, -, -, -, -, -, m13, -, -, -, -, -, -, -, -, -, -, -, -, -, -, -, -, -, -, -, -, -, m35, -, -, -, -, -, -, -, -, -, -, -, -, -, -, m50, -⟩ := hm
  have m0 : γ 0 1 0 10 = ρ 0 := m0
  have m1 : γ 0 40 0 (ρ 0) = ρ 1 := m1
  have m13 : γ 0 2 0 5 = ρ 13 := m13
  have m35 : γ 1 10 (9 * ρ 1) 9 = ρ 34 := m35
  have m50 : γ 3 2 0 6 = ρ 49 := m50
  obtain ⟨⟨-, c4⟩, -⟩ := hc
  have c4 : γ 4 = rUp (γ 3) 2 0 6 (ρ 49 + 1) := c4
  obtain ⟨l0, l1, l2, -⟩ := hl
  have l0 : sn141 [ρ 0, ρ 1, ρ 2, ρ 23, ρ 4, ρ 24, ρ 25, ρ 26, ρ 27, ρ 12, ρ 29, ρ 30, ρ 31, ρ 32, ρ 33, ρ 35, ρ 36] (γ 1) 0 1 (γ 2) := hS141 _ _ _ _ _ l0
  have l1 : sn114 [ρ 37, ρ 4] (γ 2) 0 (ρ 48) (γ 3) := hS114 _ _ _ _ _ l1
  have l2 : sn133 [ρ 0, ρ 1, ρ 2, ρ 9, ρ 28, ρ 11, ρ 12, ρ 38, ρ 14] (γ 4) 0 1 (γ 5) := hS133 _ _ _ _ _ l2
  show sn144 [ρ 0, ρ 1, ρ 2, ρ 3, ρ 4, ρ 5, ρ 6, ρ 7, ρ 8, ρ 9, ρ 10, ρ 11, ρ 12, ρ 13, ρ 14, ρ 15, ρ 16, ρ 17, ρ 18, ρ 19, ρ 20, ρ 21] (γ 0) 0 1 (γ 5)
  have hD : en144 (γ 0) (0, [ρ 22], γ 1) = .inr (0, 1, γ 5) := by
    unfold en144
    refine (if_pos (show (0 : Nat) = 0 by decide)).trans ?_
    refine (zLet_eq (show _ = γ 1 from rfl)).trans ?_
    refine (zLet_eq (show _ = ρ 22 from rfl)).trans ?_
    refine (zLet_eq m0).trans ?_
    refine (zLet_eq m1).trans ?_
    refine (zLet_eq m13).trans ?_
    refine (zLet_eq m35).trans ?_
    refine (if_neg w_0).trans ?_
    refine (zLet_eq (show fn141 [] (γ 1) = (0, 1, γ 2) from l0.symm)).trans ?_
    refine (zLet_eq (show _ = γ 2 from rfl)).trans ?_
    refine (if_pos zQ1_).trans ?_
    refine (if_pos w_1).trans ?_
    refine (zLet_eq (show fn114 [] (γ 2) = (0, ρ 48, γ 3) from l1.symm)).trans ?_
    refine (zLet_eq (show _ = γ 3 from rfl)).trans ?_
    refine (if_pos w_2).trans ?_
    refine (zLet_eq (show _ = ρ 48 from rfl)).trans ?_
    refine (zLet_eq m50).trans ?_
    refine (if_pos w_3).trans ?_
    refine (zLet_eq c4.symm).trans ?_
    refine (zLet_eq (show fn133 [] (γ 4) = (0, 1, γ 5) from l2.symm)).trans ?_
    refine (zLet_eq (show _ = γ 5 from rfl)).trans ?_
    refine (if_pos zQ1_).trans ?_
    rfl
  exact zGoo_aend hJ hD
theorem vn144a0_7 {S : Nat → zSpc} (hS102 : ∀ x g o v gz, S 102 x g o v gz → sn102 x g o v gz) (hS109 : ∀ x g o v gz, S 109 x g o v gz → sn109 x g o v gz) (hS114 : ∀ x g o v gz, S 114 x g o v gz → sn114 x g o v gz) (hS133 : ∀ x g o v gz, S 133 x g o v gz → sn133 x g o v gz) (hS141 : ∀ x g o v gz, S 141 x g o v gz → sn141 x g o v gz) (hS143 : ∀ x g o v gz, S 143 x g o v gz → sn143 x g o v gz) {a : List Int} {g : rHp} : ∀ (ρ : Nat → Int) (γ : Nat → rHp), jn144 a g 0 (zAg (zNA a144_ 0) ρ) (γ 1) → zO 22 S a g q144a0_7 ρ γ → zGl (fun i vs g1 => jn144 a g i vs g1) (sn144 a g) q144a0_7 ρ γ := by
  intro ρ γ hJ h
  obtain ⟨ha, hg, hr, hf, hm, hc, hl⟩ := h
  have ha : a = [ρ 0, ρ 1, ρ 2, ρ 3, ρ 4, ρ 5, ρ 6, ρ 7, ρ 8, ρ 9, ρ 10, ρ 11, ρ 12, ρ 13, ρ 14, ρ 15, ρ 16, ρ 17, ρ 18, ρ 19, ρ 20, ρ 21] := ha
  subst ha
  subst hg
  have hJ : jn144 [ρ 0, ρ 1, ρ 2, ρ 3, ρ 4, ρ 5, ρ 6, ρ 7, ρ 8, ρ 9, ρ 10, ρ 11, ρ 12, ρ 13, ρ 14, ρ 15, ρ 16, ρ 17, ρ 18, ρ 19, ρ 20, ρ 21] (γ 0) 0 [ρ 0, ρ 1, ρ 2, ρ 3, ρ 4, ρ 5, ρ 6, ρ 7, ρ 8, ρ 9, ρ 10, ρ 11, ρ 12, ρ 13, ρ 14, ρ 15, ρ 16, ρ 17, ρ 18, ρ 19, ρ 20, ρ 21, ρ 22, ρ 23, ρ 24, ρ 25, ρ 26, ρ 27, ρ 28, ρ 29, ρ 30, ρ 31, ρ 32, ρ 33, ρ 34, ρ 35, ρ 36] (γ 1) := hJ
  obtain ⟨-, -, -, -, -, -, -, -, -, -, -, -, -, -, -, -, -, -, -, -, -, -, r22, -, -, -, -, -, -, -, -, -, -, -, r34, -, -, -, -, -, -, -, -, -, -, -, -, -, r48, -⟩ := hr
  have r22 : (0 : Int) ≤ ρ 22 ∧ ρ 22 ≤ 3 := r22
  have r34 : (0 : Int) ≤ ρ 34 ∧ ρ 34 ≤ 3 := r34
  have r48 : (44 : Int) ≤ ρ 48 ∧ ρ 48 ≤ 44 := r48
  obtain ⟨w_0, w_1, w_2, w_3, w_4⟩ : (¬ (ρ 22 ≥ 4)) ∧ (ρ 34 ≥ 0) ∧ ((0 : Int) ≤ ρ 48) ∧ (¬ (ρ 48 = 41)) ∧ (ρ 48 = 44) := ⟨by omega, by omega, by omega, by omega, by omega⟩
  obtain ⟨m0, m1, -, -, -, -, -, -, -, -, -, -, -, m13, -, -, -, -, -, -, -, -, -, -, -, -, -, -, -, -, -, -, -, -, -, m35, -, -, -, -, -, -, -, -, -, -, -, -, -, -, m50, -⟩ := hm
  have m0 : γ 0 1 0 10 = ρ 0 := m0
  have m1 : γ 0 40 0 (ρ 0) = ρ 1 := m1
  have m13 : γ 0 2 0 5 = ρ 13 := m13
  have m35 : γ 1 10 (9 * ρ 1) 9 = ρ 34 := m35
  have m50 : γ 3 2 0 6 = ρ 49 := m50
  obtain ⟨-, c4⟩ := hc
  have c4 : γ 4 = rUp (γ 3) 2 0 6 (ρ 49 + 1) := c4
  obtain ⟨l0, l1, l2, -⟩ := hl
  have l0 : sn141 [ρ 0, ρ 1, ρ 2, ρ 23, ρ 4, ρ 24, ρ 25, ρ 26, ρ 27, ρ 12, ρ 29, ρ 30, ρ 31, ρ 32, ρ 33, ρ 35, ρ 36] (γ 1) 0 1 (γ 2) := hS141 _ _ _ _ _ l0
  have l1 : sn114 [ρ 37, ρ 4] (γ 2) 0 (ρ 48) (γ 3) := hS114 _ _ _ _ _ l1
  have l2 : ρ 48 ≠ 41 := l2
  show jn144 [ρ 0, ρ 1, ρ 2, ρ 3, ρ 4, ρ 5, ρ 6, ρ 7, ρ 8, ρ 9, ρ 10, ρ 11, ρ 12, ρ 13, ρ 14, ρ 15, ρ 16, ρ 17, ρ 18, ρ 19, ρ 20, ρ 21] (γ 0) 0 [ρ 0, ρ 1, ρ 2, ρ 3, ρ 4, ρ 5, ρ 6, ρ 7, ρ 8, ρ 9, ρ 10, ρ 11, ρ 12, ρ 13, ρ 14, ρ 15, ρ 16, ρ 17, ρ 18, ρ 19, ρ 20, ρ 21, ρ 22 + 1, ρ 49 + 1, ρ 38, ρ 39, ρ 40, ρ 27, ρ 28, ρ 41, ρ 42, ρ 43, ρ 44, ρ 45, ρ 34, ρ 46, ρ 47] (γ 4)
  have hD : en144 (γ 0) (0, [ρ 22], γ 1) = .inl (0, [ρ 22 + 1], γ 4) := by
    unfold en144
    refine (if_pos (show (0 : Nat) = 0 by decide)).trans ?_
    refine (zLet_eq (show _ = γ 1 from rfl)).trans ?_
    refine (zLet_eq (show _ = ρ 22 from rfl)).trans ?_
    refine (zLet_eq m0).trans ?_
    refine (zLet_eq m1).trans ?_
    refine (zLet_eq m13).trans ?_
    refine (zLet_eq m35).trans ?_
    refine (if_neg w_0).trans ?_
    refine (zLet_eq (show fn141 [] (γ 1) = (0, 1, γ 2) from l0.symm)).trans ?_
    refine (zLet_eq (show _ = γ 2 from rfl)).trans ?_
    refine (if_pos zQ1_).trans ?_
    refine (if_pos w_1).trans ?_
    refine (zLet_eq (show fn114 [] (γ 2) = (0, ρ 48, γ 3) from l1.symm)).trans ?_
    refine (zLet_eq (show _ = γ 3 from rfl)).trans ?_
    refine (if_pos w_2).trans ?_
    refine (zLet_eq (show _ = ρ 48 from rfl)).trans ?_
    refine (zLet_eq m50).trans ?_
    refine (if_neg w_3).trans ?_
    refine (if_pos w_4).trans ?_
    refine (zLet_eq c4.symm).trans ?_
    rfl
  exact zGoo_ato hJ hD
theorem vn144a0_8 {S : Nat → zSpc} (hS102 : ∀ x g o v gz, S 102 x g o v gz → sn102 x g o v gz) (hS109 : ∀ x g o v gz, S 109 x g o v gz → sn109 x g o v gz) (hS114 : ∀ x g o v gz, S 114 x g o v gz → sn114 x g o v gz) (hS133 : ∀ x g o v gz, S 133 x g o v gz → sn133 x g o v gz) (hS141 : ∀ x g o v gz, S 141 x g o v gz → sn141 x g o v gz) (hS143 : ∀ x g o v gz, S 143 x g o v gz → sn143 x g o v gz) {a : List Int} {g : rHp} : ∀ (ρ : Nat → Int) (γ : Nat → rHp), jn144 a g 0 (zAg (zNA a144_ 0) ρ) (γ 1) → zO 22 S a g q144a0_8 ρ γ → zGl (fun i vs g1 => jn144 a g i vs g1) (sn144 a g) q144a0_8 ρ γ := by
  intro ρ γ hJ h
  obtain ⟨ha, hg, hr, hf, hm, hc, hl⟩ := h
  have ha : a = [ρ 0, ρ 1, ρ 2, ρ 3, ρ 4, ρ 5, ρ 6, ρ 7, ρ 8, ρ 9, ρ 10, ρ 11, ρ 12, ρ 13, ρ 14, ρ 15, ρ 16, ρ 17, ρ 18, ρ 19, ρ 20, ρ 21] := ha
  subst ha
  subst hg
  have hJ : jn144 [ρ 0, ρ 1, ρ 2, ρ 3, ρ 4, ρ 5, ρ 6, ρ 7, ρ 8, ρ 9, ρ 10, ρ 11, ρ 12, ρ 13, ρ 14, ρ 15, ρ 16, ρ 17, ρ 18, ρ 19, ρ 20, ρ 21] (γ 0) 0 [ρ 0, ρ 1, ρ 2, ρ 3, ρ 4, ρ 5, ρ 6, ρ 7, ρ 8, ρ 9, ρ 10, ρ 11, ρ 12, ρ 13, ρ 14, ρ 15, ρ 16, ρ 17, ρ 18, ρ 19, ρ 20, ρ 21, ρ 22, ρ 23, ρ 24, ρ 25, ρ 26, ρ 27, ρ 28, ρ 29, ρ 30, ρ 31, ρ 32, ρ 33, ρ 34, ρ 35, ρ 36] (γ 1) := hJ
  obtain ⟨-, -, -, -, -, -, -, -, -, -, -, -, -, -, -, -, -, -, -, -, -, -, r22, -, -, -, -, -, -, -, -, -, -, -, r34, -, -, -, -, -, -, -, -, -, -, -, -, -, r48, -⟩ := hr
  have r22 : (0 : Int) ≤ ρ 22 ∧ ρ 22 ≤ 3 := r22
  have r34 : (0 : Int) ≤ ρ 34 ∧ ρ 34 ≤ 3 := r34
  have r48 : (0 : Int) ≤ ρ 48 ∧ ρ 48 ≤ 255 := r48
  obtain ⟨w_0, w_1, w_2⟩ : (¬ (ρ 22 ≥ 4)) ∧ (ρ 34 ≥ 0) ∧ ((0 : Int) ≤ ρ 48) := ⟨by omega, by omega, by omega⟩
  obtain ⟨m0, m1, -, -, -, -, -, -, -, -, -, -, -, m13, -, -, -, -, -, -, -, -, -, -, -, -, -, -, -, -, -, -, -, -, -, m35, -, -, -, -, -, -, -, -, -, -, -, -, -, -, m50, -⟩ := hm
  have m0 : γ 0 1 0 10 = ρ 0 := m0
  have m1 : γ 0 40 0 (ρ 0) = ρ 1 := m1
  have m13 : γ 0 2 0 5 = ρ 13 := m13
  have m35 : γ 1 10 (9 * ρ 1) 9 = ρ 34 := m35
  have m50 : γ 3 2 0 6 = ρ 49 := m50
  obtain ⟨l0, l1, l2, l3, l4, -⟩ := hl
  have l0 : sn141 [ρ 0, ρ 1, ρ 2, ρ 23, ρ 4, ρ 24, ρ 25, ρ 26, ρ 27, ρ 12, ρ 29, ρ 30, ρ 31, ρ 32, ρ 33, ρ 35, ρ 36] (γ 1) 0 1 (γ 2) := hS141 _ _ _ _ _ l0
  have l1 : sn114 [ρ 37, ρ 4] (γ 2) 0 (ρ 48) (γ 3) := hS114 _ _ _ _ _ l1
  have l2 : ρ 48 ≠ 41 := l2
  have l3 : ρ 48 ≠ 44 := l3
  have l4 : sn109 [ρ 49, ρ 12] (γ 3) 0 0 (γ 4) := hS109 _ _ _ _ _ l4
  obtain ⟨wl_0, wl_1⟩ : (¬ (ρ 48 = 41)) ∧ (¬ (ρ 48 = 44)) := ⟨by omega, by omega⟩
  show sn144 [ρ 0, ρ 1, ρ 2, ρ 3, ρ 4, ρ 5, ρ 6, ρ 7, ρ 8, ρ 9, ρ 10, ρ 11, ρ 12, ρ 13, ρ 14, ρ 15, ρ 16, ρ 17, ρ 18, ρ 19, ρ 20, ρ 21] (γ 0) 0 0 (γ 4)
  have hD : en144 (γ 0) (0, [ρ 22], γ 1) = .inr (0, 0, γ 4) := by
    unfold en144
    refine (if_pos (show (0 : Nat) = 0 by decide)).trans ?_
    refine (zLet_eq (show _ = γ 1 from rfl)).trans ?_
    refine (zLet_eq (show _ = ρ 22 from rfl)).trans ?_
    refine (zLet_eq m0).trans ?_
    refine (zLet_eq m1).trans ?_
    refine (zLet_eq m13).trans ?_
    refine (zLet_eq m35).trans ?_
    refine (if_neg w_0).trans ?_
    refine (zLet_eq (show fn141 [] (γ 1) = (0, 1, γ 2) from l0.symm)).trans ?_
    refine (zLet_eq (show _ = γ 2 from rfl)).trans ?_
    refine (if_pos zQ1_).trans ?_
    refine (if_pos w_1).trans ?_
    refine (zLet_eq (show fn114 [] (γ 2) = (0, ρ 48, γ 3) from l1.symm)).trans ?_
    refine (zLet_eq (show _ = γ 3 from rfl)).trans ?_
    refine (if_pos w_2).trans ?_
    refine (zLet_eq (show _ = ρ 48 from rfl)).trans ?_
    refine (zLet_eq m50).trans ?_
    refine (if_neg wl_0).trans ?_
    refine (if_neg wl_1).trans ?_
    refine (zLet_eq (show fn109 [ρ 49] (γ 3) = (0, 0, γ 4) from l4.symm)).trans ?_
    refine (zLet_eq (show _ = γ 4 from rfl)).trans ?_
    rfl
  exact zGoo_aend hJ hD
theorem vn144a0_9 {S : Nat → zSpc} (hS102 : ∀ x g o v gz, S 102 x g o v gz → sn102 x g o v gz) (hS109 : ∀ x g o v gz, S 109 x g o v gz → sn109 x g o v gz) (hS114 : ∀ x g o v gz, S 114 x g o v gz → sn114 x g o v gz) (hS133 : ∀ x g o v gz, S 133 x g o v gz → sn133 x g o v gz) (hS141 : ∀ x g o v gz, S 141 x g o v gz → sn141 x g o v gz) (hS143 : ∀ x g o v gz, S 143 x g o v gz → sn143 x g o v gz) {a : List Int} {g : rHp} : ∀ (ρ : Nat → Int) (γ : Nat → rHp), jn144 a g 0 (zAg (zNA a144_ 0) ρ) (γ 1) → zO 22 S a g q144a0_9 ρ γ → zGl (fun i vs g1 => jn144 a g i vs g1) (sn144 a g) q144a0_9 ρ γ := by
  intro ρ γ hJ h
  obtain ⟨ha, hg, hr, hf, hm, hc, hl⟩ := h
  have ha : a = [ρ 0, ρ 1, ρ 2, ρ 3, ρ 4, ρ 5, ρ 6, ρ 7, ρ 8, ρ 9, ρ 10, ρ 11, ρ 12, ρ 13, ρ 14, ρ 15, ρ 16, ρ 17, ρ 18, ρ 19, ρ 20, ρ 21] := ha
  subst ha
  subst hg
  have hJ : jn144 [ρ 0, ρ 1, ρ 2, ρ 3, ρ 4, ρ 5, ρ 6, ρ 7, ρ 8, ρ 9, ρ 10, ρ 11, ρ 12, ρ 13, ρ 14, ρ 15, ρ 16, ρ 17, ρ 18, ρ 19, ρ 20, ρ 21] (γ 0) 0 [ρ 0, ρ 1, ρ 2, ρ 3, ρ 4, ρ 5, ρ 6, ρ 7, ρ 8, ρ 9, ρ 10, ρ 11, ρ 12, ρ 13, ρ 14, ρ 15, ρ 16, ρ 17, ρ 18, ρ 19, ρ 20, ρ 21, ρ 22, ρ 23, ρ 24, ρ 25, ρ 26, ρ 27, ρ 28, ρ 29, ρ 30, ρ 31, ρ 32, ρ 33, ρ 34, ρ 35, ρ 36] (γ 1) := hJ
  obtain ⟨-, -, -, -, -, -, -, -, -, -, -, -, -, -, -, -, -, -, -, -, -, -, r22, -, -, -, -, -, -, -, -, -, -, -, r34, -⟩ := hr
  have r22 : (0 : Int) ≤ ρ 22 ∧ ρ 22 ≤ 3 := r22
  have r34 : ((-1) : Int) ≤ ρ 34 ∧ ρ 34 ≤ (-1) := r34
  obtain ⟨w_0, w_1⟩ : (¬ (ρ 22 ≥ 4)) ∧ (¬ (ρ 34 ≥ 0)) := ⟨by omega, by omega⟩
  obtain ⟨m0, m1, -, -, -, -, -, -, -, -, -, -, -, m13, -, -, -, -, -, -, -, -, -, -, -, -, -, -, -, -, -, -, -, -, -, m35, -, -, -, -, -, -, -, -, -, -, -, -, -, -, m50, -⟩ := hm
  have m0 : γ 0 1 0 10 = ρ 0 := m0
  have m1 : γ 0 40 0 (ρ 0) = ρ 1 := m1
  have m13 : γ 0 2 0 5 = ρ 13 := m13
  have m35 : γ 1 10 (9 * ρ 1) 9 = ρ 34 := m35
  have m50 : γ 4 2 0 6 = ρ 48 := m50
  obtain ⟨l0, l1, l2, l3, -⟩ := hl
  have l0 : sn141 [ρ 0, ρ 1, ρ 2, ρ 23, ρ 4, ρ 24, ρ 25, ρ 26, ρ 27, ρ 12, ρ 29, ρ 30, ρ 31, ρ 32, ρ 33, ρ 35, ρ 36] (γ 1) 0 1 (γ 2) := hS141 _ _ _ _ _ l0
  have l1 : sn143 [9 * ρ 1, ρ 22, ρ 13] (γ 2) 0 0 (γ 3) := hS143 _ _ _ _ _ l1
  have l2 : sn114 [ρ 37, ρ 4] (γ 3) 0 (-1) (γ 4) := hS114 _ _ _ _ _ l2
  have l3 : sn109 [ρ 48, ρ 12] (γ 4) 0 0 (γ 5) := hS109 _ _ _ _ _ l3
  show sn144 [ρ 0, ρ 1, ρ 2, ρ 3, ρ 4, ρ 5, ρ 6, ρ 7, ρ 8, ρ 9, ρ 10, ρ 11, ρ 12, ρ 13, ρ 14, ρ 15, ρ 16, ρ 17, ρ 18, ρ 19, ρ 20, ρ 21] (γ 0) 0 0 (γ 5)
  have hD : en144 (γ 0) (0, [ρ 22], γ 1) = .inr (0, 0, γ 5) := by
    unfold en144
    refine (if_pos (show (0 : Nat) = 0 by decide)).trans ?_
    refine (zLet_eq (show _ = γ 1 from rfl)).trans ?_
    refine (zLet_eq (show _ = ρ 22 from rfl)).trans ?_
    refine (zLet_eq m0).trans ?_
    refine (zLet_eq m1).trans ?_
    refine (zLet_eq m13).trans ?_
    refine (zLet_eq m35).trans ?_
    refine (if_neg w_0).trans ?_
    refine (zLet_eq (show fn141 [] (γ 1) = (0, 1, γ 2) from l0.symm)).trans ?_
    refine (zLet_eq (show _ = γ 2 from rfl)).trans ?_
    refine (if_pos zQ1_).trans ?_
    refine (if_neg w_1).trans ?_
    refine (zLet_eq (show fn143 [9 * ρ 1, ρ 22, ρ 13] (γ 2) = (0, 0, γ 3) from l1.symm)).trans ?_
    refine (zLet_eq (show _ = γ 3 from rfl)).trans ?_
    refine (if_neg zQ0_).trans ?_
    refine (zLet_eq (show fn114 [] (γ 3) = (0, (-1), γ 4) from l2.symm)).trans ?_
    refine (zLet_eq (show _ = γ 4 from rfl)).trans ?_
    refine (if_neg zQ2_).trans ?_
    refine (zLet_eq m50).trans ?_
    refine (zLet_eq (show fn109 [ρ 48] (γ 4) = (0, 0, γ 5) from l3.symm)).trans ?_
    refine (zLet_eq (show _ = γ 5 from rfl)).trans ?_
    rfl
  exact zGoo_aend hJ hD
theorem vn144a0_10 {S : Nat → zSpc} (hS102 : ∀ x g o v gz, S 102 x g o v gz → sn102 x g o v gz) (hS109 : ∀ x g o v gz, S 109 x g o v gz → sn109 x g o v gz) (hS114 : ∀ x g o v gz, S 114 x g o v gz → sn114 x g o v gz) (hS133 : ∀ x g o v gz, S 133 x g o v gz → sn133 x g o v gz) (hS141 : ∀ x g o v gz, S 141 x g o v gz → sn141 x g o v gz) (hS143 : ∀ x g o v gz, S 143 x g o v gz → sn143 x g o v gz) {a : List Int} {g : rHp} : ∀ (ρ : Nat → Int) (γ : Nat → rHp), jn144 a g 0 (zAg (zNA a144_ 0) ρ) (γ 1) → zO 22 S a g q144a0_10 ρ γ → zGl (fun i vs g1 => jn144 a g i vs g1) (sn144 a g) q144a0_10 ρ γ := by
  intro ρ γ hJ h
  obtain ⟨ha, hg, hr, hf, hm, hc, hl⟩ := h
  have ha : a = [ρ 0, ρ 1, ρ 2, ρ 3, ρ 4, ρ 5, ρ 6, ρ 7, ρ 8, ρ 9, ρ 10, ρ 11, ρ 12, ρ 13, ρ 14, ρ 15, ρ 16, ρ 17, ρ 18, ρ 19, ρ 20, ρ 21] := ha
  subst ha
  subst hg
  have hJ : jn144 [ρ 0, ρ 1, ρ 2, ρ 3, ρ 4, ρ 5, ρ 6, ρ 7, ρ 8, ρ 9, ρ 10, ρ 11, ρ 12, ρ 13, ρ 14, ρ 15, ρ 16, ρ 17, ρ 18, ρ 19, ρ 20, ρ 21] (γ 0) 0 [ρ 0, ρ 1, ρ 2, ρ 3, ρ 4, ρ 5, ρ 6, ρ 7, ρ 8, ρ 9, ρ 10, ρ 11, ρ 12, ρ 13, ρ 14, ρ 15, ρ 16, ρ 17, ρ 18, ρ 19, ρ 20, ρ 21, ρ 22, ρ 23, ρ 24, ρ 25, ρ 26, ρ 27, ρ 28, ρ 29, ρ 30, ρ 31, ρ 32, ρ 33, ρ 34, ρ 35, ρ 36] (γ 1) := hJ
  obtain ⟨-, -, -, -, -, -, -, -, -, -, -, -, -, -, -, -, -, -, -, -, -, -, r22, -, -, -, -, -, -, -, -, -, -, -, r34, -, -, -, -, -, -, -, -, -, -, -, -, -, r48, -⟩ := hr
  have r22 : (0 : Int) ≤ ρ 22 ∧ ρ 22 ≤ 3 := r22
  have r34 : ((-1) : Int) ≤ ρ 34 ∧ ρ 34 ≤ (-1) := r34
  have r48 : (41 : Int) ≤ ρ 48 ∧ ρ 48 ≤ 41 := r48
  obtain ⟨w_0, w_1, w_2, w_3⟩ : (¬ (ρ 22 ≥ 4)) ∧ (¬ (ρ 34 ≥ 0)) ∧ ((0 : Int) ≤ ρ 48) ∧ (ρ 48 = 41) := ⟨by omega, by omega, by omega, by omega⟩
  obtain ⟨m0, m1, -, -, -, -, -, -, -, -, -, -, -, m13, -, -, -, -, -, -, -, -, -, -, -, -, -, -, -, -, -, -, -, -, -, m35, -, -, -, -, -, -, -, -, -, -, -, -, -, -, m50, -⟩ := hm
  have m0 : γ 0 1 0 10 = ρ 0 := m0
  have m1 : γ 0 40 0 (ρ 0) = ρ 1 := m1
  have m13 : γ 0 2 0 5 = ρ 13 := m13
  have m35 : γ 1 10 (9 * ρ 1) 9 = ρ 34 := m35
  have m50 : γ 4 2 0 6 = ρ 49 := m50
  obtain ⟨⟨-, c5⟩, -⟩ := hc
  have c5 : γ 5 = rUp (γ 4) 2 0 6 (ρ 49 + 1) := c5
  obtain ⟨l0, l1, l2, l3, -⟩ := hl
  have l0 : sn141 [ρ 0, ρ 1, ρ 2, ρ 23, ρ 4, ρ 24, ρ 25, ρ 26, ρ 27, ρ 12, ρ 29, ρ 30, ρ 31, ρ 32, ρ 33, ρ 35, ρ 36] (γ 1) 0 1 (γ 2) := hS141 _ _ _ _ _ l0
  have l1 : sn143 [9 * ρ 1, ρ 22, ρ 13] (γ 2) 0 0 (γ 3) := hS143 _ _ _ _ _ l1
  have l2 : sn114 [ρ 37, ρ 4] (γ 3) 0 (ρ 48) (γ 4) := hS114 _ _ _ _ _ l2
  have l3 : sn133 [ρ 0, ρ 1, ρ 2, ρ 9, ρ 28, ρ 11, ρ 12, ρ 38, ρ 14] (γ 5) 0 0 (γ 6) := hS133 _ _ _ _ _ l3
  show sn144 [ρ 0, ρ 1, ρ 2, ρ 3, ρ 4, ρ 5, ρ 6, ρ 7, ρ 8, ρ 9, ρ 10, ρ 11, ρ 12, ρ 13, ρ 14, ρ 15, ρ 16, ρ 17, ρ 18, ρ 19, ρ 20, ρ 21] (γ 0) 0 0 (γ 6)
  have hD : en144 (γ 0) (0, [ρ 22], γ 1) = .inr (0, 0, γ 6) := by
    unfold en144
    refine (if_pos (show (0 : Nat) = 0 by decide)).trans ?_
    refine (zLet_eq (show _ = γ 1 from rfl)).trans ?_
    refine (zLet_eq (show _ = ρ 22 from rfl)).trans ?_
    refine (zLet_eq m0).trans ?_
    refine (zLet_eq m1).trans ?_
    refine (zLet_eq m13).trans ?_
    refine (zLet_eq m35).trans ?_
    refine (if_neg w_0).trans ?_
    refine (zLet_eq (show fn141 [] (γ 1) = (0, 1, γ 2) from l0.symm)).trans ?_
    refine (zLet_eq (show _ = γ 2 from rfl)).trans ?_
    refine (if_pos zQ1_).trans ?_
    refine (if_neg w_1).trans ?_
    refine (zLet_eq (show fn143 [9 * ρ 1, ρ 22, ρ 13] (γ 2) = (0, 0, γ 3) from l1.symm)).trans ?_
    refine (zLet_eq (show _ = γ 3 from rfl)).trans ?_
    refine (if_neg zQ0_).trans ?_
    refine (zLet_eq (show fn114 [] (γ 3) = (0, ρ 48, γ 4) from l2.symm)).trans ?_
    refine (zLet_eq (show _ = γ 4 from rfl)).trans ?_
    refine (if_pos w_2).trans ?_
    refine (zLet_eq (show _ = ρ 48 from rfl)).trans ?_
    refine (zLet_eq m50).trans ?_
    refine (if_pos w_3).trans ?_
    refine (zLet_eq c5.symm).trans ?_
    refine (zLet_eq (show fn133 [] (γ 5) = (0, 0, γ 6) from l3.symm)).trans ?_
    refine (zLet_eq (show _ = γ 6 from rfl)).trans ?_
    refine (if_neg zQ0_).trans ?_
    rfl
  exact zGoo_aend hJ hD
theorem vn144a0_11 {S : Nat → zSpc} (hS102 : ∀ x g o v gz, S 102 x g o v gz → sn102 x g o v gz) (hS109 : ∀ x g o v gz, S 109 x g o v gz → sn109 x g o v gz) (hS114 : ∀ x g o v gz, S 114 x g o v gz → sn114 x g o v gz) (hS133 : ∀ x g o v gz, S 133 x g o v gz → sn133 x g o v gz) (hS141 : ∀ x g o v gz, S 141 x g o v gz → sn141 x g o v gz) (hS143 : ∀ x g o v gz, S 143 x g o v gz → sn143 x g o v gz) {a : List Int} {g : rHp} : ∀ (ρ : Nat → Int) (γ : Nat → rHp), jn144 a g 0 (zAg (zNA a144_ 0) ρ) (γ 1) → zO 22 S a g q144a0_11 ρ γ → zGl (fun i vs g1 => jn144 a g i vs g1) (sn144 a g) q144a0_11 ρ γ := by
  intro ρ γ hJ h
  obtain ⟨ha, hg, hr, hf, hm, hc, hl⟩ := h
  have ha : a = [ρ 0, ρ 1, ρ 2, ρ 3, ρ 4, ρ 5, ρ 6, ρ 7, ρ 8, ρ 9, ρ 10, ρ 11, ρ 12, ρ 13, ρ 14, ρ 15, ρ 16, ρ 17, ρ 18, ρ 19, ρ 20, ρ 21] := ha
  subst ha
  subst hg
  have hJ : jn144 [ρ 0, ρ 1, ρ 2, ρ 3, ρ 4, ρ 5, ρ 6, ρ 7, ρ 8, ρ 9, ρ 10, ρ 11, ρ 12, ρ 13, ρ 14, ρ 15, ρ 16, ρ 17, ρ 18, ρ 19, ρ 20, ρ 21] (γ 0) 0 [ρ 0, ρ 1, ρ 2, ρ 3, ρ 4, ρ 5, ρ 6, ρ 7, ρ 8, ρ 9, ρ 10, ρ 11, ρ 12, ρ 13, ρ 14, ρ 15, ρ 16, ρ 17, ρ 18, ρ 19, ρ 20, ρ 21, ρ 22, ρ 23, ρ 24, ρ 25, ρ 26, ρ 27, ρ 28, ρ 29, ρ 30, ρ 31, ρ 32, ρ 33, ρ 34, ρ 35, ρ 36] (γ 1) := hJ
  obtain ⟨-, -, -, -, -, -, -, -, -, -, -, -, -, -, -, -, -, -, -, -, -, -, r22, -, -, -, -, -, -, -, -, -, -, -, r34, -, -, -, -, -, -, -, -, -, -, -, -, -, r48, -⟩ := hr
  have r22 : (0 : Int) ≤ ρ 22 ∧ ρ 22 ≤ 3 := r22
  have r34 : ((-1) : Int) ≤ ρ 34 ∧ ρ 34 ≤ (-1) := r34
  have r48 : (41 : Int) ≤ ρ 48 ∧ ρ 48 ≤ 41 := r48
  obtain ⟨w_0, w_1, w_2, w_3⟩ : (¬ (ρ 22 ≥ 4)) ∧ (¬ (ρ 34 ≥ 0)) ∧ ((0 : Int) ≤ ρ 48) ∧ (ρ 48 = 41) := ⟨by omega, by omega, by omega, by omega⟩
  obtain ⟨m0, m1, -, -, -, -, -, -, -, -, -, -, -, m13, -, -, -, -, -, -, -, -, -, -, -, -, -, -, -, -, -, -, -, -, -, m35, -, -, -, -, -, -, -, -, -, -, -, -, -, -, m50, -⟩ := hm
  have m0 : γ 0 1 0 10 = ρ 0 := m0
  have m1 : γ 0 40 0 (ρ 0) = ρ 1 := m1
  have m13 : γ 0 2 0 5 = ρ 13 := m13
  have m35 : γ 1 10 (9 * ρ 1) 9 = ρ 34 := m35
  have m50 : γ 4 2 0 6 = ρ 49 := m50
  obtain ⟨⟨-, c5⟩, -⟩ := hc
  have c5 : γ 5 = rUp (γ 4) 2 0 6 (ρ 49 + 1) := c5
  obtain ⟨l0, l1, l2, l3, -⟩ := hl
  have l0 : sn141 [ρ 0, ρ 1, ρ 2, ρ 23, ρ 4, ρ 24, ρ 25, ρ 26, ρ 27, ρ 12, ρ 29, ρ 30, ρ 31, ρ 32, ρ 33, ρ 35, ρ 36] (γ 1) 0 1 (γ 2) := hS141 _ _ _ _ _ l0
  have l1 : sn143 [9 * ρ 1, ρ 22, ρ 13] (γ 2) 0 0 (γ 3) := hS143 _ _ _ _ _ l1
  have l2 : sn114 [ρ 37, ρ 4] (γ 3) 0 (ρ 48) (γ 4) := hS114 _ _ _ _ _ l2
  have l3 : sn133 [ρ 0, ρ 1, ρ 2, ρ 9, ρ 28, ρ 11, ρ 12, ρ 38, ρ 14] (γ 5) 0 1 (γ 6) := hS133 _ _ _ _ _ l3
  show sn144 [ρ 0, ρ 1, ρ 2, ρ 3, ρ 4, ρ 5, ρ 6, ρ 7, ρ 8, ρ 9, ρ 10, ρ 11, ρ 12, ρ 13, ρ 14, ρ 15, ρ 16, ρ 17, ρ 18, ρ 19, ρ 20, ρ 21] (γ 0) 0 1 (γ 6)
  have hD : en144 (γ 0) (0, [ρ 22], γ 1) = .inr (0, 1, γ 6) := by
    unfold en144
    refine (if_pos (show (0 : Nat) = 0 by decide)).trans ?_
    refine (zLet_eq (show _ = γ 1 from rfl)).trans ?_
    refine (zLet_eq (show _ = ρ 22 from rfl)).trans ?_
    refine (zLet_eq m0).trans ?_
    refine (zLet_eq m1).trans ?_
    refine (zLet_eq m13).trans ?_
    refine (zLet_eq m35).trans ?_
    refine (if_neg w_0).trans ?_
    refine (zLet_eq (show fn141 [] (γ 1) = (0, 1, γ 2) from l0.symm)).trans ?_
    refine (zLet_eq (show _ = γ 2 from rfl)).trans ?_
    refine (if_pos zQ1_).trans ?_
    refine (if_neg w_1).trans ?_
    refine (zLet_eq (show fn143 [9 * ρ 1, ρ 22, ρ 13] (γ 2) = (0, 0, γ 3) from l1.symm)).trans ?_
    refine (zLet_eq (show _ = γ 3 from rfl)).trans ?_
    refine (if_neg zQ0_).trans ?_
    refine (zLet_eq (show fn114 [] (γ 3) = (0, ρ 48, γ 4) from l2.symm)).trans ?_
    refine (zLet_eq (show _ = γ 4 from rfl)).trans ?_
    refine (if_pos w_2).trans ?_
    refine (zLet_eq (show _ = ρ 48 from rfl)).trans ?_
    refine (zLet_eq m50).trans ?_
    refine (if_pos w_3).trans ?_
    refine (zLet_eq c5.symm).trans ?_
    refine (zLet_eq (show fn133 [] (γ 5) = (0, 1, γ 6) from l3.symm)).trans ?_
    refine (zLet_eq (show _ = γ 6 from rfl)).trans ?_
    refine (if_pos zQ1_).trans ?_
    rfl
  exact zGoo_aend hJ hD
theorem vn144a0_12 {S : Nat → zSpc} (hS102 : ∀ x g o v gz, S 102 x g o v gz → sn102 x g o v gz) (hS109 : ∀ x g o v gz, S 109 x g o v gz → sn109 x g o v gz) (hS114 : ∀ x g o v gz, S 114 x g o v gz → sn114 x g o v gz) (hS133 : ∀ x g o v gz, S 133 x g o v gz → sn133 x g o v gz) (hS141 : ∀ x g o v gz, S 141 x g o v gz → sn141 x g o v gz) (hS143 : ∀ x g o v gz, S 143 x g o v gz → sn143 x g o v gz) {a : List Int} {g : rHp} : ∀ (ρ : Nat → Int) (γ : Nat → rHp), jn144 a g 0 (zAg (zNA a144_ 0) ρ) (γ 1) → zO 22 S a g q144a0_12 ρ γ → zGl (fun i vs g1 => jn144 a g i vs g1) (sn144 a g) q144a0_12 ρ γ := by
  intro ρ γ hJ h
  obtain ⟨ha, hg, hr, hf, hm, hc, hl⟩ := h
  have ha : a = [ρ 0, ρ 1, ρ 2, ρ 3, ρ 4, ρ 5, ρ 6, ρ 7, ρ 8, ρ 9, ρ 10, ρ 11, ρ 12, ρ 13, ρ 14, ρ 15, ρ 16, ρ 17, ρ 18, ρ 19, ρ 20, ρ 21] := ha
  subst ha
  subst hg
  have hJ : jn144 [ρ 0, ρ 1, ρ 2, ρ 3, ρ 4, ρ 5, ρ 6, ρ 7, ρ 8, ρ 9, ρ 10, ρ 11, ρ 12, ρ 13, ρ 14, ρ 15, ρ 16, ρ 17, ρ 18, ρ 19, ρ 20, ρ 21] (γ 0) 0 [ρ 0, ρ 1, ρ 2, ρ 3, ρ 4, ρ 5, ρ 6, ρ 7, ρ 8, ρ 9, ρ 10, ρ 11, ρ 12, ρ 13, ρ 14, ρ 15, ρ 16, ρ 17, ρ 18, ρ 19, ρ 20, ρ 21, ρ 22, ρ 23, ρ 24, ρ 25, ρ 26, ρ 27, ρ 28, ρ 29, ρ 30, ρ 31, ρ 32, ρ 33, ρ 34, ρ 35, ρ 36] (γ 1) := hJ
  obtain ⟨-, -, -, -, -, -, -, -, -, -, -, -, -, -, -, -, -, -, -, -, -, -, r22, -, -, -, -, -, -, -, -, -, -, -, r34, -, -, -, -, -, -, -, -, -, -, -, -, -, r48, -⟩ := hr
  have r22 : (0 : Int) ≤ ρ 22 ∧ ρ 22 ≤ 3 := r22
  have r34 : ((-1) : Int) ≤ ρ 34 ∧ ρ 34 ≤ (-1) := r34
  have r48 : (41 : Int) ≤ ρ 48 ∧ ρ 48 ≤ 41 := r48
  obtain ⟨w_0, w_1, w_2, w_3⟩ : (¬ (ρ 22 ≥ 4)) ∧ (¬ (ρ 34 ≥ 0)) ∧ ((0 : Int) ≤ ρ 48) ∧ (ρ 48 = 41) := ⟨by omega, by omega, by omega, by omega⟩
  obtain ⟨m0, m1, -, -, -, -, -, -, -, -, -, -, -, m13, -, -, -, -, -, -, -, -, -, -, -, -, -, -, -, -, -, -, -, -, -, m35, -, -, -, -, -, -, -, -, -, -, -, -, -, -, m50, -⟩ := hm
  have m0 : γ 0 1 0 10 = ρ 0 := m0
  have m1 : γ 0 40 0 (ρ 0) = ρ 1 := m1
  have m13 : γ 0 2 0 5 = ρ 13 := m13
  have m35 : γ 1 10 (9 * ρ 1) 9 = ρ 34 := m35
  have m50 : γ 4 2 0 6 = ρ 49 := m50
  obtain ⟨⟨-, c5⟩, -⟩ := hc
  have c5 : γ 5 = rUp (γ 4) 2 0 6 (ρ 49 + 1) := c5
  obtain ⟨l0, l1, l2, l3, -⟩ := hl
  have l0 : sn141 [ρ 0, ρ 1, ρ 2, ρ 23, ρ 4, ρ 24, ρ 25, ρ 26, ρ 27, ρ 12, ρ 29, ρ 30, ρ 31, ρ 32, ρ 33, ρ 35, ρ 36] (γ 1) 0 1 (γ 2) := hS141 _ _ _ _ _ l0
  have l1 : sn143 [9 * ρ 1, ρ 22, ρ 13] (γ 2) 0 0 (γ 3) := hS143 _ _ _ _ _ l1
  have l2 : sn114 [ρ 37, ρ 4] (γ 3) 0 (ρ 48) (γ 4) := hS114 _ _ _ _ _ l2
  have l3 : sn133 [ρ 0, ρ 1, ρ 2, ρ 9, ρ 28, ρ 11, ρ 12, ρ 38, ρ 14] (γ 5) 0 1 (γ 6) := hS133 _ _ _ _ _ l3
  show sn144 [ρ 0, ρ 1, ρ 2, ρ 3, ρ 4, ρ 5, ρ 6, ρ 7, ρ 8, ρ 9, ρ 10, ρ 11, ρ 12, ρ 13, ρ 14, ρ 15, ρ 16, ρ 17, ρ 18, ρ 19, ρ 20, ρ 21] (γ 0) 0 1 (γ 6)
  have hD : en144 (γ 0) (0, [ρ 22], γ 1) = .inr (0, 1, γ 6) := by
    unfold en144
    refine (if_pos (show (0 : Nat) = 0 by decide)).trans ?_
    refine (zLet_eq (show _ = γ 1 from rfl)).trans ?_
    refine (zLet_eq (show _ = ρ 22 from rfl)).trans ?_
    refine (zLet_eq m0).trans ?_
    refine (zLet_eq m1).trans ?_
    refine (zLet_eq m13).trans ?_
    refine (zLet_eq m35).trans ?_
    refine (if_neg w_0).trans ?_
    refine (zLet_eq (show fn141 [] (γ 1) = (0, 1, γ 2) from l0.symm)).trans ?_
    refine (zLet_eq (show _ = γ 2 from rfl)).trans ?_
    refine (if_pos zQ1_).trans ?_
    refine (if_neg w_1).trans ?_
    refine (zLet_eq (show fn143 [9 * ρ 1, ρ 22, ρ 13] (γ 2) = (0, 0, γ 3) from l1.symm)).trans ?_
    refine (zLet_eq (show _ = γ 3 from rfl)).trans ?_
    refine (if_neg zQ0_).trans ?_
    refine (zLet_eq (show fn114 [] (γ 3) = (0, ρ 48, γ 4) from l2.symm)).trans ?_
    refine (zLet_eq (show _ = γ 4 from rfl)).trans ?_
    refine (if_pos w_2).trans ?_
    refine (zLet_eq (show _ = ρ 48 from rfl)).trans ?_
    refine (zLet_eq m50).trans ?_
    refine (if_pos w_3).trans ?_
    refine (zLet_eq c5.symm).trans ?_
    refine (zLet_eq (show fn133 [] (γ 5) = (0, 1, γ 6) from l3.symm)).trans ?_
    refine (zLet_eq (show _ = γ 6 from rfl)).trans ?_
    refine (if_pos zQ1_).trans ?_
    rfl
  exact zGoo_aend hJ hD
theorem vn144a0_13 {S : Nat → zSpc} (hS102 : ∀ x g o v gz, S 102 x g o v gz → sn102 x g o v gz) (hS109 : ∀ x g o v gz, S 109 x g o v gz → sn109 x g o v gz) (hS114 : ∀ x g o v gz, S 114 x g o v gz → sn114 x g o v gz) (hS133 : ∀ x g o v gz, S 133 x g o v gz → sn133 x g o v gz) (hS141 : ∀ x g o v gz, S 141 x g o v gz → sn141 x g o v gz) (hS143 : ∀ x g o v gz, S 143 x g o v gz → sn143 x g o v gz) {a : List Int} {g : rHp} : ∀ (ρ : Nat → Int) (γ : Nat → rHp), jn144 a g 0 (zAg (zNA a144_ 0) ρ) (γ 1) → zO 22 S a g q144a0_13 ρ γ → zGl (fun i vs g1 => jn144 a g i vs g1) (sn144 a g) q144a0_13 ρ γ := by
  intro ρ γ hJ h
  obtain ⟨ha, hg, hr, hf, hm, hc, hl⟩ := h
  have ha : a = [ρ 0, ρ 1, ρ 2, ρ 3, ρ 4, ρ 5, ρ 6, ρ 7, ρ 8, ρ 9, ρ 10, ρ 11, ρ 12, ρ 13, ρ 14, ρ 15, ρ 16, ρ 17, ρ 18, ρ 19, ρ 20, ρ 21] := ha
  subst ha
  subst hg
  have hJ : jn144 [ρ 0, ρ 1, ρ 2, ρ 3, ρ 4, ρ 5, ρ 6, ρ 7, ρ 8, ρ 9, ρ 10, ρ 11, ρ 12, ρ 13, ρ 14, ρ 15, ρ 16, ρ 17, ρ 18, ρ 19, ρ 20, ρ 21] (γ 0) 0 [ρ 0, ρ 1, ρ 2, ρ 3, ρ 4, ρ 5, ρ 6, ρ 7, ρ 8, ρ 9, ρ 10, ρ 11, ρ 12, ρ 13, ρ 14, ρ 15, ρ 16, ρ 17, ρ 18, ρ 19, ρ 20, ρ 21, ρ 22, ρ 23, ρ 24, ρ 25, ρ 26, ρ 27, ρ 28, ρ 29, ρ 30, ρ 31, ρ 32, ρ 33, ρ 34, ρ 35, ρ 36] (γ 1) := hJ
  obtain ⟨-, -, -, -, -, -, -, -, -, -, -, -, -, -, -, -, -, -, -, -, -, -, r22, -, -, -, -, -, -, -, -, -, -, -, r34, -, -, -, -, -, -, -, -, -, -, -, -, -, r48, -⟩ := hr
  have r22 : (0 : Int) ≤ ρ 22 ∧ ρ 22 ≤ 3 := r22
  have r34 : ((-1) : Int) ≤ ρ 34 ∧ ρ 34 ≤ (-1) := r34
  have r48 : (44 : Int) ≤ ρ 48 ∧ ρ 48 ≤ 44 := r48
  obtain ⟨w_0, w_1, w_2, w_3, w_4⟩ : (¬ (ρ 22 ≥ 4)) ∧ (¬ (ρ 34 ≥ 0)) ∧ ((0 : Int) ≤ ρ 48) ∧ (¬ (ρ 48 = 41)) ∧ (ρ 48 = 44) := ⟨by omega, by omega, by omega, by omega, by omega⟩
  obtain ⟨m0, m1, -, -, -, -, -, -, -, -, -, -, -, m13, -, -, -, -, -, -, -, -, -, -, -, -, -, -, -, -, -, -, -, -, -, m35, -, -, -, -, -, -, -, -, -, -, -, -, -, -, m50, -⟩ := hm
  have m0 : γ 0 1 0 10 = ρ 0 := m0
  have m1 : γ 0 40 0 (ρ 0) = ρ 1 := m1
  have m13 : γ 0 2 0 5 = ρ 13 := m13
  have m35 : γ 1 10 (9 * ρ 1) 9 = ρ 34 := m35
  have m50 : γ 4 2 0 6 = ρ 49 := m50
  obtain ⟨-, c5⟩ := hc
  have c5 : γ 5 = rUp (γ 4) 2 0 6 (ρ 49 + 1) := c5
  obtain ⟨l0, l1, l2, l3, -⟩ := hl
  have l0 : sn141 [ρ 0, ρ 1, ρ 2, ρ 23, ρ 4, ρ 24, ρ 25, ρ 26, ρ 27, ρ 12, ρ 29, ρ 30, ρ 31, ρ 32, ρ 33, ρ 35, ρ 36] (γ 1) 0 1 (γ 2) := hS141 _ _ _ _ _ l0
  have l1 : sn143 [9 * ρ 1, ρ 22, ρ 13] (γ 2) 0 0 (γ 3) := hS143 _ _ _ _ _ l1
  have l2 : sn114 [ρ 37, ρ 4] (γ 3) 0 (ρ 48) (γ 4) := hS114 _ _ _ _ _ l2
  have l3 : ρ 48 ≠ 41 := l3
  show jn144 [ρ 0, ρ 1, ρ 2, ρ 3, ρ 4, ρ 5, ρ 6, ρ 7, ρ 8, ρ 9, ρ 10, ρ 11, ρ 12, ρ 13, ρ 14, ρ 15, ρ 16, ρ 17, ρ 18, ρ 19, ρ 20, ρ 21] (γ 0) 0 [ρ 0, ρ 1, ρ 2, ρ 3, ρ 4, ρ 5, ρ 6, ρ 7, ρ 8, ρ 9, ρ 10, ρ 11, ρ 12, ρ 13, ρ 14, ρ 15, ρ 16, ρ 17, ρ 18, ρ 19, ρ 20, ρ 21, ρ 22 + 1, ρ 49 + 1, ρ 38, ρ 39, ρ 40, ρ 27, ρ 28, ρ 41, ρ 42, ρ 43, ρ 44, ρ 45, ρ 34, ρ 46, ρ 47] (γ 5)
  have hD : en144 (γ 0) (0, [ρ 22], γ 1) = .inl (0, [ρ 22 + 1], γ 5) := by
    unfold en144
    refine (if_pos (show (0 : Nat) = 0 by decide)).trans ?_
    refine (zLet_eq (show _ = γ 1 from rfl)).trans ?_
    refine (zLet_eq (show _ = ρ 22 from rfl)).trans ?_
    refine (zLet_eq m0).trans ?_
    refine (zLet_eq m1).trans ?_
    refine (zLet_eq m13).trans ?_
    refine (zLet_eq m35).trans ?_
    refine (if_neg w_0).trans ?_
    refine (zLet_eq (show fn141 [] (γ 1) = (0, 1, γ 2) from l0.symm)).trans ?_
    refine (zLet_eq (show _ = γ 2 from rfl)).trans ?_
    refine (if_pos zQ1_).trans ?_
    refine (if_neg w_1).trans ?_
    refine (zLet_eq (show fn143 [9 * ρ 1, ρ 22, ρ 13] (γ 2) = (0, 0, γ 3) from l1.symm)).trans ?_
    refine (zLet_eq (show _ = γ 3 from rfl)).trans ?_
    refine (if_neg zQ0_).trans ?_
    refine (zLet_eq (show fn114 [] (γ 3) = (0, ρ 48, γ 4) from l2.symm)).trans ?_
    refine (zLet_eq (show _ = γ 4 from rfl)).trans ?_
    refine (if_pos w_2).trans ?_
    refine (zLet_eq (show _ = ρ 48 from rfl)).trans ?_
    refine (zLet_eq m50).trans ?_
    refine (if_neg w_3).trans ?_
    refine (if_pos w_4).trans ?_
    refine (zLet_eq c5.symm).trans ?_
    rfl
  exact zGoo_ato hJ hD
theorem vn144a0_14 {S : Nat → zSpc} (hS102 : ∀ x g o v gz, S 102 x g o v gz → sn102 x g o v gz) (hS109 : ∀ x g o v gz, S 109 x g o v gz → sn109 x g o v gz) (hS114 : ∀ x g o v gz, S 114 x g o v gz → sn114 x g o v gz) (hS133 : ∀ x g o v gz, S 133 x g o v gz → sn133 x g o v gz) (hS141 : ∀ x g o v gz, S 141 x g o v gz → sn141 x g o v gz) (hS143 : ∀ x g o v gz, S 143 x g o v gz → sn143 x g o v gz) {a : List Int} {g : rHp} : ∀ (ρ : Nat → Int) (γ : Nat → rHp), jn144 a g 0 (zAg (zNA a144_ 0) ρ) (γ 1) → zO 22 S a g q144a0_14 ρ γ → zGl (fun i vs g1 => jn144 a g i vs g1) (sn144 a g) q144a0_14 ρ γ := by
  intro ρ γ hJ h
  obtain ⟨ha, hg, hr, hf, hm, hc, hl⟩ := h
  have ha : a = [ρ 0, ρ 1, ρ 2, ρ 3, ρ 4, ρ 5, ρ 6, ρ 7, ρ 8, ρ 9, ρ 10, ρ 11, ρ 12, ρ 13, ρ 14, ρ 15, ρ 16, ρ 17, ρ 18, ρ 19, ρ 20, ρ 21] := ha
  subst ha
  subst hg
  have hJ : jn144 [ρ 0, ρ 1, ρ 2, ρ 3, ρ 4, ρ 5, ρ 6, ρ 7, ρ 8, ρ 9, ρ 10, ρ 11, ρ 12, ρ 13, ρ 14, ρ 15, ρ 16, ρ 17, ρ 18, ρ 19, ρ 20, ρ 21] (γ 0) 0 [ρ 0, ρ 1, ρ 2, ρ 3, ρ 4, ρ 5, ρ 6, ρ 7, ρ 8, ρ 9, ρ 10, ρ 11, ρ 12, ρ 13, ρ 14, ρ 15, ρ 16, ρ 17, ρ 18, ρ 19, ρ 20, ρ 21, ρ 22, ρ 23, ρ 24, ρ 25, ρ 26, ρ 27, ρ 28, ρ 29, ρ 30, ρ 31, ρ 32, ρ 33, ρ 34, ρ 35, ρ 36] (γ 1) := hJ
  obtain ⟨-, -, -, -, -, -, -, -, -, -, -, -, -, -, -, -, -, -, -, -, -, -, r22, -, -, -, -, -, -, -, -, -, -, -, r34, -, -, -, -, -, -, -, -, -, -, -, -, -, r48, -⟩ := hr
  have r22 : (0 : Int) ≤ ρ 22 ∧ ρ 22 ≤ 3 := r22
  have r34 : ((-1) : Int) ≤ ρ 34 ∧ ρ 34 ≤ (-1) := r34
  have r48 : (0 : Int) ≤ ρ 48 ∧ ρ 48 ≤ 255 := r48
  obtain ⟨w_0, w_1, w_2⟩ : (¬ (ρ 22 ≥ 4)) ∧ (¬ (ρ 34 ≥ 0)) ∧ ((0 : Int) ≤ ρ 48) := ⟨by omega, by omega, by omega⟩
  obtain ⟨m0, m1, -, -, -, -, -, -, -, -, -, -, -, m13, -, -, -, -, -, -, -, -, -, -, -, -, -, -, -, -, -, -, -, -, -, m35, -, -, -, -, -, -, -, -, -, -, -, -, -, -, m50, -⟩ := hm
  have m0 : γ 0 1 0 10 = ρ 0 := m0
  have m1 : γ 0 40 0 (ρ 0) = ρ 1 := m1
  have m13 : γ 0 2 0 5 = ρ 13 := m13
  have m35 : γ 1 10 (9 * ρ 1) 9 = ρ 34 := m35
  have m50 : γ 4 2 0 6 = ρ 49 := m50
  obtain ⟨l0, l1, l2, l3, l4, l5, -⟩ := hl
  have l0 : sn141 [ρ 0, ρ 1, ρ 2, ρ 23, ρ 4, ρ 24, ρ 25, ρ 26, ρ 27, ρ 12, ρ 29, ρ 30, ρ 31, ρ 32, ρ 33, ρ 35, ρ 36] (γ 1) 0 1 (γ 2) := hS141 _ _ _ _ _ l0
  have l1 : sn143 [9 * ρ 1, ρ 22, ρ 13] (γ 2) 0 0 (γ 3) := hS143 _ _ _ _ _ l1
  have l2 : sn114 [ρ 37, ρ 4] (γ 3) 0 (ρ 48) (γ 4) := hS114 _ _ _ _ _ l2
  have l3 : ρ 48 ≠ 41 := l3
  have l4 : ρ 48 ≠ 44 := l4
  have l5 : sn109 [ρ 49, ρ 12] (γ 4) 0 0 (γ 5) := hS109 _ _ _ _ _ l5
  obtain ⟨wl_0, wl_1⟩ : (¬ (ρ 48 = 41)) ∧ (¬ (ρ 48 = 44)) := ⟨by omega, by omega⟩
  show sn144 [ρ 0, ρ 1, ρ 2, ρ 3, ρ 4, ρ 5, ρ 6, ρ 7, ρ 8, ρ 9, ρ 10, ρ 11, ρ 12, ρ 13, ρ 14, ρ 15, ρ 16, ρ 17, ρ 18, ρ 19, ρ 20, ρ 21] (γ 0) 0 0 (γ 5)
  have hD : en144 (γ 0) (0, [ρ 22], γ 1) = .inr (0, 0, γ 5) := by
    unfold en144
    refine (if_pos (show (0 : Nat) = 0 by decide)).trans ?_
    refine (zLet_eq (show _ = γ 1 from rfl)).trans ?_
    refine (zLet_eq (show _ = ρ 22 from rfl)).trans ?_
    refine (zLet_eq m0).trans ?_
    refine (zLet_eq m1).trans ?_
    refine (zLet_eq m13).trans ?_
    refine (zLet_eq m35).trans ?_
    refine (if_neg w_0).trans ?_
    refine (zLet_eq (show fn141 [] (γ 1) = (0, 1, γ 2) from l0.symm)).trans ?_
    refine (zLet_eq (show _ = γ 2 from rfl)).trans ?_
    refine (if_pos zQ1_).trans ?_
    refine (if_neg w_1).trans ?_
    refine (zLet_eq (show fn143 [9 * ρ 1, ρ 22, ρ 13] (γ 2) = (0, 0, γ 3) from l1.symm)).trans ?_
    refine (zLet_eq (show _ = γ 3 from rfl)).trans ?_
    refine (if_neg zQ0_).trans ?_
    refine (zLet_eq (show fn114 [] (γ 3) = (0, ρ 48, γ 4) from l2.symm)).trans ?_
    refine (zLet_eq (show _ = γ 4 from rfl)).trans ?_
    refine (if_pos w_2).trans ?_
    refine (zLet_eq (show _ = ρ 48 from rfl)).trans ?_
    refine (zLet_eq m50).trans ?_
    refine (if_neg wl_0).trans ?_
    refine (if_neg wl_1).trans ?_
    refine (zLet_eq (show fn109 [ρ 49] (γ 4) = (0, 0, γ 5) from l5.symm)).trans ?_
    refine (zLet_eq (show _ = γ 5 from rfl)).trans ?_
    rfl
  exact zGoo_aend hJ hD
theorem vn144a0_15 {S : Nat → zSpc} (hS102 : ∀ x g o v gz, S 102 x g o v gz → sn102 x g o v gz) (hS109 : ∀ x g o v gz, S 109 x g o v gz → sn109 x g o v gz) (hS114 : ∀ x g o v gz, S 114 x g o v gz → sn114 x g o v gz) (hS133 : ∀ x g o v gz, S 133 x g o v gz → sn133 x g o v gz) (hS141 : ∀ x g o v gz, S 141 x g o v gz → sn141 x g o v gz) (hS143 : ∀ x g o v gz, S 143 x g o v gz → sn143 x g o v gz) {a : List Int} {g : rHp} : ∀ (ρ : Nat → Int) (γ : Nat → rHp), jn144 a g 0 (zAg (zNA a144_ 0) ρ) (γ 1) → zO 22 S a g q144a0_15 ρ γ → zGl (fun i vs g1 => jn144 a g i vs g1) (sn144 a g) q144a0_15 ρ γ := by
  intro ρ γ hJ h
  obtain ⟨ha, hg, hr, hf, hm, hc, hl⟩ := h
  have ha : a = [ρ 0, ρ 1, ρ 2, ρ 3, ρ 4, ρ 5, ρ 6, ρ 7, ρ 8, ρ 9, ρ 10, ρ 11, ρ 12, ρ 13, ρ 14, ρ 15, ρ 16, ρ 17, ρ 18, ρ 19, ρ 20, ρ 21] := ha
  subst ha
  subst hg
  have hJ : jn144 [ρ 0, ρ 1, ρ 2, ρ 3, ρ 4, ρ 5, ρ 6, ρ 7, ρ 8, ρ 9, ρ 10, ρ 11, ρ 12, ρ 13, ρ 14, ρ 15, ρ 16, ρ 17, ρ 18, ρ 19, ρ 20, ρ 21] (γ 0) 0 [ρ 0, ρ 1, ρ 2, ρ 3, ρ 4, ρ 5, ρ 6, ρ 7, ρ 8, ρ 9, ρ 10, ρ 11, ρ 12, ρ 13, ρ 14, ρ 15, ρ 16, ρ 17, ρ 18, ρ 19, ρ 20, ρ 21, ρ 22, ρ 23, ρ 24, ρ 25, ρ 26, ρ 27, ρ 28, ρ 29, ρ 30, ρ 31, ρ 32, ρ 33, ρ 34, ρ 35, ρ 36] (γ 1) := hJ
  obtain ⟨-, -, -, -, -, -, -, -, -, -, -, -, -, -, -, -, -, -, -, -, -, -, r22, -, -, -, -, -, -, -, -, -, -, -, r34, -⟩ := hr
  have r22 : (0 : Int) ≤ ρ 22 ∧ ρ 22 ≤ 3 := r22
  have r34 : ((-1) : Int) ≤ ρ 34 ∧ ρ 34 ≤ (-1) := r34
  obtain ⟨w_0, w_1⟩ : (¬ (ρ 22 ≥ 4)) ∧ (¬ (ρ 34 ≥ 0)) := ⟨by omega, by omega⟩
  obtain ⟨m0, m1, -, -, -, -, -, -, -, -, -, -, -, m13, -, -, -, -, -, -, -, -, -, -, -, -, -, -, -, -, -, -, -, -, -, m35, -, -, -, -, -, -, -, -, -, -, -, -, -, -, m50, -⟩ := hm
  have m0 : γ 0 1 0 10 = ρ 0 := m0
  have m1 : γ 0 40 0 (ρ 0) = ρ 1 := m1
  have m13 : γ 0 2 0 5 = ρ 13 := m13
  have m35 : γ 1 10 (9 * ρ 1) 9 = ρ 34 := m35
  have m50 : γ 5 2 0 6 = ρ 48 := m50
  obtain ⟨⟨⟨-, c4⟩, -⟩, -⟩ := hc
  have c4 : γ 4 = rUp (γ 3) 10 (9 * ρ 1) 9 (ρ 22) := c4
  obtain ⟨l0, l1, l2, l3, -⟩ := hl
  have l0 : sn141 [ρ 0, ρ 1, ρ 2, ρ 23, ρ 4, ρ 24, ρ 25, ρ 26, ρ 27, ρ 12, ρ 29, ρ 30, ρ 31, ρ 32, ρ 33, ρ 35, ρ 36] (γ 1) 0 1 (γ 2) := hS141 _ _ _ _ _ l0
  have l1 : sn143 [9 * ρ 1, ρ 22, ρ 13] (γ 2) 0 1 (γ 3) := hS143 _ _ _ _ _ l1
  have l2 : sn114 [ρ 37, ρ 4] (γ 4) 0 (-1) (γ 5) := hS114 _ _ _ _ _ l2
  have l3 : sn109 [ρ 48, ρ 12] (γ 5) 0 0 (γ 6) := hS109 _ _ _ _ _ l3
  show sn144 [ρ 0, ρ 1, ρ 2, ρ 3, ρ 4, ρ 5, ρ 6, ρ 7, ρ 8, ρ 9, ρ 10, ρ 11, ρ 12, ρ 13, ρ 14, ρ 15, ρ 16, ρ 17, ρ 18, ρ 19, ρ 20, ρ 21] (γ 0) 0 0 (γ 6)
  have hD : en144 (γ 0) (0, [ρ 22], γ 1) = .inr (0, 0, γ 6) := by
    unfold en144
    refine (if_pos (show (0 : Nat) = 0 by decide)).trans ?_
    refine (zLet_eq (show _ = γ 1 from rfl)).trans ?_
    refine (zLet_eq (show _ = ρ 22 from rfl)).trans ?_
    refine (zLet_eq m0).trans ?_
    refine (zLet_eq m1).trans ?_
    refine (zLet_eq m13).trans ?_
    refine (zLet_eq m35).trans ?_
    refine (if_neg w_0).trans ?_
    refine (zLet_eq (show fn141 [] (γ 1) = (0, 1, γ 2) from l0.symm)).trans ?_
    refine (zLet_eq (show _ = γ 2 from rfl)).trans ?_
    refine (if_pos zQ1_).trans ?_
    refine (if_neg w_1).trans ?_
    refine (zLet_eq (show fn143 [9 * ρ 1, ρ 22, ρ 13] (γ 2) = (0, 1, γ 3) from l1.symm)).trans ?_
    refine (zLet_eq (show _ = γ 3 from rfl)).trans ?_
    refine (if_pos zQ1_).trans ?_
    refine (zLet_eq c4.symm).trans ?_
    refine (zLet_eq (show fn114 [] (γ 4) = (0, (-1), γ 5) from l2.symm)).trans ?_
    refine (zLet_eq (show _ = γ 5 from rfl)).trans ?_
    refine (if_neg zQ2_).trans ?_
    refine (zLet_eq m50).trans ?_
    refine (zLet_eq (show fn109 [ρ 48] (γ 5) = (0, 0, γ 6) from l3.symm)).trans ?_
    refine (zLet_eq (show _ = γ 6 from rfl)).trans ?_
    rfl
  exact zGoo_aend hJ hD
theorem vn144a0_16 {S : Nat → zSpc} (hS102 : ∀ x g o v gz, S 102 x g o v gz → sn102 x g o v gz) (hS109 : ∀ x g o v gz, S 109 x g o v gz → sn109 x g o v gz) (hS114 : ∀ x g o v gz, S 114 x g o v gz → sn114 x g o v gz) (hS133 : ∀ x g o v gz, S 133 x g o v gz → sn133 x g o v gz) (hS141 : ∀ x g o v gz, S 141 x g o v gz → sn141 x g o v gz) (hS143 : ∀ x g o v gz, S 143 x g o v gz → sn143 x g o v gz) {a : List Int} {g : rHp} : ∀ (ρ : Nat → Int) (γ : Nat → rHp), jn144 a g 0 (zAg (zNA a144_ 0) ρ) (γ 1) → zO 22 S a g q144a0_16 ρ γ → zGl (fun i vs g1 => jn144 a g i vs g1) (sn144 a g) q144a0_16 ρ γ := by
  intro ρ γ hJ h
  obtain ⟨ha, hg, hr, hf, hm, hc, hl⟩ := h
  have ha : a = [ρ 0, ρ 1, ρ 2, ρ 3, ρ 4, ρ 5, ρ 6, ρ 7, ρ 8, ρ 9, ρ 10, ρ 11, ρ 12, ρ 13, ρ 14, ρ 15, ρ 16, ρ 17, ρ 18, ρ 19, ρ 20, ρ 21] := ha
  subst ha
  subst hg
  have hJ : jn144 [ρ 0, ρ 1, ρ 2, ρ 3, ρ 4, ρ 5, ρ 6, ρ 7, ρ 8, ρ 9, ρ 10, ρ 11, ρ 12, ρ 13, ρ 14, ρ 15, ρ 16, ρ 17, ρ 18, ρ 19, ρ 20, ρ 21] (γ 0) 0 [ρ 0, ρ 1, ρ 2, ρ 3, ρ 4, ρ 5, ρ 6, ρ 7, ρ 8, ρ 9, ρ 10, ρ 11, ρ 12, ρ 13, ρ 14, ρ 15, ρ 16, ρ 17, ρ 18, ρ 19, ρ 20, ρ 21, ρ 22, ρ 23, ρ 24, ρ 25, ρ 26, ρ 27, ρ 28, ρ 29, ρ 30, ρ 31, ρ 32, ρ 33, ρ 34, ρ 35, ρ 36] (γ 1) := hJ
  obtain ⟨-, -, -, -, -, -, -, -, -, -, -, -, -, -, -, -, -, -, -, -, -, -, r22, -, -, -, -, -, -, -, -, -, -, -, r34, -, -, -, -, -, -, -, -, -, -, -, -, -, r48, -⟩ := hr
  have r22 : (0 : Int) ≤ ρ 22 ∧ ρ 22 ≤ 3 := r22
  have r34 : ((-1) : Int) ≤ ρ 34 ∧ ρ 34 ≤ (-1) := r34
  have r48 : (41 : Int) ≤ ρ 48 ∧ ρ 48 ≤ 41 := r48
  obtain ⟨w_0, w_1, w_2, w_3⟩ : (¬ (ρ 22 ≥ 4)) ∧ (¬ (ρ 34 ≥ 0)) ∧ ((0 : Int) ≤ ρ 48) ∧ (ρ 48 = 41) := ⟨by omega, by omega, by omega, by omega⟩
  obtain ⟨m0, m1, -, -, -, -, -, -, -, -, -, -, -, m13, -, -, -, -, -, -, -, -, -, -, -, -, -, -, -, -, -, -, -, -, -, m35, -, -, -, -, -, -, -, -, -, -, -, -, -, -, m50, -⟩ := hm
  have m0 : γ 0 1 0 10 = ρ 0 := m0
  have m1 : γ 0 40 0 (ρ 0) = ρ 1 := m1
  have m13 : γ 0 2 0 5 = ρ 13 := m13
  have m35 : γ 1 10 (9 * ρ 1) 9 = ρ 34 := m35
  have m50 : γ 5 2 0 6 = ρ 49 := m50
  obtain ⟨⟨⟨⟨-, c4⟩, -⟩, c6⟩, -⟩ := hc
  have c4 : γ 4 = rUp (γ 3) 10 (9 * ρ 1) 9 (ρ 22) := c4
  have c6 : γ 6 = rUp (γ 5) 2 0 6 (ρ 49 + 1) := c6
  obtain ⟨l0, l1, l2, l3, -⟩ := hl
  have l0 : sn141 [ρ 0, ρ 1, ρ 2, ρ 23, ρ 4, ρ 24, ρ 25, ρ 26, ρ 27, ρ 12, ρ 29, ρ 30, ρ 31, ρ 32, ρ 33, ρ 35, ρ 36] (γ 1) 0 1 (γ 2) := hS141 _ _ _ _ _ l0
  have l1 : sn143 [9 * ρ 1, ρ 22, ρ 13] (γ 2) 0 1 (γ 3) := hS143 _ _ _ _ _ l1
  have l2 : sn114 [ρ 37, ρ 4] (γ 4) 0 (ρ 48) (γ 5) := hS114 _ _ _ _ _ l2
  have l3 : sn133 [ρ 0, ρ 1, ρ 2, ρ 9, ρ 28, ρ 11, ρ 12, ρ 38, ρ 14] (γ 6) 0 0 (γ 7) := hS133 _ _ _ _ _ l3
  show sn144 [ρ 0, ρ 1, ρ 2, ρ 3, ρ 4, ρ 5, ρ 6, ρ 7, ρ 8, ρ 9, ρ 10, ρ 11, ρ 12, ρ 13, ρ 14, ρ 15, ρ 16, ρ 17, ρ 18, ρ 19, ρ 20, ρ 21] (γ 0) 0 0 (γ 7)
  have hD : en144 (γ 0) (0, [ρ 22], γ 1) = .inr (0, 0, γ 7) := by
    unfold en144
    refine (if_pos (show (0 : Nat) = 0 by decide)).trans ?_
    refine (zLet_eq (show _ = γ 1 from rfl)).trans ?_
    refine (zLet_eq (show _ = ρ 22 from rfl)).trans ?_
    refine (zLet_eq m0).trans ?_
    refine (zLet_eq m1).trans ?_
    refine (zLet_eq m13).trans ?_
    refine (zLet_eq m35).trans ?_
    refine (if_neg w_0).trans ?_
    refine (zLet_eq (show fn141 [] (γ 1) = (0, 1, γ 2) from l0.symm)).trans ?_
    refine (zLet_eq (show _ = γ 2 from rfl)).trans ?_
    refine (if_pos zQ1_).trans ?_
    refine (if_neg w_1).trans ?_
    refine (zLet_eq (show fn143 [9 * ρ 1, ρ 22, ρ 13] (γ 2) = (0, 1, γ 3) from l1.symm)).trans ?_
    refine (zLet_eq (show _ = γ 3 from rfl)).trans ?_
    refine (if_pos zQ1_).trans ?_
    refine (zLet_eq c4.symm).trans ?_
    refine (zLet_eq (show fn114 [] (γ 4) = (0, ρ 48, γ 5) from l2.symm)).trans ?_
    refine (zLet_eq (show _ = γ 5 from rfl)).trans ?_
    refine (if_pos w_2).trans ?_
    refine (zLet_eq (show _ = ρ 48 from rfl)).trans ?_
    refine (zLet_eq m50).trans ?_
    refine (if_pos w_3).trans ?_
    refine (zLet_eq c6.symm).trans ?_
    refine (zLet_eq (show fn133 [] (γ 6) = (0, 0, γ 7) from l3.symm)).trans ?_
    refine (zLet_eq (show _ = γ 7 from rfl)).trans ?_
    refine (if_neg zQ0_).trans ?_
    rfl
  exact zGoo_aend hJ hD
theorem vn144a0_17 {S : Nat → zSpc} (hS102 : ∀ x g o v gz, S 102 x g o v gz → sn102 x g o v gz) (hS109 : ∀ x g o v gz, S 109 x g o v gz → sn109 x g o v gz) (hS114 : ∀ x g o v gz, S 114 x g o v gz → sn114 x g o v gz) (hS133 : ∀ x g o v gz, S 133 x g o v gz → sn133 x g o v gz) (hS141 : ∀ x g o v gz, S 141 x g o v gz → sn141 x g o v gz) (hS143 : ∀ x g o v gz, S 143 x g o v gz → sn143 x g o v gz) {a : List Int} {g : rHp} : ∀ (ρ : Nat → Int) (γ : Nat → rHp), jn144 a g 0 (zAg (zNA a144_ 0) ρ) (γ 1) → zO 22 S a g q144a0_17 ρ γ → zGl (fun i vs g1 => jn144 a g i vs g1) (sn144 a g) q144a0_17 ρ γ := by
  intro ρ γ hJ h
  obtain ⟨ha, hg, hr, hf, hm, hc, hl⟩ := h
  have ha : a = [ρ 0, ρ 1, ρ 2, ρ 3, ρ 4, ρ 5, ρ 6, ρ 7, ρ 8, ρ 9, ρ 10, ρ 11, ρ 12, ρ 13, ρ 14, ρ 15, ρ 16, ρ 17, ρ 18, ρ 19, ρ 20, ρ 21] := ha
  subst ha
  subst hg
  have hJ : jn144 [ρ 0, ρ 1, ρ 2, ρ 3, ρ 4, ρ 5, ρ 6, ρ 7, ρ 8, ρ 9, ρ 10, ρ 11, ρ 12, ρ 13, ρ 14, ρ 15, ρ 16, ρ 17, ρ 18, ρ 19, ρ 20, ρ 21] (γ 0) 0 [ρ 0, ρ 1, ρ 2, ρ 3, ρ 4, ρ 5, ρ 6, ρ 7, ρ 8, ρ 9, ρ 10, ρ 11, ρ 12, ρ 13, ρ 14, ρ 15, ρ 16, ρ 17, ρ 18, ρ 19, ρ 20, ρ 21, ρ 22, ρ 23, ρ 24, ρ 25, ρ 26, ρ 27, ρ 28, ρ 29, ρ 30, ρ 31, ρ 32, ρ 33, ρ 34, ρ 35, ρ 36] (γ 1) := hJ
  obtain ⟨-, -, -, -, -, -, -, -, -, -, -, -, -, -, -, -, -, -, -, -, -, -, r22, -, -, -, -, -, -, -, -, -, -, -, r34, -, -, -, -, -, -, -, -, -, -, -, -, -, r48, -⟩ := hr
  have r22 : (0 : Int) ≤ ρ 22 ∧ ρ 22 ≤ 3 := r22
  have r34 : ((-1) : Int) ≤ ρ 34 ∧ ρ 34 ≤ (-1) := r34
  have r48 : (41 : Int) ≤ ρ 48 ∧ ρ 48 ≤ 41 := r48
  obtain ⟨w_0, w_1, w_2, w_3⟩ : (¬ (ρ 22 ≥ 4)) ∧ (¬ (ρ 34 ≥ 0)) ∧ ((0 : Int) ≤ ρ 48) ∧ (ρ 48 = 41) := ⟨by omega, by omega, by omega, by omega⟩
  obtain ⟨m0, m1, -, -, -, -, -, -, -, -, -, -, -, m13, -, -, -, -, -, -, -, -, -, -, -, -, -, -, -, -, -, -, -, -, -, m35, -, -, -, -, -, -, -, -, -, -, -, -, -, -, m50, -⟩ := hm
  have m0 : γ 0 1 0 10 = ρ 0 := m0
  have m1 : γ 0 40 0 (ρ 0) = ρ 1 := m1
  have m13 : γ 0 2 0 5 = ρ 13 := m13
  have m35 : γ 1 10 (9 * ρ 1) 9 = ρ 34 := m35
  have m50 : γ 5 2 0 6 = ρ 49 := m50
  obtain ⟨⟨⟨⟨-, c4⟩, -⟩, c6⟩, -⟩ := hc
  have c4 : γ 4 = rUp (γ 3) 10 (9 * ρ 1) 9 (ρ 22) := c4
  have c6 : γ 6 = rUp (γ 5) 2 0 6 (ρ 49 + 1) := c6
  obtain ⟨l0, l1, l2, l3, -⟩ := hl
  have l0 : sn141 [ρ 0, ρ 1, ρ 2, ρ 23, ρ 4, ρ 24, ρ 25, ρ 26, ρ 27, ρ 12, ρ 29, ρ 30, ρ 31, ρ 32, ρ 33, ρ 35, ρ 36] (γ 1) 0 1 (γ 2) := hS141 _ _ _ _ _ l0
  have l1 : sn143 [9 * ρ 1, ρ 22, ρ 13] (γ 2) 0 1 (γ 3) := hS143 _ _ _ _ _ l1
  have l2 : sn114 [ρ 37, ρ 4] (γ 4) 0 (ρ 48) (γ 5) := hS114 _ _ _ _ _ l2
  have l3 : sn133 [ρ 0, ρ 1, ρ 2, ρ 9, ρ 28, ρ 11, ρ 12, ρ 38, ρ 14] (γ 6) 0 1 (γ 7) := hS133 _ _ _ _ _ l3
  show sn144 [ρ 0, ρ 1, ρ 2, ρ 3, ρ 4, ρ 5, ρ 6, ρ 7, ρ 8, ρ 9, ρ 10, ρ 11, ρ 12, ρ 13, ρ 14, ρ 15, ρ 16, ρ 17, ρ 18, ρ 19, ρ 20, ρ 21] (γ 0) 0 1 (γ 7)
  have hD : en144 (γ 0) (0, [ρ 22], γ 1) = .inr (0, 1, γ 7) := by
    unfold en144
    refine (if_pos (show (0 : Nat) = 0 by decide)).trans ?_
    refine (zLet_eq (show _ = γ 1 from rfl)).trans ?_
    refine (zLet_eq (show _ = ρ 22 from rfl)).trans ?_
    refine (zLet_eq m0).trans ?_
    refine (zLet_eq m1).trans ?_
    refine (zLet_eq m13).trans ?_
    refine (zLet_eq m35).trans ?_
    refine (if_neg w_0).trans ?_
    refine (zLet_eq (show fn141 [] (γ 1) = (0, 1, γ 2) from l0.symm)).trans ?_
    refine (zLet_eq (show _ = γ 2 from rfl)).trans ?_
    refine (if_pos zQ1_).trans ?_
    refine (if_neg w_1).trans ?_
    refine (zLet_eq (show fn143 [9 * ρ 1, ρ 22, ρ 13] (γ 2) = (0, 1, γ 3) from l1.symm)).trans ?_
    refine (zLet_eq (show _ = γ 3 from rfl)).trans ?_
    refine (if_pos zQ1_).trans ?_
    refine (zLet_eq c4.symm).trans ?_
    refine (zLet_eq (show fn114 [] (γ 4) = (0, ρ 48, γ 5) from l2.symm)).trans ?_
    refine (zLet_eq (show _ = γ 5 from rfl)).trans ?_
    refine (if_pos w_2).trans ?_
    refine (zLet_eq (show _ = ρ 48 from rfl)).trans ?_
    refine (zLet_eq m50).trans ?_
    refine (if_pos w_3).trans ?_
    refine (zLet_eq c6.symm).trans ?_
    refine (zLet_eq (show fn133 [] (γ 6) = (0, 1, γ 7) from l3.symm)).trans ?_
    refine (zLet_eq (show _ = γ 7 from rfl)).trans ?_
    refine (if_pos zQ1_).trans ?_
    rfl
  exact zGoo_aend hJ hD
theorem vn144a0_18 {S : Nat → zSpc} (hS102 : ∀ x g o v gz, S 102 x g o v gz → sn102 x g o v gz) (hS109 : ∀ x g o v gz, S 109 x g o v gz → sn109 x g o v gz) (hS114 : ∀ x g o v gz, S 114 x g o v gz → sn114 x g o v gz) (hS133 : ∀ x g o v gz, S 133 x g o v gz → sn133 x g o v gz) (hS141 : ∀ x g o v gz, S 141 x g o v gz → sn141 x g o v gz) (hS143 : ∀ x g o v gz, S 143 x g o v gz → sn143 x g o v gz) {a : List Int} {g : rHp} : ∀ (ρ : Nat → Int) (γ : Nat → rHp), jn144 a g 0 (zAg (zNA a144_ 0) ρ) (γ 1) → zO 22 S a g q144a0_18 ρ γ → zGl (fun i vs g1 => jn144 a g i vs g1) (sn144 a g) q144a0_18 ρ γ := by
  intro ρ γ hJ h
  obtain ⟨ha, hg, hr, hf, hm, hc, hl⟩ := h
  have ha : a = [ρ 0, ρ 1, ρ 2, ρ 3, ρ 4, ρ 5, ρ 6, ρ 7, ρ 8, ρ 9, ρ 10, ρ 11, ρ 12, ρ 13, ρ 14, ρ 15, ρ 16, ρ 17, ρ 18, ρ 19, ρ 20, ρ 21] := ha
  subst ha
  subst hg
  have hJ : jn144 [ρ 0, ρ 1, ρ 2, ρ 3, ρ 4, ρ 5, ρ 6, ρ 7, ρ 8, ρ 9, ρ 10, ρ 11, ρ 12, ρ 13, ρ 14, ρ 15, ρ 16, ρ 17, ρ 18, ρ 19, ρ 20, ρ 21] (γ 0) 0 [ρ 0, ρ 1, ρ 2, ρ 3, ρ 4, ρ 5, ρ 6, ρ 7, ρ 8, ρ 9, ρ 10, ρ 11, ρ 12, ρ 13, ρ 14, ρ 15, ρ 16, ρ 17, ρ 18, ρ 19, ρ 20, ρ 21, ρ 22, ρ 23, ρ 24, ρ 25, ρ 26, ρ 27, ρ 28, ρ 29, ρ 30, ρ 31, ρ 32, ρ 33, ρ 34, ρ 35, ρ 36] (γ 1) := hJ
  obtain ⟨-, -, -, -, -, -, -, -, -, -, -, -, -, -, -, -, -, -, -, -, -, -, r22, -, -, -, -, -, -, -, -, -, -, -, r34, -, -, -, -, -, -, -, -, -, -, -, -, -, r48, -⟩ := hr
  have r22 : (0 : Int) ≤ ρ 22 ∧ ρ 22 ≤ 3 := r22
  have r34 : ((-1) : Int) ≤ ρ 34 ∧ ρ 34 ≤ (-1) := r34
  have r48 : (41 : Int) ≤ ρ 48 ∧ ρ 48 ≤ 41 := r48
  obtain ⟨w_0, w_1, w_2, w_3⟩ : (¬ (ρ 22 ≥ 4)) ∧ (¬ (ρ 34 ≥ 0)) ∧ ((0 : Int) ≤ ρ 48) ∧ (ρ 48 = 41) := ⟨by omega, by omega, by omega, by omega⟩
  obtain ⟨m0, m1, -, -, -, -, -, -, -, -, -, -, -, m13, -, -, -, -, -, -, -, -, -, -, -, -, -, -, -, -, -, -, -, -, -, m35, -, -, -, -, -, -, -, -, -, -, -, -, -, -, m50, -⟩ := hm
  have m0 : γ 0 1 0 10 = ρ 0 := m0
  have m1 : γ 0 40 0 (ρ 0) = ρ 1 := m1
  have m13 : γ 0 2 0 5 = ρ 13 := m13
  have m35 : γ 1 10 (9 * ρ 1) 9 = ρ 34 := m35
  have m50 : γ 5 2 0 6 = ρ 49 := m50
  obtain ⟨⟨⟨⟨-, c4⟩, -⟩, c6⟩, -⟩ := hc
  have c4 : γ 4 = rUp (γ 3) 10 (9 * ρ 1) 9 (ρ 22) := c4
  have c6 : γ 6 = rUp (γ 5) 2 0 6 (ρ 49 + 1) := c6
  obtain ⟨l0, l1, l2, l3, -⟩ := hl
  have l0 : sn141 [ρ 0, ρ 1, ρ 2, ρ 23, ρ 4, ρ 24, ρ 25, ρ 26, ρ 27, ρ 12, ρ 29, ρ 30, ρ 31, ρ 32, ρ 33, ρ 35, ρ 36] (γ 1) 0 1 (γ 2) := hS141 _ _ _ _ _ l0
  have l1 : sn143 [9 * ρ 1, ρ 22, ρ 13] (γ 2) 0 1 (γ 3) := hS143 _ _ _ _ _ l1
  have l2 : sn114 [ρ 37, ρ 4] (γ 4) 0 (ρ 48) (γ 5) := hS114 _ _ _ _ _ l2
  have l3 : sn133 [ρ 0, ρ 1, ρ 2, ρ 9, ρ 28, ρ 11, ρ 12, ρ 38, ρ 14] (γ 6) 0 1 (γ 7) := hS133 _ _ _ _ _ l3
  show sn144 [ρ 0, ρ 1, ρ 2, ρ 3, ρ 4, ρ 5, ρ 6, ρ 7, ρ 8, ρ 9, ρ 10, ρ 11, ρ 12, ρ 13, ρ 14, ρ 15, ρ 16, ρ 17, ρ 18, ρ 19, ρ 20, ρ 21] (γ 0) 0 1 (γ 7)
  have hD : en144 (γ 0) (0, [ρ 22], γ 1) = .inr (0, 1, γ 7) := by
    unfold en144
    refine (if_pos (show (0 : Nat) = 0 by decide)).trans ?_
    refine (zLet_eq (show _ = γ 1 from rfl)).trans ?_
    refine (zLet_eq (show _ = ρ 22 from rfl)).trans ?_
    refine (zLet_eq m0).trans ?_
    refine (zLet_eq m1).trans ?_
    refine (zLet_eq m13).trans ?_
    refine (zLet_eq m35).trans ?_
    refine (if_neg w_0).trans ?_
    refine (zLet_eq (show fn141 [] (γ 1) = (0, 1, γ 2) from l0.symm)).trans ?_
    refine (zLet_eq (show _ = γ 2 from rfl)).trans ?_
    refine (if_pos zQ1_).trans ?_
    refine (if_neg w_1).trans ?_
    refine (zLet_eq (show fn143 [9 * ρ 1, ρ 22, ρ 13] (γ 2) = (0, 1, γ 3) from l1.symm)).trans ?_
    refine (zLet_eq (show _ = γ 3 from rfl)).trans ?_
    refine (if_pos zQ1_).trans ?_
    refine (zLet_eq c4.symm).trans ?_
    refine (zLet_eq (show fn114 [] (γ 4) = (0, ρ 48, γ 5) from l2.symm)).trans ?_
    refine (zLet_eq (show _ = γ 5 from rfl)).trans ?_
    refine (if_pos w_2).trans ?_
    refine (zLet_eq (show _ = ρ 48 from rfl)).trans ?_
    refine (zLet_eq m50).trans ?_
    refine (if_pos w_3).trans ?_
    refine (zLet_eq c6.symm).trans ?_
    refine (zLet_eq (show fn133 [] (γ 6) = (0, 1, γ 7) from l3.symm)).trans ?_
    refine (zLet_eq (show _ = γ 7 from rfl)).trans ?_
    refine (if_pos zQ1_).trans ?_
    rfl
  exact zGoo_aend hJ hD
theorem vn144a0_19 {S : Nat → zSpc} (hS102 : ∀ x g o v gz, S 102 x g o v gz → sn102 x g o v gz) (hS109 : ∀ x g o v gz, S 109 x g o v gz → sn109 x g o v gz) (hS114 : ∀ x g o v gz, S 114 x g o v gz → sn114 x g o v gz) (hS133 : ∀ x g o v gz, S 133 x g o v gz → sn133 x g o v gz) (hS141 : ∀ x g o v gz, S 141 x g o v gz → sn141 x g o v gz) (hS143 : ∀ x g o v gz, S 143 x g o v gz → sn143 x g o v gz) {a : List Int} {g : rHp} : ∀ (ρ : Nat → Int) (γ : Nat → rHp), jn144 a g 0 (zAg (zNA a144_ 0) ρ) (γ 1) → zO 22 S a g q144a0_19 ρ γ → zGl (fun i vs g1 => jn144 a g i vs g1) (sn144 a g) q144a0_19 ρ γ := by
  intro ρ γ hJ h
  obtain ⟨ha, hg, hr, hf, hm, hc, hl⟩ := h
  have ha : a = [ρ 0, ρ 1, ρ 2, ρ 3, ρ 4, ρ 5, ρ 6, ρ 7, ρ 8, ρ 9, ρ 10, ρ 11, ρ 12, ρ 13, ρ 14, ρ 15, ρ 16, ρ 17, ρ 18, ρ 19, ρ 20, ρ 21] := ha
  subst ha
  subst hg
  have hJ : jn144 [ρ 0, ρ 1, ρ 2, ρ 3, ρ 4, ρ 5, ρ 6, ρ 7, ρ 8, ρ 9, ρ 10, ρ 11, ρ 12, ρ 13, ρ 14, ρ 15, ρ 16, ρ 17, ρ 18, ρ 19, ρ 20, ρ 21] (γ 0) 0 [ρ 0, ρ 1, ρ 2, ρ 3, ρ 4, ρ 5, ρ 6, ρ 7, ρ 8, ρ 9, ρ 10, ρ 11, ρ 12, ρ 13, ρ 14, ρ 15, ρ 16, ρ 17, ρ 18, ρ 19, ρ 20, ρ 21, ρ 22, ρ 23, ρ 24, ρ 25, ρ 26, ρ 27, ρ 28, ρ 29, ρ 30, ρ 31, ρ 32, ρ 33, ρ 34, ρ 35, ρ 36] (γ 1) := hJ
  obtain ⟨-, -, -, -, -, -, -, -, -, -, -, -, -, -, -, -, -, -, -, -, -, -, r22, -, -, -, -, -, -, -, -, -, -, -, r34, -, -, -, -, -, -, -, -, -, -, -, -, -, r48, -⟩ := hr
  have r22 : (0 : Int) ≤ ρ 22 ∧ ρ 22 ≤ 3 := r22
  have r34 : ((-1) : Int) ≤ ρ 34 ∧ ρ 34 ≤ (-1) := r34
  have r48 : (44 : Int) ≤ ρ 48 ∧ ρ 48 ≤ 44 := r48
  obtain ⟨w_0, w_1, w_2, w_3, w_4⟩ : (¬ (ρ 22 ≥ 4)) ∧ (¬ (ρ 34 ≥ 0)) ∧ ((0 : Int) ≤ ρ 48) ∧ (¬ (ρ 48 = 41)) ∧ (ρ 48 = 44) := ⟨by omega, by omega, by omega, by omega, by omega⟩
  obtain ⟨m0, m1, -, -, -, -, -, -, -, -, -, -, -, m13, -, -, -, -, -, -, -, -, -, -, -, -, -, -, -, -, -, -, -, -, -, m35, -, -, -, -, -, -, -, -, -, -, -, -, -, -, m50, -⟩ := hm
  have m0 : γ 0 1 0 10 = ρ 0 := m0
  have m1 : γ 0 40 0 (ρ 0) = ρ 1 := m1
  have m13 : γ 0 2 0 5 = ρ 13 := m13
  have m35 : γ 1 10 (9 * ρ 1) 9 = ρ 34 := m35
  have m50 : γ 5 2 0 6 = ρ 49 := m50
  obtain ⟨⟨⟨-, c4⟩, -⟩, c6⟩ := hc
  have c4 : γ 4 = rUp (γ 3) 10 (9 * ρ 1) 9 (ρ 22) := c4
  have c6 : γ 6 = rUp (γ 5) 2 0 6 (ρ 49 + 1) := c6
  obtain ⟨l0, l1, l2, l3, -⟩ := hl
  have l0 : sn141 [ρ 0, ρ 1, ρ 2, ρ 23, ρ 4, ρ 24, ρ 25, ρ 26, ρ 27, ρ 12, ρ 29, ρ 30, ρ 31, ρ 32, ρ 33, ρ 35, ρ 36] (γ 1) 0 1 (γ 2) := hS141 _ _ _ _ _ l0
  have l1 : sn143 [9 * ρ 1, ρ 22, ρ 13] (γ 2) 0 1 (γ 3) := hS143 _ _ _ _ _ l1
  have l2 : sn114 [ρ 37, ρ 4] (γ 4) 0 (ρ 48) (γ 5) := hS114 _ _ _ _ _ l2
  have l3 : ρ 48 ≠ 41 := l3
  show jn144 [ρ 0, ρ 1, ρ 2, ρ 3, ρ 4, ρ 5, ρ 6, ρ 7, ρ 8, ρ 9, ρ 10, ρ 11, ρ 12, ρ 13, ρ 14, ρ 15, ρ 16, ρ 17, ρ 18, ρ 19, ρ 20, ρ 21] (γ 0) 0 [ρ 0, ρ 1, ρ 2, ρ 3, ρ 4, ρ 5, ρ 6, ρ 7, ρ 8, ρ 9, ρ 10, ρ 11, ρ 12, ρ 13, ρ 14, ρ 15, ρ 16, ρ 17, ρ 18, ρ 19, ρ 20, ρ 21, ρ 22 + 1, ρ 49 + 1, ρ 38, ρ 39, ρ 40, ρ 27, ρ 28, ρ 41, ρ 42, ρ 43, ρ 44, ρ 45, ρ 22, ρ 46, ρ 47] (γ 6)
  have hD : en144 (γ 0) (0, [ρ 22], γ 1) = .inl (0, [ρ 22 + 1], γ 6) := by
    unfold en144
    refine (if_pos (show (0 : Nat) = 0 by decide)).trans ?_
    refine (zLet_eq (show _ = γ 1 from rfl)).trans ?_
    refine (zLet_eq (show _ = ρ 22 from rfl)).trans ?_
    refine (zLet_eq m0).trans ?_
    refine (zLet_eq m1).trans ?_
    refine (zLet_eq m13).trans ?_
    refine (zLet_eq m35).trans ?_
    refine (if_neg w_0).trans ?_
    refine (zLet_eq (show fn141 [] (γ 1) = (0, 1, γ 2) from l0.symm)).trans ?_
    refine (zLet_eq (show _ = γ 2 from rfl)).trans ?_
    refine (if_pos zQ1_).trans ?_
    refine (if_neg w_1).trans ?_
    refine (zLet_eq (show fn143 [9 * ρ 1, ρ 22, ρ 13] (γ 2) = (0, 1, γ 3) from l1.symm)).trans ?_
    refine (zLet_eq (show _ = γ 3 from rfl)).trans ?_
    refine (if_pos zQ1_).trans ?_
    refine (zLet_eq c4.symm).trans ?_
    refine (zLet_eq (show fn114 [] (γ 4) = (0, ρ 48, γ 5) from l2.symm)).trans ?_
    refine (zLet_eq (show _ = γ 5 from rfl)).trans ?_
    refine (if_pos w_2).trans ?_
    refine (zLet_eq (show _ = ρ 48 from rfl)).trans ?_
    refine (zLet_eq m50).trans ?_
    refine (if_neg w_3).trans ?_
    refine (if_pos w_4).trans ?_
    refine (zLet_eq c6.symm).trans ?_
    rfl
  exact zGoo_ato hJ hD
theorem vn144a0_20 {S : Nat → zSpc} (hS102 : ∀ x g o v gz, S 102 x g o v gz → sn102 x g o v gz) (hS109 : ∀ x g o v gz, S 109 x g o v gz → sn109 x g o v gz) (hS114 : ∀ x g o v gz, S 114 x g o v gz → sn114 x g o v gz) (hS133 : ∀ x g o v gz, S 133 x g o v gz → sn133 x g o v gz) (hS141 : ∀ x g o v gz, S 141 x g o v gz → sn141 x g o v gz) (hS143 : ∀ x g o v gz, S 143 x g o v gz → sn143 x g o v gz) {a : List Int} {g : rHp} : ∀ (ρ : Nat → Int) (γ : Nat → rHp), jn144 a g 0 (zAg (zNA a144_ 0) ρ) (γ 1) → zO 22 S a g q144a0_20 ρ γ → zGl (fun i vs g1 => jn144 a g i vs g1) (sn144 a g) q144a0_20 ρ γ := by
  intro ρ γ hJ h
  obtain ⟨ha, hg, hr, hf, hm, hc, hl⟩ := h
  have ha : a = [ρ 0, ρ 1, ρ 2, ρ 3, ρ 4, ρ 5, ρ 6, ρ 7, ρ 8, ρ 9, ρ 10, ρ 11, ρ 12, ρ 13, ρ 14, ρ 15, ρ 16, ρ 17, ρ 18, ρ 19, ρ 20, ρ 21] := ha
  subst ha
  subst hg
  have hJ : jn144 [ρ 0, ρ 1, ρ 2, ρ 3, ρ 4, ρ 5, ρ 6, ρ 7, ρ 8, ρ 9, ρ 10, ρ 11, ρ 12, ρ 13, ρ 14, ρ 15, ρ 16, ρ 17, ρ 18, ρ 19, ρ 20, ρ 21] (γ 0) 0 [ρ 0, ρ 1, ρ 2, ρ 3, ρ 4, ρ 5, ρ 6, ρ 7, ρ 8, ρ 9, ρ 10, ρ 11, ρ 12, ρ 13, ρ 14, ρ 15, ρ 16, ρ 17, ρ 18, ρ 19, ρ 20, ρ 21, ρ 22, ρ 23, ρ 24, ρ 25, ρ 26, ρ 27, ρ 28, ρ 29, ρ 30, ρ 31, ρ 32, ρ 33, ρ 34, ρ 35, ρ 36] (γ 1) := hJ
  obtain ⟨-, -, -, -, -, -, -, -, -, -, -, -, -, -, -, -, -, -, -, -, -, -, r22, -, -, -, -, -, -, -, -, -, -, -, r34, -, -, -, -, -, -, -, -, -, -, -, -, -, r48, -⟩ := hr
  have r22 : (0 : Int) ≤ ρ 22 ∧ ρ 22 ≤ 3 := r22
  have r34 : ((-1) : Int) ≤ ρ 34 ∧ ρ 34 ≤ (-1) := r34
  have r48 : (0 : Int) ≤ ρ 48 ∧ ρ 48 ≤ 255 := r48
  obtain ⟨w_0, w_1, w_2⟩ : (¬ (ρ 22 ≥ 4)) ∧ (¬ (ρ 34 ≥ 0)) ∧ ((0 : Int) ≤ ρ 48) := ⟨by omega, by omega, by omega⟩
  obtain ⟨m0, m1, -, -, -, -, -, -, -, -, -, -, -, m13, -, -, -, -, -, -, -, -, -, -, -, -, -, -, -, -, -, -, -, -, -, m35, -, -, -, -, -, -, -, -, -, -, -, -, -, -, m50, -⟩ := hm
  have m0 : γ 0 1 0 10 = ρ 0 := m0
  have m1 : γ 0 40 0 (ρ 0) = ρ 1 := m1
  have m13 : γ 0 2 0 5 = ρ 13 := m13
  have m35 : γ 1 10 (9 * ρ 1) 9 = ρ 34 := m35
  have m50 : γ 5 2 0 6 = ρ 49 := m50
  obtain ⟨⟨⟨-, c4⟩, -⟩, -⟩ := hc
  have c4 : γ 4 = rUp (γ 3) 10 (9 * ρ 1) 9 (ρ 22) := c4
  obtain ⟨l0, l1, l2, l3, l4, l5, -⟩ := hl
  have l0 : sn141 [ρ 0, ρ 1, ρ 2, ρ 23, ρ 4, ρ 24, ρ 25, ρ 26, ρ 27, ρ 12, ρ 29, ρ 30, ρ 31, ρ 32, ρ 33, ρ 35, ρ 36] (γ 1) 0 1 (γ 2) := hS141 _ _ _ _ _ l0
  have l1 : sn143 [9 * ρ 1, ρ 22, ρ 13] (γ 2) 0 1 (γ 3) := hS143 _ _ _ _ _ l1
  have l2 : sn114 [ρ 37, ρ 4] (γ 4) 0 (ρ 48) (γ 5) := hS114 _ _ _ _ _ l2
  have l3 : ρ 48 ≠ 41 := l3
  have l4 : ρ 48 ≠ 44 := l4
  have l5 : sn109 [ρ 49, ρ 12] (γ 5) 0 0 (γ 6) := hS109 _ _ _ _ _ l5
  obtain ⟨wl_0, wl_1⟩ : (¬ (ρ 48 = 41)) ∧ (¬ (ρ 48 = 44)) := ⟨by omega, by omega⟩
  show sn144 [ρ 0, ρ 1, ρ 2, ρ 3, ρ 4, ρ 5, ρ 6, ρ 7, ρ 8, ρ 9, ρ 10, ρ 11, ρ 12, ρ 13, ρ 14, ρ 15, ρ 16, ρ 17, ρ 18, ρ 19, ρ 20, ρ 21] (γ 0) 0 0 (γ 6)
  have hD : en144 (γ 0) (0, [ρ 22], γ 1) = .inr (0, 0, γ 6) := by
    unfold en144
    refine (if_pos (show (0 : Nat) = 0 by decide)).trans ?_
    refine (zLet_eq (show _ = γ 1 from rfl)).trans ?_
    refine (zLet_eq (show _ = ρ 22 from rfl)).trans ?_
    refine (zLet_eq m0).trans ?_
    refine (zLet_eq m1).trans ?_
    refine (zLet_eq m13).trans ?_
    refine (zLet_eq m35).trans ?_
    refine (if_neg w_0).trans ?_
    refine (zLet_eq (show fn141 [] (γ 1) = (0, 1, γ 2) from l0.symm)).trans ?_
    refine (zLet_eq (show _ = γ 2 from rfl)).trans ?_
    refine (if_pos zQ1_).trans ?_
    refine (if_neg w_1).trans ?_
    refine (zLet_eq (show fn143 [9 * ρ 1, ρ 22, ρ 13] (γ 2) = (0, 1, γ 3) from l1.symm)).trans ?_
    refine (zLet_eq (show _ = γ 3 from rfl)).trans ?_
    refine (if_pos zQ1_).trans ?_
    refine (zLet_eq c4.symm).trans ?_
    refine (zLet_eq (show fn114 [] (γ 4) = (0, ρ 48, γ 5) from l2.symm)).trans ?_
    refine (zLet_eq (show _ = γ 5 from rfl)).trans ?_
    refine (if_pos w_2).trans ?_
    refine (zLet_eq (show _ = ρ 48 from rfl)).trans ?_
    refine (zLet_eq m50).trans ?_
    refine (if_neg wl_0).trans ?_
    refine (if_neg wl_1).trans ?_
    refine (zLet_eq (show fn109 [ρ 49] (γ 5) = (0, 0, γ 6) from l5.symm)).trans ?_
    refine (zLet_eq (show _ = γ 6 from rfl)).trans ?_
    rfl
  exact zGoo_aend hJ hD
theorem yn144 {S : Nat → zSpc} (hS102 : ∀ x g o v gz, S 102 x g o v gz → sn102 x g o v gz) (hS109 : ∀ x g o v gz, S 109 x g o v gz → sn109 x g o v gz) (hS114 : ∀ x g o v gz, S 114 x g o v gz → sn114 x g o v gz) (hS133 : ∀ x g o v gz, S 133 x g o v gz → sn133 x g o v gz) (hS141 : ∀ x g o v gz, S 141 x g o v gz → sn141 x g o v gz) (hS143 : ∀ x g o v gz, S 143 x g o v gz → sn143 x g o v gz) : ∀ x g o v gz, zSem uW uT w144_.2.2.2.1 w144_.2.2.1.1.length S q144 (fun i => q144a.getD i []) (zNA a144_) x g o v gz → sn144 x g o v gz := by
  intro a g o v gz h
  exact zSem_all (l0 := q144) (las := q144a) (S := S) (J := (fun i vs g1 => jn144 a g i vs g1)) (P := sn144 a g) (fun _ => (show zAll _ [q144_0, q144_1, q144_2] from (zAll_c (vn144_0 hS102 hS109 hS114 hS133 hS141 hS143) (zAll_c (vn144_1 hS102 hS109 hS114 hS133 hS141 hS143) (zAll_c (vn144_2 hS102 hS109 hS114 hS133 hS141 hS143) zAll_n))))) (fun _ => (show zAllI _ 0 [q144a0] from ⟨(show zAll _ [q144a0_0, q144a0_1, q144a0_2, q144a0_3, q144a0_4, q144a0_5, q144a0_6, q144a0_7, q144a0_8, q144a0_9, q144a0_10, q144a0_11, q144a0_12, q144a0_13, q144a0_14, q144a0_15, q144a0_16, q144a0_17, q144a0_18, q144a0_19, q144a0_20] from (zAll_c (vn144a0_0 hS102 hS109 hS114 hS133 hS141 hS143) (zAll_c (vn144a0_1 hS102 hS109 hS114 hS133 hS141 hS143) (zAll_c (vn144a0_2 hS102 hS109 hS114 hS133 hS141 hS143) (zAll_c (vn144a0_3 hS102 hS109 hS114 hS133 hS141 hS143) (zAll_c (vn144a0_4 hS102 hS109 hS114 hS133 hS141 hS143) (zAll_c (vn144a0_5 hS102 hS109 hS114 hS133 hS141 hS143) (zAll_c (vn144a0_6 hS102 hS109 hS114 hS133 hS141 hS143) (zAll_c (vn144a0_7 hS102 hS109 hS114 hS133 hS141 hS143) (zAll_c (vn144a0_8 hS102 hS109 hS114 hS133 hS141 hS143) (zAll_c (vn144a0_9 hS102 hS109 hS114 hS133 hS141 hS143) (zAll_c (vn144a0_10 hS102 hS109 hS114 hS133 hS141 hS143) (zAll_c (vn144a0_11 hS102 hS109 hS114 hS133 hS141 hS143) (zAll_c (vn144a0_12 hS102 hS109 hS114 hS133 hS141 hS143) (zAll_c (vn144a0_13 hS102 hS109 hS114 hS133 hS141 hS143) (zAll_c (vn144a0_14 hS102 hS109 hS114 hS133 hS141 hS143) (zAll_c (vn144a0_15 hS102 hS109 hS114 hS133 hS141 hS143) (zAll_c (vn144a0_16 hS102 hS109 hS114 hS133 hS141 hS143) (zAll_c (vn144a0_17 hS102 hS109 hS114 hS133 hS141 hS143) (zAll_c (vn144a0_18 hS102 hS109 hS114 hS133 hS141 hS143) (zAll_c (vn144a0_19 hS102 hS109 hS114 hS133 hS141 hS143) (zAll_c (vn144a0_20 hS102 hS109 hS114 hS133 hS141 hS143) zAll_n)))))))))))))))))))))), trivial⟩)) h
