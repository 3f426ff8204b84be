/-! ===== the runs are the functions ===== -/
theorem vn145_0 {S : Nat → zSpc} (hS103 : ∀ x g o v gz, S 103 x g o v gz → sn103 x g o v gz) (hS109 : ∀ x g o v gz, S 109 x g o v gz → sn109 x g o v gz) (hS114 : ∀ x g o v gz, S 114 x g o v gz → sn114 x g o v gz) (hS134 : ∀ x g o v gz, S 134 x g o v gz → sn134 x g o v gz) (hS142 : ∀ x g o v gz, S 142 x g o v gz → sn142 x g o v gz) (hS143 : ∀ x g o v gz, S 143 x g o v gz → sn143 x g o v gz) {a : List Int} {g : rHp} : ∀ (ρ : Nat → Int) (γ : Nat → rHp), zO 22 S a g q145_0 ρ γ → zGl (fun i vs g1 => jn145 a g i vs g1) (sn145 a g) q145_0 ρ γ := by
  intro ρ γ h
  obtain ⟨ha, hg, hr, hf, hm, hc, hl⟩ := h
  have ha : a = [ρ 0, ρ 1, ρ 2, ρ 3, ρ 4, ρ 5, ρ 6, ρ 7, ρ 8, ρ 9, ρ 10, ρ 11, ρ 12, ρ 13, ρ 14, ρ 15, ρ 16, ρ 17, ρ 18, ρ 19, ρ 20, ρ 21] := ha
  subst ha
  subst hg
  obtain ⟨-, -, -, -, -, -, -, -, -, -, -, -, -, -, m14, -, -, -, -, -, -, m21, -, -, -, -, -, -, -, -, m30, -⟩ := hm
  have m14 : γ 0 2 0 9 = ρ 15 := m14
  have m21 : γ 0 2 0 8 = ρ 22 := m21
  have m30 : γ 2 2 0 6 = ρ 23 := m30
  obtain ⟨l0, l1, l2, -⟩ := hl
  have l0 : sn103 [ρ 0, ρ 22, ρ 15, ρ 1, ρ 2, ρ 3, ρ 10, ρ 11, ρ 7, ρ 6, ρ 19, ρ 9, ρ 20, ρ 21] (γ 0) 0 0 (γ 1) := hS103 _ _ _ _ _ l0
  have l1 : sn114 [ρ 4, ρ 5] (γ 1) 0 (-1) (γ 2) := hS114 _ _ _ _ _ l1
  have l2 : sn109 [ρ 23, ρ 13] (γ 2) 0 0 (γ 3) := hS109 _ _ _ _ _ l2
  show sn145 [ρ 0, ρ 1, ρ 2, ρ 3, ρ 4, ρ 5, ρ 6, ρ 7, ρ 8, ρ 9, ρ 10, ρ 11, ρ 12, ρ 13, ρ 14, ρ 15, ρ 16, ρ 17, ρ 18, ρ 19, ρ 20, ρ 21] (γ 0) 0 0 (γ 3)
  have hD : dn145 [ρ 0] (γ 0) = .inr (0, 0, γ 3) := by
    unfold dn145
    refine (zLet_eq (show _ = ρ 0 from rfl)).trans ?_
    refine (zLet_eq m14).trans ?_
    refine (zLet_eq m21).trans ?_
    refine (zLet_eq (show fn103 [ρ 0, ρ 22, ρ 15] (γ 0) = (0, 0, γ 1) from l0.symm)).trans ?_
    refine (zLet_eq (show _ = γ 1 from rfl)).trans ?_
    refine (zLet_eq (show fn114 [] (γ 1) = (0, (-1), γ 2) from l1.symm)).trans ?_
    refine (zLet_eq (show _ = γ 2 from rfl)).trans ?_
    refine (if_neg zQ2_).trans ?_
    refine (zLet_eq m30).trans ?_
    refine (zLet_eq (show fn109 [ρ 23] (γ 2) = (0, 0, γ 3) from l2.symm)).trans ?_
    refine (zLet_eq (show _ = γ 3 from rfl)).trans ?_
    rfl
  exact zGoo_end hD
theorem vn145_1 {S : Nat → zSpc} (hS103 : ∀ x g o v gz, S 103 x g o v gz → sn103 x g o v gz) (hS109 : ∀ x g o v gz, S 109 x g o v gz → sn109 x g o v gz) (hS114 : ∀ x g o v gz, S 114 x g o v gz → sn114 x g o v gz) (hS134 : ∀ x g o v gz, S 134 x g o v gz → sn134 x g o v gz) (hS142 : ∀ x g o v gz, S 142 x g o v gz → sn142 x g o v gz) (hS143 : ∀ x g o v gz, S 143 x g o v gz → sn143 x g o v gz) {a : List Int} {g : rHp} : ∀ (ρ : Nat → Int) (γ : Nat → rHp), zO 22 S a g q145_1 ρ γ → zGl (fun i vs g1 => jn145 a g i vs g1) (sn145 a g) q145_1 ρ γ := by
  intro ρ γ h
  obtain ⟨ha, hg, hr, hf, hm, hc, hl⟩ := h
  have ha : a = [ρ 0, ρ 1, ρ 2, ρ 3, ρ 4, ρ 5, ρ 6, ρ 7, ρ 8, ρ 9, ρ 10, ρ 11, ρ 12, ρ 13, ρ 14, ρ 15, ρ 16, ρ 17, ρ 18, ρ 19, ρ 20, ρ 21] := ha
  subst ha
  subst hg
  obtain ⟨-, -, -, -, -, -, -, -, -, -, -, -, -, -, -, -, -, -, -, -, -, -, -, r23, -⟩ := hr
  have r23 : (40 : Int) ≤ ρ 23 ∧ ρ 23 ≤ 40 := r23
  obtain ⟨w_0, w_1⟩ : ((0 : Int) ≤ ρ 23) ∧ (ρ 23 = 40) := ⟨by omega, by omega⟩
  obtain ⟨-, -, -, -, -, -, -, -, -, -, -, -, -, -, m14, -, -, -, -, -, -, m21, -, -, -, -, -, -, -, -, m30, -⟩ := hm
  have m14 : γ 0 2 0 9 = ρ 15 := m14
  have m21 : γ 0 2 0 8 = ρ 22 := m21
  have m30 : γ 2 2 0 6 = ρ 24 := m30
  obtain ⟨-, c3⟩ := hc
  have c3 : γ 3 = rUp (γ 2) 2 0 6 (ρ 24 + 1) := c3
  obtain ⟨l0, l1, -⟩ := hl
  have l0 : sn103 [ρ 0, ρ 22, ρ 15, ρ 1, ρ 2, ρ 3, ρ 10, ρ 11, ρ 7, ρ 6, ρ 19, ρ 9, ρ 20, ρ 21] (γ 0) 0 0 (γ 1) := hS103 _ _ _ _ _ l0
  have l1 : sn114 [ρ 4, ρ 5] (γ 1) 0 (ρ 23) (γ 2) := hS114 _ _ _ _ _ l1
  show jn145 [ρ 0, ρ 1, ρ 2, ρ 3, ρ 4, ρ 5, ρ 6, ρ 7, ρ 8, ρ 9, ρ 10, ρ 11, ρ 12, ρ 13, ρ 14, ρ 15, ρ 16, ρ 17, ρ 18, ρ 19, ρ 20, ρ 21] (γ 0) 0 [ρ 0, ρ 1, ρ 2, ρ 3, ρ 4, ρ 5, ρ 6, ρ 7, ρ 8, ρ 9, ρ 10, ρ 11, ρ 12, ρ 13, ρ 14, ρ 15, ρ 16, ρ 17, ρ 18, ρ 19, ρ 20, ρ 21, 0, ρ 24 + 1, 0, (-1), ρ 14, ρ 15, ρ 16, ρ 17, ρ 18, (-1), 0] (γ 3)
  have hD : dn145 [ρ 0] (γ 0) = .inl (0, [0], γ 3) := by
    unfold dn145
    refine (zLet_eq (show _ = ρ 0 from rfl)).trans ?_
    refine (zLet_eq m14).trans ?_
    refine (zLet_eq m21).trans ?_
    refine (zLet_eq (show fn103 [ρ 0, ρ 22, ρ 15] (γ 0) = (0, 0, γ 1) from l0.symm)).trans ?_
    refine (zLet_eq (show _ = γ 1 from rfl)).trans ?_
    refine (zLet_eq (show fn114 [] (γ 1) = (0, ρ 23, γ 2) from l1.symm)).trans ?_
    refine (zLet_eq (show _ = γ 2 from rfl)).trans ?_
    refine (if_pos w_0).trans ?_
    refine (zLet_eq (show _ = ρ 23 from rfl)).trans ?_
    refine (zLet_eq m30).trans ?_
    refine (if_pos w_1).trans ?_
    refine (zLet_eq c3.symm).trans ?_
    rfl
  exact zGoo_to hD
theorem vn145_2 {S : Nat → zSpc} (hS103 : ∀ x g o v gz, S 103 x g o v gz → sn103 x g o v gz) (hS109 : ∀ x g o v gz, S 109 x g o v gz → sn109 x g o v gz) (hS114 : ∀ x g o v gz, S 114 x g o v gz → sn114 x g o v gz) (hS134 : ∀ x g o v gz, S 134 x g o v gz → sn134 x g o v gz) (hS142 : ∀ x g o v gz, S 142 x g o v gz → sn142 x g o v gz) (hS143 : ∀ x g o v gz, S 143 x g o v gz → sn143 x g o v gz) {a : List Int} {g : rHp} : ∀ (ρ : Nat → Int) (γ : Nat → rHp), zO 22 S a g q145_2 ρ γ → zGl (fun i vs g1 => jn145 a g i vs g1) (sn145 a g) q145_2 ρ γ := by
  intro ρ γ h
  obtain ⟨ha, hg, hr, hf, hm, hc, hl⟩ := h
  have ha : a = [ρ 0, ρ 1, ρ 2, ρ 3, ρ 4, ρ 5, ρ 6, ρ 7, ρ 8, ρ 9, ρ 10, ρ 11, ρ 12, ρ 13, ρ 14, ρ 15, ρ 16, ρ 17, ρ 18, ρ 19, ρ 20, ρ 21] := ha
  subst ha
  subst hg
  obtain ⟨-, -, -, -, -, -, -, -, -, -, -, -, -, -, -, -, -, -, -, -, -, -, -, r23, -⟩ := hr
  have r23 : (0 : Int) ≤ ρ 23 ∧ ρ 23 ≤ 255 := r23
  have w_0 : (0 : Int) ≤ ρ 23 := by omega
  obtain ⟨-, -, -, -, -, -, -, -, -, -, -, -, -, -, m14, -, -, -, -, -, -, m21, -, -, -, -, -, -, -, -, m30, -⟩ := hm
  have m14 : γ 0 2 0 9 = ρ 15 := m14
  have m21 : γ 0 2 0 8 = ρ 22 := m21
  have m30 : γ 2 2 0 6 = ρ 24 := m30
  obtain ⟨l0, l1, l2, l3, -⟩ := hl
  have l0 : sn103 [ρ 0, ρ 22, ρ 15, ρ 1, ρ 2, ρ 3, ρ 10, ρ 11, ρ 7, ρ 6, ρ 19, ρ 9, ρ 20, ρ 21] (γ 0) 0 0 (γ 1) := hS103 _ _ _ _ _ l0
  have l1 : sn114 [ρ 4, ρ 5] (γ 1) 0 (ρ 23) (γ 2) := hS114 _ _ _ _ _ l1
  have l2 : ρ 23 ≠ 40 := l2
  have l3 : sn109 [ρ 24, ρ 13] (γ 2) 0 0 (γ 3) := hS109 _ _ _ _ _ l3
  have wl_0 : ¬ (ρ 23 = 40) := by omega
  show sn145 [ρ 0, ρ 1, ρ 2, ρ 3, ρ 4, ρ 5, ρ 6, ρ 7, ρ 8, ρ 9, ρ 10, ρ 11, ρ 12, ρ 13, ρ 14, ρ 15, ρ 16, ρ 17, ρ 18, ρ 19, ρ 20, ρ 21] (γ 0) 0 0 (γ 3)
  have hD : dn145 [ρ 0] (γ 0) = .inr (0, 0, γ 3) := by
    unfold dn145
    refine (zLet_eq (show _ = ρ 0 from rfl)).trans ?_
    refine (zLet_eq m14).trans ?_
    refine (zLet_eq m21).trans ?_
    refine (zLet_eq (show fn103 [ρ 0, ρ 22, ρ 15] (γ 0) = (0, 0, γ 1) from l0.symm)).trans ?_
    refine (zLet_eq (show _ = γ 1 from rfl)).trans ?_
    refine (zLet_eq (show fn114 [] (γ 1) = (0, ρ 23, γ 2) from l1.symm)).trans ?_
    refine (zLet_eq (show _ = γ 2 from rfl)).trans ?_
    refine (if_pos w_0).trans ?_
    refine (zLet_eq (show _ = ρ 23 from rfl)).trans ?_
    refine (zLet_eq m30).trans ?_
    refine (if_neg wl_0).trans ?_
    refine (zLet_eq (show fn109 [ρ 24] (γ 2) = (0, 0, γ 3) from l3.symm)).trans ?_
    refine (zLet_eq (show _ = γ 3 from rfl)).trans ?_
    rfl
  exact zGoo_end hD
theorem vn145a0_0 {S : Nat → zSpc} (hS103 : ∀ x g o v gz, S 103 x g o v gz → sn103 x g o v gz) (hS109 : ∀ x g o v gz, S 109 x g o v gz → sn109 x g o v gz) (hS114 : ∀ x g o v gz, S 114 x g o v gz → sn114 x g o v gz) (hS134 : ∀ x g o v gz, S 134 x g o v gz → sn134 x g o v gz) (hS142 : ∀ x g o v gz, S 142 x g o v gz → sn142 x g o v gz) (hS143 : ∀ x g o v gz, S 143 x g o v gz → sn143 x g o v gz) {a : List Int} {g : rHp} : ∀ (ρ : Nat → Int) (γ : Nat → rHp), jn145 a g 0 (zAg (zNA a145_ 0) ρ) (γ 1) → zO 22 S a g q145a0_0 ρ γ → zGl (fun i vs g1 => jn145 a g i vs g1) (sn145 a g) q145a0_0 ρ γ := by
  intro ρ γ hJ h
  obtain ⟨ha, hg, hr, hf, hm, hc, hl⟩ := h
  have ha : a = [ρ 0, ρ 1, ρ 2, ρ 3, ρ 4, ρ 5, ρ 6, ρ 7, ρ 8, ρ 9, ρ 10, ρ 11, ρ 12, ρ 13, ρ 14, ρ 15, ρ 16, ρ 17, ρ 18, ρ 19, ρ 20, ρ 21] := ha
  subst ha
  subst hg
  have hJ : jn145 [ρ 0, ρ 1, ρ 2, ρ 3, ρ 4, ρ 5, ρ 6, ρ 7, ρ 8, ρ 9, ρ 10, ρ 11, ρ 12, ρ 13, ρ 14, ρ 15, ρ 16, ρ 17, ρ 18, ρ 19, ρ 20, ρ 21] (γ 0) 0 [ρ 0, ρ 1, ρ 2, ρ 3, ρ 4, ρ 5, ρ 6, ρ 7, ρ 8, ρ 9, ρ 10, ρ 11, ρ 12, ρ 13, ρ 14, ρ 15, ρ 16, ρ 17, ρ 18, ρ 19, ρ 20, ρ 21, ρ 22, ρ 23, ρ 24, ρ 25, ρ 26, ρ 27, ρ 28, ρ 29, ρ 30, ρ 31, ρ 32] (γ 1) := hJ
  obtain ⟨-, -, -, -, -, -, -, -, -, -, -, -, -, -, -, -, -, -, -, -, -, -, r22, -⟩ := hr
  have r22 : (4 : Int) ≤ ρ 22 ∧ ρ 22 ≤ 4 := r22
  have w_0 : ρ 22 ≥ 4 := by omega
  obtain ⟨m0, m1, m2, -, -, -, -, -, -, -, -, -, -, m13, -, -, -, -, -, -, -, -, -, -, -, -, -, -, -, -, -, -, -, -, m34, -, m36, -⟩ := hm
  have m0 : γ 0 1 0 10 = ρ 1 := m0
  have m1 : γ 0 40 0 (ρ 1) = ρ 2 := m1
  have m2 : γ 0 9 (ρ 2) 2 = ρ 3 := m2
  have m13 : γ 0 2 0 5 = ρ 14 := m13
  have m34 : γ 1 10 (ρ 3 + 9 * ρ 2 + 1) 9 = ρ 31 := m34
  have m36 : γ 2 2 0 6 = ρ 33 := m36
  obtain ⟨l0, l1, -⟩ := hl
  have l0 : sn114 [ρ 23, ρ 5] (γ 1) 0 (-1) (γ 2) := hS114 _ _ _ _ _ l0
  have l1 : sn109 [ρ 33, ρ 13] (γ 2) 0 0 (γ 3) := hS109 _ _ _ _ _ l1
  show sn145 [ρ 0, ρ 1, ρ 2, ρ 3, ρ 4, ρ 5, ρ 6, ρ 7, ρ 8, ρ 9, ρ 10, ρ 11, ρ 12, ρ 13, ρ 14, ρ 15, ρ 16, ρ 17, ρ 18, ρ 19, ρ 20, ρ 21] (γ 0) 0 0 (γ 3)
  have hD : en145 (γ 0) (0, [ρ 22], γ 1) = .inr (0, 0, γ 3) := by
    unfold en145
    refine (if_pos (show (0 : Nat) = 0 by decide)).trans ?_
    refine (zLet_eq (show _ = γ 1 from rfl)).trans ?_
    refine (zLet_eq (show _ = ρ 22 from rfl)).trans ?_
    refine (zLet_eq m0).trans ?_
    refine (zLet_eq m1).trans ?_
    refine (zLet_eq m2).trans ?_
    refine (zLet_eq m13).trans ?_
    refine (zLet_eq m34).trans ?_
    refine (if_pos w_0).trans ?_
    refine (zLet_eq (show fn114 [] (γ 1) = (0, (-1), γ 2) from l0.symm)).trans ?_
    refine (zLet_eq (show _ = γ 2 from rfl)).trans ?_
    refine (if_neg zQ2_).trans ?_
    refine (zLet_eq m36).trans ?_
    refine (zLet_eq (show fn109 [ρ 33] (γ 2) = (0, 0, γ 3) from l1.symm)).trans ?_
    refine (zLet_eq (show _ = γ 3 from rfl)).trans ?_
    rfl
  exact zGoo_aend hJ hD
theorem vn145a0_1 {S : Nat → zSpc} (hS103 : ∀ x g o v gz, S 103 x g o v gz → sn103 x g o v gz) (hS109 : ∀ x g o v gz, S 109 x g o v gz → sn109 x g o v gz) (hS114 : ∀ x g o v gz, S 114 x g o v gz → sn114 x g o v gz) (hS134 : ∀ x g o v gz, S 134 x g o v gz → sn134 x g o v gz) (hS142 : ∀ x g o v gz, S 142 x g o v gz → sn142 x g o v gz) (hS143 : ∀ x g o v gz, S 143 x g o v gz → sn143 x g o v gz) {a : List Int} {g : rHp} : ∀ (ρ : Nat → Int) (γ : Nat → rHp), jn145 a g 0 (zAg (zNA a145_ 0) ρ) (γ 1) → zO 22 S a g q145a0_1 ρ γ → zGl (fun i vs g1 => jn145 a g i vs g1) (sn145 a g) q145a0_1 ρ γ := by
  intro ρ γ hJ h
  obtain ⟨ha, hg, hr, hf, hm, hc, hl⟩ := h
  have ha : a = [ρ 0, ρ 1, ρ 2, ρ 3, ρ 4, ρ 5, ρ 6, ρ 7, ρ 8, ρ 9, ρ 10, ρ 11, ρ 12, ρ 13, ρ 14, ρ 15, ρ 16, ρ 17, ρ 18, ρ 19, ρ 20, ρ 21] := ha
  subst ha
  subst hg
  have hJ : jn145 [ρ 0, ρ 1, ρ 2, ρ 3, ρ 4, ρ 5, ρ 6, ρ 7, ρ 8, ρ 9, ρ 10, ρ 11, ρ 12, ρ 13, ρ 14, ρ 15, ρ 16, ρ 17, ρ 18, ρ 19, ρ 20, ρ 21] (γ 0) 0 [ρ 0, ρ 1, ρ 2, ρ 3, ρ 4, ρ 5, ρ 6, ρ 7, ρ 8, ρ 9, ρ 10, ρ 11, ρ 12, ρ 13, ρ 14, ρ 15, ρ 16, ρ 17, ρ 18, ρ 19, ρ 20, ρ 21, ρ 22, ρ 23, ρ 24, ρ 25, ρ 26, ρ 27, ρ 28, ρ 29, ρ 30, ρ 31, ρ 32] (γ 1) := hJ
  obtain ⟨-, -, -, -, -, -, -, -, -, -, -, -, -, -, -, -, -, -, -, -, -, -, r22, -, -, -, -, -, -, -, -, -, -, r33, -⟩ := hr
  have r22 : (4 : Int) ≤ ρ 22 ∧ ρ 22 ≤ 4 := r22
  have r33 : (0 : Int) ≤ ρ 33 ∧ ρ 33 ≤ 255 := r33
  obtain ⟨w_0, w_1⟩ : (ρ 22 ≥ 4) ∧ ((0 : Int) ≤ ρ 33) := ⟨by omega, by omega⟩
  obtain ⟨m0, m1, m2, -, -, -, -, -, -, -, -, -, -, m13, -, -, -, -, -, -, -, -, -, -, -, -, -, -, -, -, -, -, -, -, m34, -, m36, -⟩ := hm
  have m0 : γ 0 1 0 10 = ρ 1 := m0
  have m1 : γ 0 40 0 (ρ 1) = ρ 2 := m1
  have m2 : γ 0 9 (ρ 2) 2 = ρ 3 := m2
  have m13 : γ 0 2 0 5 = ρ 14 := m13
  have m34 : γ 1 10 (ρ 3 + 9 * ρ 2 + 1) 9 = ρ 31 := m34
  have m36 : γ 2 2 0 6 = ρ 34 := m36
  obtain ⟨l0, l1, -⟩ := hl
  have l0 : sn114 [ρ 23, ρ 5] (γ 1) 0 (ρ 33) (γ 2) := hS114 _ _ _ _ _ l0
  have l1 : sn109 [ρ 34, ρ 13] (γ 2) 0 0 (γ 3) := hS109 _ _ _ _ _ l1
  show sn145 [ρ 0, ρ 1, ρ 2, ρ 3, ρ 4, ρ 5, ρ 6, ρ 7, ρ 8, ρ 9, ρ 10, ρ 11, ρ 12, ρ 13, ρ 14, ρ 15, ρ 16, ρ 17, ρ 18, ρ 19, ρ 20, ρ 21] (γ 0) 0 0 (γ 3)
  have hD : en145 (γ 0) (0, [ρ 22], γ 1) = .inr (0, 0, γ 3) := by
    unfold en145
    refine (if_pos (show (0 : Nat) = 0 by decide)).trans ?_
    refine (zLet_eq (show _ = γ 1 from rfl)).trans ?_
    refine (zLet_eq (show _ = ρ 22 from rfl)).trans ?_
    refine (zLet_eq m0).trans ?_
    refine (zLet_eq m1).trans ?_
    refine (zLet_eq m2).trans ?_
    refine (zLet_eq m13).trans ?_
    refine (zLet_eq m34).trans ?_
    refine (if_pos w_0).trans ?_
    refine (zLet_eq (show fn114 [] (γ 1) = (0, ρ 33, γ 2) from l0.symm)).trans ?_
    refine (zLet_eq (show _ = γ 2 from rfl)).trans ?_
    refine (if_pos w_1).trans ?_
    refine (zLet_eq m36).trans ?_
    refine (zLet_eq (show fn109 [ρ 34] (γ 2) = (0, 0, γ 3) from l1.symm)).trans ?_
    refine (zLet_eq (show _ = γ 3 from rfl)).trans ?_
    rfl
  exact zGoo_aend hJ hD
theorem vn145a0_2 {S : Nat → zSpc} (hS103 : ∀ x g o v gz, S 103 x g o v gz → sn103 x g o v gz) (hS109 : ∀ x g o v gz, S 109 x g o v gz → sn109 x g o v gz) (hS114 : ∀ x g o v gz, S 114 x g o v gz → sn114 x g o v gz) (hS134 : ∀ x g o v gz, S 134 x g o v gz → sn134 x g o v gz) (hS142 : ∀ x g o v gz, S 142 x g o v gz → sn142 x g o v gz) (hS143 : ∀ x g o v gz, S 143 x g o v gz → sn143 x g o v gz) {a : List Int} {g : rHp} : ∀ (ρ : Nat → Int) (γ : Nat → rHp), jn145 a g 0 (zAg (zNA a145_ 0) ρ) (γ 1) → zO 22 S a g q145a0_2 ρ γ → zGl (fun i vs g1 => jn145 a g i vs g1) (sn145 a g) q145a0_2 ρ γ := by
  intro ρ γ hJ h
  obtain ⟨ha, hg, hr, hf, hm, hc, hl⟩ := h
  have ha : a = [ρ 0, ρ 1, ρ 2, ρ 3, ρ 4, ρ 5, ρ 6, ρ 7, ρ 8, ρ 9, ρ 10, ρ 11, ρ 12, ρ 13, ρ 14, ρ 15, ρ 16, ρ 17, ρ 18, ρ 19, ρ 20, ρ 21] := ha
  subst ha
  subst hg
  have hJ : jn145 [ρ 0, ρ 1, ρ 2, ρ 3, ρ 4, ρ 5, ρ 6, ρ 7, ρ 8, ρ 9, ρ 10, ρ 11, ρ 12, ρ 13, ρ 14, ρ 15, ρ 16, ρ 17, ρ 18, ρ 19, ρ 20, ρ 21] (γ 0) 0 [ρ 0, ρ 1, ρ 2, ρ 3, ρ 4, ρ 5, ρ 6, ρ 7, ρ 8, ρ 9, ρ 10, ρ 11, ρ 12, ρ 13, ρ 14, ρ 15, ρ 16, ρ 17, ρ 18, ρ 19, ρ 20, ρ 21, ρ 22, ρ 23, ρ 24, ρ 25, ρ 26, ρ 27, ρ 28, ρ 29, ρ 30, ρ 31, ρ 32] (γ 1) := hJ
  obtain ⟨-, -, -, -, -, -, -, -, -, -, -, -, -, -, -, -, -, -, -, -, -, -, r22, -⟩ := hr
  have r22 : (0 : Int) ≤ ρ 22 ∧ ρ 22 ≤ 3 := r22
  have w_0 : ¬ (ρ 22 ≥ 4) := by omega
  obtain ⟨m0, m1, m2, -, -, -, -, -, -, -, -, -, -, m13, -, -, -, -, -, -, -, -, -, -, -, -, -, -, -, -, -, -, -, -, m34, -⟩ := hm
  have m0 : γ 0 1 0 10 = ρ 1 := m0
  have m1 : γ 0 40 0 (ρ 1) = ρ 2 := m1
  have m2 : γ 0 9 (ρ 2) 2 = ρ 3 := m2
  have m13 : γ 0 2 0 5 = ρ 14 := m13
  have m34 : γ 1 10 (ρ 3 + 9 * ρ 2 + 1) 9 = ρ 31 := m34
  obtain ⟨l0, -⟩ := hl
  have l0 : sn142 [ρ 1, ρ 2, ρ 3, ρ 23, ρ 5, ρ 24, ρ 0, ρ 10, ρ 11, ρ 13, ρ 26, ρ 27, ρ 28, ρ 29, ρ 30] (γ 1) 0 0 (γ 2) := hS142 _ _ _ _ _ l0
  show sn145 [ρ 0, ρ 1, ρ 2, ρ 3, ρ 4, ρ 5, ρ 6, ρ 7, ρ 8, ρ 9, ρ 10, ρ 11, ρ 12, ρ 13, ρ 14, ρ 15, ρ 16, ρ 17, ρ 18, ρ 19, ρ 20, ρ 21] (γ 0) 0 0 (γ 2)
  have hD : en145 (γ 0) (0, [ρ 22], γ 1) = .inr (0, 0, γ 2) := by
    unfold en145
    refine (if_pos (show (0 : Nat) = 0 by decide)).trans ?_
    refine (zLet_eq (show _ = γ 1 from rfl)).trans ?_
    refine (zLet_eq (show _ = ρ 22 from rfl)).trans ?_
    refine (zLet_eq m0).trans ?_
    refine (zLet_eq m1).trans ?_
    refine (zLet_eq m2).trans ?_
    refine (zLet_eq m13).trans ?_
    refine (zLet_eq m34).trans ?_
    refine (if_neg w_0).trans ?_
    refine (zLet_eq (show fn142 [] (γ 1) = (0, 0, γ 2) from l0.symm)).trans ?_
    refine (zLet_eq (show _ = γ 2 from rfl)).trans ?_
    refine (if_neg zQ0_).trans ?_
    rfl
  exact zGoo_aend hJ hD
theorem vn145a0_3 {S : Nat → zSpc} (hS103 : ∀ x g o v gz, S 103 x g o v gz → sn103 x g o v gz) (hS109 : ∀ x g o v gz, S 109 x g o v gz → sn109 x g o v gz) (hS114 : ∀ x g o v gz, S 114 x g o v gz → sn114 x g o v gz) (hS134 : ∀ x g o v gz, S 134 x g o v gz → sn134 x g o v gz) (hS142 : ∀ x g o v gz, S 142 x g o v gz → sn142 x g o v gz) (hS143 : ∀ x g o v gz, S 143 x g o v gz → sn143 x g o v gz) {a : List Int} {g : rHp} : ∀ (ρ : Nat → Int) (γ : Nat → rHp), jn145 a g 0 (zAg (zNA a145_ 0) ρ) (γ 1) → zO 22 S a g q145a0_3 ρ γ → zGl (fun i vs g1 => jn145 a g i vs g1) (sn145 a g) q145a0_3 ρ γ := by
  intro ρ γ hJ h
  obtain ⟨ha, hg, hr, hf, hm, hc, hl⟩ := h
  have ha : a = [ρ 0, ρ 1, ρ 2, ρ 3, ρ 4, ρ 5, ρ 6, ρ 7, ρ 8, ρ 9, ρ 10, ρ 11, ρ 12, ρ 13, ρ 14, ρ 15, ρ 16, ρ 17, ρ 18, ρ 19, ρ 20, ρ 21] := ha
  subst ha
  subst hg
  have hJ : jn145 [ρ 0, ρ 1, ρ 2, ρ 3, ρ 4, ρ 5, ρ 6, ρ 7, ρ 8, ρ 9, ρ 10, ρ 11, ρ 12, ρ 13, ρ 14, ρ 15, ρ 16, ρ 17, ρ 18, ρ 19, ρ 20, ρ 21] (γ 0) 0 [ρ 0, ρ 1, ρ 2, ρ 3, ρ 4, ρ 5, ρ 6, ρ 7, ρ 8, ρ 9, ρ 10, ρ 11, ρ 12, ρ 13, ρ 14, ρ 15, ρ 16, ρ 17, ρ 18, ρ 19, ρ 20, ρ 21, ρ 22, ρ 23, ρ 24, ρ 25, ρ 26, ρ 27, ρ 28, ρ 29, ρ 30, ρ 31, ρ 32] (γ 1) := hJ
  obtain ⟨-, -, -, -, -, -, -, -, -, -, -, -, -, -, -, -, -, -, -, -, -, -, r22, -, -, -, -, -, -, -, -, r31, -⟩ := hr
  have r22 : (0 : Int) ≤ ρ 22 ∧ ρ 22 ≤ 3 := r22
  have r31 : (0 : Int) ≤ ρ 31 ∧ ρ 31 ≤ 3 := r31
  obtain ⟨w_0, w_1⟩ : (¬ (ρ 22 ≥ 4)) ∧ (ρ 31 ≥ 0) := ⟨by omega, by omega⟩
  obtain ⟨m0, m1, m2, -, -, -, -, -, -, -, -, -, -, m13, -, -, -, -, -, -, -, -, -, -, -, -, -, -, -, -, -, -, -, -, m34, -, -, -, -, -, -, -, -, -, m44, -⟩ := hm
  have m0 : γ 0 1 0 10 = ρ 1 := m0
  have m1 : γ 0 40 0 (ρ 1) = ρ 2 := m1
  have m2 : γ 0 9 (ρ 2) 2 = ρ 3 := m2
  have m13 : γ 0 2 0 5 = ρ 14 := m13
  have m34 : γ 1 10 (ρ 3 + 9 * ρ 2 + 1) 9 = ρ 31 := m34
  have m44 : γ 3 2 0 6 = ρ 40 := m44
  obtain ⟨l0, l1, l2, -⟩ := hl
  have l0 : sn142 [ρ 1, ρ 2, ρ 3, ρ 23, ρ 5, ρ 24, ρ 0, ρ 10, ρ 11, ρ 13, ρ 26, ρ 27, ρ 28, ρ 29, ρ 30] (γ 1) 0 1 (γ 2) := hS142 _ _ _ _ _ l0
  have l1 : sn114 [ρ 33, ρ 5] (γ 2) 0 (-1) (γ 3) := hS114 _ _ _ _ _ l1
  have l2 : sn109 [ρ 40, ρ 13] (γ 3) 0 0 (γ 4) := hS109 _ _ _ _ _ l2
  show sn145 [ρ 0, ρ 1, ρ 2, ρ 3, ρ 4, ρ 5, ρ 6, ρ 7, ρ 8, ρ 9, ρ 10, ρ 11, ρ 12, ρ 13, ρ 14, ρ 15, ρ 16, ρ 17, ρ 18, ρ 19, ρ 20, ρ 21] (γ 0) 0 0 (γ 4)
  have hD : en145 (γ 0) (0, [ρ 22], γ 1) = .inr (0, 0, γ 4) := by
    unfold en145
    refine (if_pos (show (0 : Nat) = 0 by decide)).trans ?_
    refine (zLet_eq (show _ = γ 1 from rfl)).trans ?_
    refine (zLet_eq (show _ = ρ 22 from rfl)).trans ?_
    refine (zLet_eq m0).trans ?_
    refine (zLet_eq m1).trans ?_
    refine (zLet_eq m2).trans ?_
    refine (zLet_eq m13).trans ?_
    refine (zLet_eq m34).trans ?_
    refine (if_neg w_0).trans ?_
    refine (zLet_eq (show fn142 [] (γ 1) = (0, 1, γ 2) from l0.symm)).trans ?_
    refine (zLet_eq (show _ = γ 2 from rfl)).trans ?_
    refine (if_pos zQ1_).trans ?_
    refine (if_pos w_1).trans ?_
    refine (zLet_eq (show fn114 [] (γ 2) = (0, (-1), γ 3) from l1.symm)).trans ?_
    refine (zLet_eq (show _ = γ 3 from rfl)).trans ?_
    refine (if_neg zQ2_).trans ?_
    refine (zLet_eq m44).trans ?_
    refine (zLet_eq (show fn109 [ρ 40] (γ 3) = (0, 0, γ 4) from l2.symm)).trans ?_
    refine (zLet_eq (show _ = γ 4 from rfl)).trans ?_
    rfl
  exact zGoo_aend hJ hD
theorem vn145a0_4 {S : Nat → zSpc} (hS103 : ∀ x g o v gz, S 103 x g o v gz → sn103 x g o v gz) (hS109 : ∀ x g o v gz, S 109 x g o v gz → sn109 x g o v gz) (hS114 : ∀ x g o v gz, S 114 x g o v gz → sn114 x g o v gz) (hS134 : ∀ x g o v gz, S 134 x g o v gz → sn134 x g o v gz) (hS142 : ∀ x g o v gz, S 142 x g o v gz → sn142 x g o v gz) (hS143 : ∀ x g o v gz, S 143 x g o v gz → sn143 x g o v gz) {a : List Int} {g : rHp} : ∀ (ρ : Nat → Int) (γ : Nat → rHp), jn145 a g 0 (zAg (zNA a145_ 0) ρ) (γ 1) → zO 22 S a g q145a0_4 ρ γ → zGl (fun i vs g1 => jn145 a g i vs g1) (sn145 a g) q145a0_4 ρ γ := by
  intro ρ γ hJ h
  obtain ⟨ha, hg, hr, hf, hm, hc, hl⟩ := h
  have ha : a = [ρ 0, ρ 1, ρ 2, ρ 3, ρ 4, ρ 5, ρ 6, ρ 7, ρ 8, ρ 9, ρ 10, ρ 11, ρ 12, ρ 13, ρ 14, ρ 15, ρ 16, ρ 17, ρ 18, ρ 19, ρ 20, ρ 21] := ha
  subst ha
  subst hg
  have hJ : jn145 [ρ 0, ρ 1, ρ 2, ρ 3, ρ 4, ρ 5, ρ 6, ρ 7, ρ 8, ρ 9, ρ 10, ρ 11, ρ 12, ρ 13, ρ 14, ρ 15, ρ 16, ρ 17, ρ 18, ρ 19, ρ 20, ρ 21] (γ 0) 0 [ρ 0, ρ 1, ρ 2, ρ 3, ρ 4, ρ 5, ρ 6, ρ 7, ρ 8, ρ 9, ρ 10, ρ 11, ρ 12, ρ 13, ρ 14, ρ 15, ρ 16, ρ 17, ρ 18, ρ 19, ρ 20, ρ 21, ρ 22, ρ 23, ρ 24, ρ 25, ρ 26, ρ 27, ρ 28, ρ 29, ρ 30, ρ 31, ρ 32] (γ 1) := hJ
  obtain ⟨-, -, -, -, -, -, -, -, -, -, -, -, -, -, -, -, -, -, -, -, -, -, r22, -, -, -, -, -, -, -, -, r31, -, -, -, -, -, -, -, -, r40, -⟩ := hr
  have r22 : (0 : Int) ≤ ρ 22 ∧ ρ 22 ≤ 3 := r22
  have r31 : (0 : Int) ≤ ρ 31 ∧ ρ 31 ≤ 3 := r31
  have r40 : (41 : Int) ≤ ρ 40 ∧ ρ 40 ≤ 41 := r40
  obtain ⟨w_0, w_1, w_2, w_3⟩ : (¬ (ρ 22 ≥ 4)) ∧ (ρ 31 ≥ 0) ∧ ((0 : Int) ≤ ρ 40) ∧ (ρ 40 = 41) := ⟨by omega, by omega, by omega, by omega⟩
  obtain ⟨m0, m1, m2, -, -, -, -, -, -, -, -, -, -, m13, -, -, -, -, -, -, -, -, -, -, -, -, -, -, -, -, -, -, -, -, m34, -, -, -, -, -, -, -, -, -, m44, -⟩ := hm
  have m0 : γ 0 1 0 10 = ρ 1 := m0
  have m1 : γ 0 40 0 (ρ 1) = ρ 2 := m1
  have m2 : γ 0 9 (ρ 2) 2 = ρ 3 := m2
  have m13 : γ 0 2 0 5 = ρ 14 := m13
  have m34 : γ 1 10 (ρ 3 + 9 * ρ 2 + 1) 9 = ρ 31 := m34
  have m44 : γ 3 2 0 6 = ρ 41 := m44
  obtain ⟨⟨-, c4⟩, -⟩ := hc
  have c4 : γ 4 = rUp (γ 3) 2 0 6 (ρ 41 + 1) := c4
  obtain ⟨l0, l1, l2, -⟩ := hl
  have l0 : sn142 [ρ 1, ρ 2, ρ 3, ρ 23, ρ 5, ρ 24, ρ 0, ρ 10, ρ 11, ρ 13, ρ 26, ρ 27, ρ 28, ρ 29, ρ 30] (γ 1) 0 1 (γ 2) := hS142 _ _ _ _ _ l0
  have l1 : sn114 [ρ 33, ρ 5] (γ 2) 0 (ρ 40) (γ 3) := hS114 _ _ _ _ _ l1
  have l2 : sn134 [ρ 1, ρ 2, ρ 3, ρ 8, ρ 25, ρ 10, ρ 11, ρ 12, ρ 13, ρ 34, ρ 15] (γ 4) 0 0 (γ 5) := hS134 _ _ _ _ _ l2
  show sn145 [ρ 0, ρ 1, ρ 2, ρ 3, ρ 4, ρ 5, ρ 6, ρ 7, ρ 8, ρ 9, ρ 10, ρ 11, ρ 12, ρ 13, ρ 14, ρ 15, ρ 16, ρ 17, ρ 18, ρ 19, ρ 20, ρ 21] (γ 0) 0 0 (γ 5)
  have hD : en145 (γ 0) (0, [ρ 22], γ 1) = .inr (0, 0, γ 5) := by
    unfold en145
    refine (if_pos (show (0 : Nat) = 0 by decide)).trans ?_
    refine (zLet_eq (show _ = γ 1 from rfl)).trans ?_
    refine (zLet_eq (show _ = ρ 22 from rfl)).trans ?_
    refine (zLet_eq m0).trans ?_
    refine (zLet_eq m1).trans ?_
    refine (zLet_eq m2).trans ?_
    refine (zLet_eq m13).trans ?_
    refine (zLet_eq m34).trans ?_
    refine (if_neg w_0).trans ?_
    refine (zLet_eq (show fn142 [] (γ 1) = (0, 1, γ 2) from l0.symm)).trans ?_
    refine (zLet_eq (show _ = γ 2 from rfl)).trans ?_
    refine (if_pos zQ1_).trans ?_
    refine (if_pos w_1).trans ?_
    refine (zLet_eq (show fn114 [] (γ 2) = (0, ρ 40, γ 3) from l1.symm)).trans ?_
    refine (zLet_eq (show _ = γ 3 from rfl)).trans ?_
    refine (if_pos w_2).trans ?_
    refine (zLet_eq (show _ = ρ 40 from rfl)).trans ?_
    refine (zLet_eq m44).trans ?_
    refine (if_pos w_3).trans ?_
    refine (zLet_eq c4.symm).trans ?_
    refine (zLet_eq (show fn134 [] (γ 4) = (0, 0, γ 5) from l2.symm)).trans ?_
    refine (zLet_eq (show _ = γ 5 from rfl)).trans ?_
    refine (if_neg zQ0_).trans ?_
    rfl
  exact zGoo_aend hJ hD
theorem vn145a0_5 {S : Nat → zSpc} (hS103 : ∀ x g o v gz, S 103 x g o v gz → sn103 x g o v gz) (hS109 : ∀ x g o v gz, S 109 x g o v gz → sn109 x g o v gz) (hS114 : ∀ x g o v gz, S 114 x g o v gz → sn114 x g o v gz) (hS134 : ∀ x g o v gz, S 134 x g o v gz → sn134 x g o v gz) (hS142 : ∀ x g o v gz, S 142 x g o v gz → sn142 x g o v gz) (hS143 : ∀ x g o v gz, S 143 x g o v gz → sn143 x g o v gz) {a : List Int} {g : rHp} : ∀ (ρ : Nat → Int) (γ : Nat → rHp), jn145 a g 0 (zAg (zNA a145_ 0) ρ) (γ 1) → zO 22 S a g q145a0_5 ρ γ → zGl (fun i vs g1 => jn145 a g i vs g1) (sn145 a g) q145a0_5 ρ γ := by
  intro ρ γ hJ h
  obtain ⟨ha, hg, hr, hf, hm, hc, hl⟩ := h
  have ha : a = [ρ 0, ρ 1, ρ 2, ρ 3, ρ 4, ρ 5, ρ 6, ρ 7, ρ 8, ρ 9, ρ 10, ρ 11, ρ 12, ρ 13, ρ 14, ρ 15, ρ 16, ρ 17, ρ 18, ρ 19, ρ 20, ρ 21] := ha
  subst ha
  subst hg
  have hJ : jn145 [ρ 0, ρ 1, ρ 2, ρ 3, ρ 4, ρ 5, ρ 6, ρ 7, ρ 8, ρ 9, ρ 10, ρ 11, ρ 12, ρ 13, ρ 14, ρ 15, ρ 16, ρ 17, ρ 18, ρ 19, ρ 20, ρ 21] (γ 0) 0 [ρ 0, ρ 1, ρ 2, ρ 3, ρ 4, ρ 5, ρ 6, ρ 7, ρ 8, ρ 9, ρ 10, ρ 11, ρ 12, ρ 13, ρ 14, ρ 15, ρ 16, ρ 17, ρ 18, ρ 19, ρ 20, ρ 21, ρ 22, ρ 23, ρ 24, ρ 25, ρ 26, ρ 27, ρ 28, ρ 29, ρ 30, ρ 31, ρ 32] (γ 1) := hJ
  obtain ⟨-, -, -, -, -, -, -, -, -, -, -, -, -, -, -, -, -, -, -, -, -, -, r22, -, -, -, -, -, -, -, -, r31, -, -, -, -, -, -, -, -, r40, -⟩ := hr
  have r22 : (0 : Int) ≤ ρ 22 ∧ ρ 22 ≤ 3 := r22
  have r31 : (0 : Int) ≤ ρ 31 ∧ ρ 31 ≤ 3 := r31
  have r40 : (41 : Int) ≤ ρ 40 ∧ ρ 40 ≤ 41 := r40
  obtain ⟨w_0, w_1, w_2, w_3⟩ : (¬ (ρ 22 ≥ 4)) ∧ (ρ 31 ≥ 0) ∧ ((0 : Int) ≤ ρ 40) ∧ (ρ 40 = 41) := ⟨by omega, by omega, by omega, by omega⟩
  obtain ⟨m0, m1, m2, -, -, -, -, -, -, -, -, -, -, m13, -, -, -, -, -, -, -, -, -, -, -, -, -, -, -, -, -, -, -, -, m34, -, -, -, -, -, -, -, -, -, m44, -⟩ := hm
  have m0 : γ 0 1 0 10 = ρ 1 := m0
  have m1 : γ 0 40 0 (ρ 1) = ρ 2 := m1
  have m2 : γ 0 9 (ρ 2) 2 = ρ 3 := m2
  have m13 : γ 0 2 0 5 = ρ 14 := m13
  have m34 : γ 1 10 (ρ 3 + 9 * ρ 2 + 1) 9 = ρ 31 := m34
  have m44 : γ 3 2 0 6 = ρ 41 := m44
  obtain ⟨⟨-, c4⟩, -⟩ := hc
  have c4 : γ 4 = rUp (γ 3) 2 0 6 (ρ 41 + 1) := c4
  obtain ⟨l0, l1, l2, -⟩ := hl
  have l0 : sn142 [ρ 1, ρ 2, ρ 3, ρ 23, ρ 5, ρ 24, ρ 0, ρ 10, ρ 11, ρ 13, ρ 26, ρ 27, ρ 28, ρ 29, ρ 30] (γ 1) 0 1 (γ 2) := hS142 _ _ _ _ _ l0
  have l1 : sn114 [ρ 33, ρ 5] (γ 2) 0 (ρ 40) (γ 3) := hS114 _ _ _ _ _ l1
  have l2 : sn134 [ρ 1, ρ 2, ρ 3, ρ 8, ρ 25, ρ 10, ρ 11, ρ 12, ρ 13, ρ 34, ρ 15] (γ 4) 0 1 (γ 5) := hS134 _ _ _ _ _ l2
  show sn145 [ρ 0, ρ 1, ρ 2, ρ 3, ρ 4, ρ 5, ρ 6, ρ 7, ρ 8, ρ 9, ρ 10, ρ 11, ρ 12, ρ 13, ρ 14, ρ 15, ρ 16, ρ 17, ρ 18, ρ 19, ρ 20, ρ 21] (γ 0) 0 1 (γ 5)
  have hD : en145 (γ 0) (0, [ρ 22], γ 1) = .inr (0, 1, γ 5) := by
    unfold en145
    refine (if_pos (show (0 : Nat) = 0 by decide)).trans ?_
    refine (zLet_eq (show _ = γ 1 from rfl)).trans ?_
    refine (zLet_eq (show _ = ρ 22 from rfl)).trans ?_
    refine (zLet_eq m0).trans ?_
    refine (zLet_eq m1).trans ?_
    refine (zLet_eq m2).trans ?_
    refine (zLet_eq m13).trans ?_
    refine (zLet_eq m34).trans ?_
    refine (if_neg w_0).trans ?_
    refine (zLet_eq (show fn142 [] (γ 1) = (0, 1, γ 2) from l0.symm)).trans ?_
    refine (zLet_eq (show _ = γ 2 from rfl)).trans ?_
    refine (if_pos zQ1_).trans ?_
    refine (if_pos w_1).trans ?_
    refine (zLet_eq (show fn114 [] (γ 2) = (0, ρ 40, γ 3) from l1.symm)).trans ?_
    refine (zLet_eq (show _ = γ 3 from rfl)).trans ?_
    refine (if_pos w_2).trans ?_
    refine (zLet_eq (show _ = ρ 40 from rfl)).trans ?_
    refine (zLet_eq m44).trans ?_
    refine (if_pos w_3).trans ?_
    refine (zLet_eq c4.symm).trans ?_
    refine (zLet_eq (show fn134 [] (γ 4) = (0, 1, γ 5) from l2.symm)).trans ?_
    refine (zLet_eq (show _ = γ 5 from rfl)).trans ?_
    refine (if_pos zQ1_).trans ?_
    rfl
  exact zGoo_aend hJ hD
theorem vn145a0_6 {S : Nat → zSpc} (hS103 : ∀ x g o v gz, S 103 x g o v gz → sn103 x g o v gz) (hS109 : ∀ x g o v gz, S 109 x g o v gz → sn109 x g o v gz) (hS114 : ∀ x g o v gz, S 114 x g o v gz → sn114 x g o v gz) (hS134 : ∀ x g o v gz, S 134 x g o v gz → sn134 x g o v gz) (hS142 : ∀ x g o v gz, S 142 x g o v gz → sn142 x g o v gz) (hS143 : ∀ x g o v gz, S 143 x g o v gz → sn143 x g o v gz) {a : List Int} {g : rHp} : ∀ (ρ : Nat → Int) (γ : Nat → rHp), jn145 a g 0 (zAg (zNA a145_ 0) ρ) (γ 1) → zO 22 S a g q145a0_6 ρ γ → zGl (fun i vs g1 => jn145 a g i vs g1) (sn145 a g) q145a0_6 ρ γ := by
  intro ρ γ hJ h
  obtain ⟨ha, hg, hr, hf, hm, hc, hl⟩ := h
  have ha : a = [ρ 0, ρ 1, ρ 2, ρ 3, ρ 4, ρ 5, ρ 6, ρ 7, ρ 8, ρ 9, ρ 10, ρ 11, ρ 12, ρ 13, ρ 14, ρ 15, ρ 16, ρ 17, ρ 18, ρ 19, ρ 20, ρ 21] := ha
  subst ha
  subst hg
  have hJ : jn145 [ρ 0, ρ 1, ρ 2, ρ 3, ρ 4, ρ 5, ρ 6, ρ 7, ρ 8, ρ 9, ρ 10, ρ 11, ρ 12, ρ 13, ρ 14, ρ 15, ρ 16, ρ 17, ρ 18, ρ 19, ρ 20, ρ 21] (γ 0) 0 [ρ 0, ρ 1, ρ 2, ρ 3, ρ 4, ρ 5, ρ 6, ρ 7, ρ 8, ρ 9, ρ 10, ρ 11, ρ 12, ρ 13, ρ 14, ρ 15, ρ 16, ρ 17, ρ 18, ρ 19, ρ 20, ρ 21, ρ 22, ρ 23, ρ 24, ρ 25, ρ 26, ρ 27, ρ 28, ρ 29, ρ 30, ρ 31, ρ 32] (γ 1) := hJ
  obtain ⟨-, -, -, -, -, -, -, -, -, -, -, -, -, -, -, -, -, -, -, -, -, -, r22, -, -, -, -, -, -, -, -, r31, -, -, -, -, -, -, -, -, r40, -⟩ := hr
  have r22 : (0 : Int) ≤ ρ 22 ∧ ρ 22 ≤ 3 := r22
  have r31 : (0 : Int) ≤ ρ 31 ∧ ρ 31 ≤ 3 := r31
  have r40 : (41 : Int) ≤ ρ 40 ∧ ρ 40 ≤ 41 := r40
  obtain ⟨w_0, w_1, w_2, w_3⟩ : (¬ (ρ 22 ≥ 4)) ∧ (ρ 31 ≥ 0) ∧ ((0 : Int) ≤ ρ 40) ∧ (ρ 40 = 41) := ⟨by omega, by omega, by omega, by omega⟩
  obtain ⟨m0, m1, m2, -, -, -, -, -, -, -, -, -, -, m13, -, -, -, -, -, -, -, -, -, -, -, -, -, -, -, -, -, -, -, -, m34, -, -, -, -, -, -, -, -, -, m44, -⟩ := hm
  have m0 : γ 0 1 0 10 = ρ 1 := m0
  have m1 : γ 0 40 0 (ρ 1) = ρ 2 := m1
  have m2 : γ 0 9 (ρ 2) 2 = ρ 3 := m2
  have m13 : γ 0 2 0 5 = ρ 14 := m13
  have m34 : γ 1 10 (ρ 3 + 9 * ρ 2 + 1) 9 = ρ 31 := m34
  have m44 : γ 3 2 0 6 = ρ 41 := m44
  obtain ⟨⟨-, c4⟩, -⟩ := hc
  have c4 : γ 4 = rUp (γ 3) 2 0 6 (ρ 41 + 1) := c4
  obtain ⟨l0, l1, l2, -⟩ := hl
  have l0 : sn142 [ρ 1, ρ 2, ρ 3, ρ 23, ρ 5, ρ 24, ρ 0, ρ 10, ρ 11, ρ 13, ρ 26, ρ 27, ρ 28, ρ 29, ρ 30] (γ 1) 0 1 (γ 2) := hS142 _ _ _ _ _ l0
  have l1 : sn114 [ρ 33, ρ 5] (γ 2) 0 (ρ 40) (γ 3) := hS114 _ _ _ _ _ l1
  have l2 : sn134 [ρ 1, ρ 2, ρ 3, ρ 8, ρ 25, ρ 10, ρ 11, ρ 12, ρ 13, ρ 34, ρ 15] (γ 4) 0 1 (γ 5) := hS134 _ _ _ _ _ l2
  show sn145 [ρ 0, ρ 1, ρ 2, ρ 3, ρ 4, ρ 5, ρ 6, ρ 7, ρ 8, ρ 9, ρ 10, ρ 11, ρ 12, ρ 13, ρ 14, ρ 15, ρ 16, ρ 17, ρ 18, ρ 19, ρ 20, ρ 21] (γ 0) 0 1 (γ 5)
  have hD : en145 (γ 0) (0, [ρ 22], γ 1) = .inr (0, 1, γ 5) := by
    unfold en145
    refine (if_pos (show (0 : Nat) = 0 by decide)).trans ?_
    refine (zLet_eq (show _ = γ 1 from rfl)).trans ?_
    refine (zLet_eq (show _ = ρ 22 from rfl)).trans ?_
    refine (zLet_eq m0).trans ?_
    refine (zLet_eq m1).trans ?_
    refine (zLet_eq m2).trans ?_
    refine (zLet_eq m13).trans ?_
    refine (zLet_eq m34).trans ?_
    refine (if_neg w_0).trans ?_
    refine (zLet_eq (show fn142 [] (γ 1) = (0, 1, γ 2) from l0.symm)).trans ?_
    refine (zLet_eq (show _ = γ 2 from rfl)).trans ?_
    refine (if_pos zQ1_).trans ?_
    refine (if_pos w_1).trans ?_
    refine (zLet_eq (show fn114 [] (γ 2) = (0, ρ 40, γ 3) from l1.symm)).trans ?_
    refine (zLet_eq (show _ = γ 3 from rfl)).trans ?_
    refine (if_pos w_2).trans ?_
    refine (zLet_eq (show _ = ρ 40 from rfl)).trans ?_
    refine (zLet_eq m44).trans ?_
    refine (if_pos w_3).trans ?_
    refine (zLet_eq c4.symm).trans ?_
    refine (zLet_eq (show fn134 [] (γ 4) = (0, 1, γ 5) from l2.symm)).trans ?_
    refine (zLet_eq (show _ = γ 5 from rfl)).trans ?_
    refine (if_pos zQ1_).trans ?_
    rfl
  exact zGoo_aend hJ hD
theorem vn145a0_7 {S : Nat → zSpc} (hS103 : ∀ x g o v gz, S 103 x g o v gz → sn103 x g o v gz) (hS109 : ∀ x g o v gz, S 109 x g o v gz → sn109 x g o v gz) (hS114 : ∀ x g o v gz, S 114 x g o v gz → sn114 x g o v gz) (hS134 : ∀ x g o v gz, S 134 x g o v gz → sn134 x g o v gz) (hS142 : ∀ x g o v gz, S 142 x g o v gz → sn142 x g o v gz) (hS143 : ∀ x g o v gz, S 143 x g o v gz → sn143 x g o v gz) {a : List Int} {g : rHp} : ∀ (ρ : Nat → Int) (γ : Nat → rHp), jn145 a g 0 (zAg (zNA a145_ 0) ρ) (γ 1) → zO 22 S a g q145a0_7 ρ γ → zGl (fun i vs g1 => jn145 a g i vs g1) (sn145 a g) q145a0_7 ρ γ := by
  intro ρ γ hJ h
  obtain ⟨ha, hg, hr, hf, hm, hc, hl⟩ := h
  have ha : a = [ρ 0, ρ 1, ρ 2, ρ 3, ρ 4, ρ 5, ρ 6, ρ 7, ρ 8, ρ 9, ρ 10, ρ 11, ρ 12, ρ 13, ρ 14, ρ 15, ρ 16, ρ 17, ρ 18, ρ 19, ρ 20, ρ 21] := ha
  subst ha
  subst hg
  have hJ : jn145 [ρ 0, ρ 1, ρ 2, ρ 3, ρ 4, ρ 5, ρ 6, ρ 7, ρ 8, ρ 9, ρ 10, ρ 11, ρ 12, ρ 13, ρ 14, ρ 15, ρ 16, ρ 17, ρ 18, ρ 19, ρ 20, ρ 21] (γ 0) 0 [ρ 0, ρ 1, ρ 2, ρ 3, ρ 4, ρ 5, ρ 6, ρ 7, ρ 8, ρ 9, ρ 10, ρ 11, ρ 12, ρ 13, ρ 14, ρ 15, ρ 16, ρ 17, ρ 18, ρ 19, ρ 20, ρ 21, ρ 22, ρ 23, ρ 24, ρ 25, ρ 26, ρ 27, ρ 28, ρ 29, ρ 30, ρ 31, ρ 32] (γ 1) := hJ
  obtain ⟨-, -, -, -, -, -, -, -, -, -, -, -, -, -, -, -, -, -, -, -, -, -, r22, -, -, -, -, -, -, -, -, r31, -, -, -, -, -, -, -, -, r40, -⟩ := hr
  have r22 : (0 : Int) ≤ ρ 22 ∧ ρ 22 ≤ 3 := r22
  have r31 : (0 : Int) ≤ ρ 31 ∧ ρ 31 ≤ 3 := r31
  have r40 : (44 : Int) ≤ ρ 40 ∧ ρ 40 ≤ 44 := r40
  obtain ⟨w_0, w_1, w_2, w_3, w_4⟩ : (¬ (ρ 22 ≥ 4)) ∧ (ρ 31 ≥ 0) ∧ ((0 : Int) ≤ ρ 40) ∧ (¬ (ρ 40 = 41)) ∧ (ρ 40 = 44) := ⟨by omega, by omega, by omega, by omega, by omega⟩
  obtain ⟨m0, m1, m2, -, -, -, -, -, -, -, -, -, -, m13, -, -, -, -, -, -, -, -, -, -, -, -, -, -, -, -, -, -, -, -, m34, -, -, -, -, -, -, -, -, -, m44, -⟩ := hm
  have m0 : γ 0 1 0 10 = ρ 1 := m0
  have m1 : γ 0 40 0 (ρ 1) = ρ 2 := m1
  have m2 : γ 0 9 (ρ 2) 2 = ρ 3 := m2
  have m13 : γ 0 2 0 5 = ρ 14 := m13
  have m34 : γ 1 10 (ρ 3 + 9 * ρ 2 + 1) 9 = ρ 31 := m34
  have m44 : γ 3 2 0 6 = ρ 41 := m44
  obtain ⟨-, c4⟩ := hc
  have c4 : γ 4 = rUp (γ 3) 2 0 6 (ρ 41 + 1) := c4
  obtain ⟨l0, l1, l2, -⟩ := hl
  have l0 : sn142 [ρ 1, ρ 2, ρ 3, ρ 23, ρ 5, ρ 24, ρ 0, ρ 10, ρ 11, ρ 13, ρ 26, ρ 27, ρ 28, ρ 29, ρ 30] (γ 1) 0 1 (γ 2) := hS142 _ _ _ _ _ l0
  have l1 : sn114 [ρ 33, ρ 5] (γ 2) 0 (ρ 40) (γ 3) := hS114 _ _ _ _ _ l1
  have l2 : ρ 40 ≠ 41 := l2
  show jn145 [ρ 0, ρ 1, ρ 2, ρ 3, ρ 4, ρ 5, ρ 6, ρ 7, ρ 8, ρ 9, ρ 10, ρ 11, ρ 12, ρ 13, ρ 14, ρ 15, ρ 16, ρ 17, ρ 18, ρ 19, ρ 20, ρ 21] (γ 0) 0 [ρ 0, ρ 1, ρ 2, ρ 3, ρ 4, ρ 5, ρ 6, ρ 7, ρ 8, ρ 9, ρ 10, ρ 11, ρ 12, ρ 13, ρ 14, ρ 15, ρ 16, ρ 17, ρ 18, ρ 19, ρ 20, ρ 21, ρ 22 + 1, ρ 41 + 1, ρ 34, ρ 25, ρ 35, ρ 36, ρ 37, ρ 38, ρ 39, ρ 31, ρ 32] (γ 4)
  have hD : en145 (γ 0) (0, [ρ 22], γ 1) = .inl (0, [ρ 22 + 1], γ 4) := by
    unfold en145
    refine (if_pos (show (0 : Nat) = 0 by decide)).trans ?_
    refine (zLet_eq (show _ = γ 1 from rfl)).trans ?_
    refine (zLet_eq (show _ = ρ 22 from rfl)).trans ?_
    refine (zLet_eq m0).trans ?_
    refine (zLet_eq m1).trans ?_
    refine (zLet_eq m2).trans ?_
    refine (zLet_eq m13).trans ?_
    refine (zLet_eq m34).trans ?_
    refine (if_neg w_0).trans ?_
    refine (zLet_eq (show fn142 [] (γ 1) = (0, 1, γ 2) from l0.symm)).trans ?_
    refine (zLet_eq (show _ = γ 2 from rfl)).trans ?_
    refine (if_pos zQ1_).trans ?_
    refine (if_pos w_1).trans ?_
    refine (zLet_eq (show fn114 [] (γ 2) = (0, ρ 40, γ 3) from l1.symm)).trans ?_
    refine (zLet_eq (show _ = γ 3 from rfl)).trans ?_
    refine (if_pos w_2).trans ?_
    refine (zLet_eq (show _ = ρ 40 from rfl)).trans ?_
    refine (zLet_eq m44).trans ?_
    refine (if_neg w_3).trans ?_
    refine (if_pos w_4).trans ?_
    refine (zLet_eq c4.symm).trans ?_
    rfl
  exact zGoo_ato hJ hD
theorem vn145a0_8 {S : Nat → zSpc} (hS103 : ∀ x g o v gz, S 103 x g o v gz → sn103 x g o v gz) (hS109 : ∀ x g o v gz, S 109 x g o v gz → sn109 x g o v gz) (hS114 : ∀ x g o v gz, S 114 x g o v gz → sn114 x g o v gz) (hS134 : ∀ x g o v gz, S 134 x g o v gz → sn134 x g o v gz) (hS142 : ∀ x g o v gz, S 142 x g o v gz → sn142 x g o v gz) (hS143 : ∀ x g o v gz, S 143 x g o v gz → sn143 x g o v gz) {a : List Int} {g : rHp} : ∀ (ρ : Nat → Int) (γ : Nat → rHp), jn145 a g 0 (zAg (zNA a145_ 0) ρ) (γ 1) → zO 22 S a g q145a0_8 ρ γ → zGl (fun i vs g1 => jn145 a g i vs g1) (sn145 a g) q145a0_8 ρ γ := by
  intro ρ γ hJ h
  obtain ⟨ha, hg, hr, hf, hm, hc, hl⟩ := h
  have ha : a = [ρ 0, ρ 1, ρ 2, ρ 3, ρ 4, ρ 5, ρ 6, ρ 7, ρ 8, ρ 9, ρ 10, ρ 11, ρ 12, ρ 13, ρ 14, ρ 15, ρ 16, ρ 17, ρ 18, ρ 19, ρ 20, ρ 21] := ha
  subst ha
  subst hg
  have hJ : jn145 [ρ 0, ρ 1, ρ 2, ρ 3, ρ 4, ρ 5, ρ 6, ρ 7, ρ 8, ρ 9, ρ 10, ρ 11, ρ 12, ρ 13, ρ 14, ρ 15, ρ 16, ρ 17, ρ 18, ρ 19, ρ 20, ρ 21] (γ 0) 0 [ρ 0, ρ 1, ρ 2, ρ 3, ρ 4, ρ 5, ρ 6, ρ 7, ρ 8, ρ 9, ρ 10, ρ 11, ρ 12, ρ 13, ρ 14, ρ 15, ρ 16, ρ 17, ρ 18, ρ 19, ρ 20, ρ 21, ρ 22, ρ 23, ρ 24, ρ 25, ρ 26, ρ 27, ρ 28, ρ 29, ρ 30, ρ 31, ρ 32] (γ 1) := hJ
  obtain ⟨-, -, -, -, -, -, -, -, -, -, -, -, -, -, -, -, -, -, -, -, -, -, r22, -, -, -, -, -, -, -, -, r31, -, -, -, -, -, -, -, -, r40, -⟩ := hr
  have r22 : (0 : Int) ≤ ρ 22 ∧ ρ 22 ≤ 3 := r22
  have r31 : (0 : Int) ≤ ρ 31 ∧ ρ 31 ≤ 3 := r31
  have r40 : (0 : Int) ≤ ρ 40 ∧ ρ 40 ≤ 255 := r40
  obtain ⟨w_0, w_1, w_2⟩ : (¬ (ρ 22 ≥ 4)) ∧ (ρ 31 ≥ 0) ∧ ((0 : Int) ≤ ρ 40) := ⟨by omega, by omega, by omega⟩
  obtain ⟨m0, m1, m2, -, -, -, -, -, -, -, -, -, -, m13, -, -, -, -, -, -, -, -, -, -, -, -, -, -, -, -, -, -, -, -, m34, -, -, -, -, -, -, -, -, -, m44, -⟩ := hm
  have m0 : γ 0 1 0 10 = ρ 1 := m0
  have m1 : γ 0 40 0 (ρ 1) = ρ 2 := m1
  have m2 : γ 0 9 (ρ 2) 2 = ρ 3 := m2
  have m13 : γ 0 2 0 5 = ρ 14 := m13
  have m34 : γ 1 10 (ρ 3 + 9 * ρ 2 + 1) 9 = ρ 31 := m34
  have m44 : γ 3 2 0 6 = ρ 41 := m44
  obtain ⟨l0, l1, l2, l3, l4, -⟩ := hl
  have l0 : sn142 [ρ 1, ρ 2, ρ 3, ρ 23, ρ 5, ρ 24, ρ 0, ρ 10, ρ 11, ρ 13, ρ 26, ρ 27, ρ 28, ρ 29, ρ 30] (γ 1) 0 1 (γ 2) := hS142 _ _ _ _ _ l0
  have l1 : sn114 [ρ 33, ρ 5] (γ 2) 0 (ρ 40) (γ 3) := hS114 _ _ _ _ _ l1
  have l2 : ρ 40 ≠ 41 := l2
  have l3 : ρ 40 ≠ 44 := l3
  have l4 : sn109 [ρ 41, ρ 13] (γ 3) 0 0 (γ 4) := hS109 _ _ _ _ _ l4
  obtain ⟨wl_0, wl_1⟩ : (¬ (ρ 40 = 41)) ∧ (¬ (ρ 40 = 44)) := ⟨by omega, by omega⟩
  show sn145 [ρ 0, ρ 1, ρ 2, ρ 3, ρ 4, ρ 5, ρ 6, ρ 7, ρ 8, ρ 9, ρ 10, ρ 11, ρ 12, ρ 13, ρ 14, ρ 15, ρ 16, ρ 17, ρ 18, ρ 19, ρ 20, ρ 21] (γ 0) 0 0 (γ 4)
  have hD : en145 (γ 0) (0, [ρ 22], γ 1) = .inr (0, 0, γ 4) := by
    unfold en145
    refine (if_pos (show (0 : Nat) = 0 by decide)).trans ?_
    refine (zLet_eq (show _ = γ 1 from rfl)).trans ?_
    refine (zLet_eq (show _ = ρ 22 from rfl)).trans ?_
    refine (zLet_eq m0).trans ?_
    refine (zLet_eq m1).trans ?_
    refine (zLet_eq m2).trans ?_
    refine (zLet_eq m13).trans ?_
    refine (zLet_eq m34).trans ?_
    refine (if_neg w_0).trans ?_
    refine (zLet_eq (show fn142 [] (γ 1) = (0, 1, γ 2) from l0.symm)).trans ?_
    refine (zLet_eq (show _ = γ 2 from rfl)).trans ?_
    refine (if_pos zQ1_).trans ?_
    refine (if_pos w_1).trans ?_
    refine (zLet_eq (show fn114 [] (γ 2) = (0, ρ 40, γ 3) from l1.symm)).trans ?_
    refine (zLet_eq (show _ = γ 3 from rfl)).trans ?_
    refine (if_pos w_2).trans ?_
    refine (zLet_eq (show _ = ρ 40 from rfl)).trans ?_
    refine (zLet_eq m44).trans ?_
    refine (if_neg wl_0).trans ?_
    refine (if_neg wl_1).trans ?_
    refine (zLet_eq (show fn109 [ρ 41] (γ 3) = (0, 0, γ 4) from l4.symm)).trans ?_
    refine (zLet_eq (show _ = γ 4 from rfl)).trans ?_
    rfl
  exact zGoo_aend hJ hD
theorem vn145a0_9 {S : Nat → zSpc} (hS103 : ∀ x g o v gz, S 103 x g o v gz → sn103 x g o v gz) (hS109 : ∀ x g o v gz, S 109 x g o v gz → sn109 x g o v gz) (hS114 : ∀ x g o v gz, S 114 x g o v gz → sn114 x g o v gz) (hS134 : ∀ x g o v gz, S 134 x g o v gz → sn134 x g o v gz) (hS142 : ∀ x g o v gz, S 142 x g o v gz → sn142 x g o v gz) (hS143 : ∀ x g o v gz, S 143 x g o v gz → sn143 x g o v gz) {a : List Int} {g : rHp} : ∀ (ρ : Nat → Int) (γ : Nat → rHp), jn145 a g 0 (zAg (zNA a145_ 0) ρ) (γ 1) → zO 22 S a g q145a0_9 ρ γ → zGl (fun i vs g1 => jn145 a g i vs g1) (sn145 a g) q145a0_9 ρ γ := by
  intro ρ γ hJ h
  obtain ⟨ha, hg, hr, hf, hm, hc, hl⟩ := h
  have ha : a = [ρ 0, ρ 1, ρ 2, ρ 3, ρ 4, ρ 5, ρ 6, ρ 7, ρ 8, ρ 9, ρ 10, ρ 11, ρ 12, ρ 13, ρ 14, ρ 15, ρ 16, ρ 17, ρ 18, ρ 19, ρ 20, ρ 21] := ha
  subst ha
  subst hg
  have hJ : jn145 [ρ 0, ρ 1, ρ 2, ρ 3, ρ 4, ρ 5, ρ 6, ρ 7, ρ 8, ρ 9, ρ 10, ρ 11, ρ 12, ρ 13, ρ 14, ρ 15, ρ 16, ρ 17, ρ 18, ρ 19, ρ 20, ρ 21] (γ 0) 0 [ρ 0, ρ 1, ρ 2, ρ 3, ρ 4, ρ 5, ρ 6, ρ 7, ρ 8, ρ 9, ρ 10, ρ 11, ρ 12, ρ 13, ρ 14, ρ 15, ρ 16, ρ 17, ρ 18, ρ 19, ρ 20, ρ 21, ρ 22, ρ 23, ρ 24, ρ 25, ρ 26, ρ 27, ρ 28, ρ 29, ρ 30, ρ 31, ρ 32] (γ 1) := hJ
  obtain ⟨-, -, -, -, -, -, -, -, -, -, -, -, -, -, -, -, -, -, -, -, -, -, r22, -, -, -, -, -, -, -, -, r31, -⟩ := hr
  have r22 : (0 : Int) ≤ ρ 22 ∧ ρ 22 ≤ 3 := r22
  have r31 : ((-1) : Int) ≤ ρ 31 ∧ ρ 31 ≤ (-1) := r31
  obtain ⟨w_0, w_1⟩ : (¬ (ρ 22 ≥ 4)) ∧ (¬ (ρ 31 ≥ 0)) := ⟨by omega, by omega⟩
  obtain ⟨m0, m1, m2, -, -, -, -, -, -, -, -, -, -, m13, -, -, -, -, -, -, -, -, -, -, -, -, -, -, -, -, -, -, -, -, m34, -, -, -, -, -, -, -, -, -, m44, -⟩ := hm
  have m0 : γ 0 1 0 10 = ρ 1 := m0
  have m1 : γ 0 40 0 (ρ 1) = ρ 2 := m1
  have m2 : γ 0 9 (ρ 2) 2 = ρ 3 := m2
  have m13 : γ 0 2 0 5 = ρ 14 := m13
  have m34 : γ 1 10 (ρ 3 + 9 * ρ 2 + 1) 9 = ρ 31 := m34
  have m44 : γ 4 2 0 6 = ρ 40 := m44
  obtain ⟨l0, l1, l2, l3, -⟩ := hl
  have l0 : sn142 [ρ 1, ρ 2, ρ 3, ρ 23, ρ 5, ρ 24, ρ 0, ρ 10, ρ 11, ρ 13, ρ 26, ρ 27, ρ 28, ρ 29, ρ 30] (γ 1) 0 1 (γ 2) := hS142 _ _ _ _ _ l0
  have l1 : sn143 [ρ 3 + 9 * ρ 2 + 1, ρ 22, ρ 14] (γ 2) 0 0 (γ 3) := hS143 _ _ _ _ _ l1
  have l2 : sn114 [ρ 33, ρ 5] (γ 3) 0 (-1) (γ 4) := hS114 _ _ _ _ _ l2
  have l3 : sn109 [ρ 40, ρ 13] (γ 4) 0 0 (γ 5) := hS109 _ _ _ _ _ l3
  show sn145 [ρ 0, ρ 1, ρ 2, ρ 3, ρ 4, ρ 5, ρ 6, ρ 7, ρ 8, ρ 9, ρ 10, ρ 11, ρ 12, ρ 13, ρ 14, ρ 15, ρ 16, ρ 17, ρ 18, ρ 19, ρ 20, ρ 21] (γ 0) 0 0 (γ 5)
  have hD : en145 (γ 0) (0, [ρ 22], γ 1) = .inr (0, 0, γ 5) := by
    unfold en145
    refine (if_pos (show (0 : Nat) = 0 by decide)).trans ?_
    refine (zLet_eq (show _ = γ 1 from rfl)).trans ?_
    refine (zLet_eq (show _ = ρ 22 from rfl)).trans ?_
    refine (zLet_eq m0).trans ?_
    refine (zLet_eq m1).trans ?_
    refine (zLet_eq m2).trans ?_
    refine (zLet_eq m13).trans ?_
    refine (zLet_eq m34).trans ?_
    refine (if_neg w_0).trans ?_
    refine (zLet_eq (show fn142 [] (γ 1) = (0, 1, γ 2) from l0.symm)).trans ?_
    refine (zLet_eq (show _ = γ 2 from rfl)).trans ?_
    refine (if_pos zQ1_).trans ?_
    refine (if_neg w_1).trans ?_
    refine (zLet_eq (show fn143 [ρ 3 + 9 * ρ 2 + 1, ρ 22, ρ 14] (γ 2) = (0, 0, γ 3) from l1.symm)).trans ?_
    refine (zLet_eq (show _ = γ 3 from rfl)).trans ?_
    refine (if_neg zQ0_).trans ?_
    refine (zLet_eq (show fn114 [] (γ 3) = (0, (-1), γ 4) from l2.symm)).trans ?_
    refine (zLet_eq (show _ = γ 4 from rfl)).trans ?_
    refine (if_neg zQ2_).trans ?_
    refine (zLet_eq m44).trans ?_
    refine (zLet_eq (show fn109 [ρ 40] (γ 4) = (0, 0, γ 5) from l3.symm)).trans ?_
    refine (zLet_eq (show _ = γ 5 from rfl)).trans ?_
    rfl
  exact zGoo_aend hJ hD
theorem vn145a0_10 {S : Nat → zSpc} (hS103 : ∀ x g o v gz, S 103 x g o v gz → sn103 x g o v gz) (hS109 : ∀ x g o v gz, S 109 x g o v gz → sn109 x g o v gz) (hS114 : ∀ x g o v gz, S 114 x g o v gz → sn114 x g o v gz) (hS134 : ∀ x g o v gz, S 134 x g o v gz → sn134 x g o v gz) (hS142 : ∀ x g o v gz, S 142 x g o v gz → sn142 x g o v gz) (hS143 : ∀ x g o v gz, S 143 x g o v gz → sn143 x g o v gz) {a : List Int} {g : rHp} : ∀ (ρ : Nat → Int) (γ : Nat → rHp), jn145 a g 0 (zAg (zNA a145_ 0) ρ) (γ 1) → zO 22 S a g q145a0_10 ρ γ → zGl (fun i vs g1 => jn145 a g i vs g1) (sn145 a g) q145a0_10 ρ γ := by
  intro ρ γ hJ h
  obtain ⟨ha, hg, hr, hf, hm, hc, hl⟩ := h
  have ha : a = [ρ 0, ρ 1, ρ 2, ρ 3, ρ 4, ρ 5, ρ 6, ρ 7, ρ 8, ρ 9, ρ 10, ρ 11, ρ 12, ρ 13, ρ 14, ρ 15, ρ 16, ρ 17, ρ 18, ρ 19, ρ 20, ρ 21] := ha
  subst ha
  subst hg
  have hJ : jn145 [ρ 0, ρ 1, ρ 2, ρ 3, ρ 4, ρ 5, ρ 6, ρ 7, ρ 8, ρ 9, ρ 10, ρ 11, ρ 12, ρ 13, ρ 14, ρ 15, ρ 16, ρ 17, ρ 18, ρ 19, ρ 20, ρ 21] (γ 0) 0 [ρ 0, ρ 1, ρ 2, ρ 3, ρ 4, ρ 5, ρ 6, ρ 7, ρ 8, ρ 9, ρ 10, ρ 11, ρ 12, ρ 13, ρ 14, ρ 15, ρ 16, ρ 17, ρ 18, ρ 19, ρ 20, ρ 21, ρ 22, ρ 23, ρ 24, ρ 25, ρ 26, ρ 27, ρ 28, ρ 29, ρ 30, ρ 31, ρ 32] (γ 1) := hJ
  obtain ⟨-, -, -, -, -, -, -, -, -, -, -, -, -, -, -, -, -, -, -, -, -, -, r22, -, -, -, -, -, -, -, -, r31, -, -, -, -, -, -, -, -, r40, -⟩ := hr
  have r22 : (0 : Int) ≤ ρ 22 ∧ ρ 22 ≤ 3 := r22
  have r31 : ((-1) : Int) ≤ ρ 31 ∧ ρ 31 ≤ (-1) := r31
  have r40 : (41 : Int) ≤ ρ 40 ∧ ρ 40 ≤ 41 := r40
  obtain ⟨w_0, w_1, w_2, w_3⟩ : (¬ (ρ 22 ≥ 4)) ∧ (¬ (ρ 31 ≥ 0)) ∧ ((0 : Int) ≤ ρ 40) ∧ (ρ 40 = 41) := ⟨by omega, by omega, by omega, by omega⟩
  obtain ⟨m0, m1, m2, -, -, -, -, -, -, -, -, -, -, m13, -, -, -, -, -, -, -, -, -, -, -, -, -, -, -, -, -, -, -, -, m34, -, -, -, -, -, -, -, -, -, m44, -⟩ := hm
  have m0 : γ 0 1 0 10 = ρ 1 := m0
  have m1 : γ 0 40 0 (ρ 1) = ρ 2 := m1
  have m2 : γ 0 9 (ρ 2) 2 = ρ 3 := m2
  have m13 : γ 0 2 0 5 = ρ 14 := m13
  have m34 : γ 1 10 (ρ 3 + 9 * ρ 2 + 1) 9 = ρ 31 := m34
  have m44 : γ 4 2 0 6 = ρ 41 := m44
  obtain ⟨⟨-, c5⟩, -⟩ := hc
  have c5 : γ 5 = rUp (γ 4) 2 0 6 (ρ 41 + 1) := c5
  obtain ⟨l0, l1, l2, l3, -⟩ := hl
  have l0 : sn142 [ρ 1, ρ 2, ρ 3, ρ 23, ρ 5, ρ 24, ρ 0, ρ 10, ρ 11, ρ 13, ρ 26, ρ 27, ρ 28, ρ 29, ρ 30] (γ 1) 0 1 (γ 2) := hS142 _ _ _ _ _ l0
  have l1 : sn143 [ρ 3 + 9 * ρ 2 + 1, ρ 22, ρ 14] (γ 2) 0 0 (γ 3) := hS143 _ _ _ _ _ l1
  have l2 : sn114 [ρ 33, ρ 5] (γ 3) 0 (ρ 40) (γ 4) := hS114 _ _ _ _ _ l2
  have l3 : sn134 [ρ 1, ρ 2, ρ 3, ρ 8, ρ 25, ρ 10, ρ 11, ρ 12, ρ 13, ρ 34, ρ 15] (γ 5) 0 0 (γ 6) := hS134 _ _ _ _ _ l3
  show sn145 [ρ 0, ρ 1, ρ 2, ρ 3, ρ 4, ρ 5, ρ 6, ρ 7, ρ 8, ρ 9, ρ 10, ρ 11, ρ 12, ρ 13, ρ 14, ρ 15, ρ 16, ρ 17, ρ 18, ρ 19, ρ 20, ρ 21] (γ 0) 0 0 (γ 6)
  have hD : en145 (γ 0) (0, [ρ 22], γ 1) = .inr (0, 0, γ 6) := by
    unfold en145
    refine (if_pos (show (0 : Nat) = 0 by decide)).trans ?_
    refine (zLet_eq (show _ = γ 1 from rfl)).trans ?_
    refine (zLet_eq (show _ = ρ 22 from rfl)).trans ?_
    refine (zLet_eq m0).trans ?_
    refine (zLet_eq m1).trans ?_
    refine (zLet_eq m2).trans ?_
    refine (zLet_eq m13).trans ?_
    refine (zLet_eq m34).trans ?_
    refine (if_neg w_0).trans ?_
    refine (zLet_eq (show fn142 [] (γ 1) = (0, 1, γ 2) from l0.symm)).trans ?_
    refine (zLet_eq (show _ = γ 2 from rfl)).trans ?_
    refine (if_pos zQ1_).trans ?_
    refine (if_neg w_1).trans ?_
    refine (zLet_eq (show fn143 [ρ 3 + 9 * ρ 2 + 1, ρ 22, ρ 14] (γ 2) = (0, 0, γ 3) from l1.symm)).trans ?_
    refine (zLet_eq (show _ = γ 3 from rfl)).trans ?_
    refine (if_neg zQ0_).trans ?_
    refine (zLet_eq (show fn114 [] (γ 3) = (0, ρ 40, γ 4) from l2.symm)).trans ?_
    refine (zLet_eq (show _ = γ 4 from rfl)).trans ?_
    refine (if_pos w_2).trans ?_
    refine (zLet_eq (show _ = ρ 40 from rfl)).trans ?_
    refine (zLet_eq m44).trans ?_
    refine (if_pos w_3).trans ?_
    refine (zLet_eq c5.symm).trans ?_
    refine (zLet_eq (show fn134 [] (γ 5) = (0, 0, γ 6) from l3.symm)).trans ?_
    refine (zLet_eq (show _ = γ 6 from rfl)).trans ?_
    refine (if_neg zQ0_).trans ?_
    rfl
  exact zGoo_aend hJ hD
theorem vn145a0_11 {S : Nat → zSpc} (hS103 : ∀ x g o v gz, S 103 x g o v gz → sn103 x g o v gz) (hS109 : ∀ x g o v gz, S 109 x g o v gz → sn109 x g o v gz) (hS114 : ∀ x g o v gz, S 114 x g o v gz → sn114 x g o v gz) (hS134 : ∀ x g o v gz, S 134 x g o v gz → sn134 x g o v gz) (hS142 : ∀ x g o v gz, S 142 x g o v gz → sn142 x g o v gz) (hS143 : ∀ x g o v gz, S 143 x g o v gz → sn143 x g o v gz) {a : List Int} {g : rHp} : ∀ (ρ : Nat → Int) (γ : Nat → rHp), jn145 a g 0 (zAg (zNA a145_ 0) ρ) (γ 1) → zO 22 S a g q145a0_11 ρ γ → zGl (fun i vs g1 => jn145 a g i vs g1) (sn145 a g) q145a0_11 ρ γ := by
  intro ρ γ hJ h
  obtain ⟨ha, hg, hr, hf, hm, hc, hl⟩ := h
  have ha : a = [ρ 0, ρ 1, ρ 2, ρ 3, ρ 4, ρ 5, ρ 6, ρ 7, ρ 8, ρ 9, ρ 10, ρ 11, ρ 12, ρ 13, ρ 14, ρ 15, ρ 16, ρ 17, ρ 18, ρ 19, ρ 20, ρ 21] := ha
  subst ha
  subst hg
  have hJ : jn145 [ρ 0, ρ 1, ρ 2, ρ 3, ρ 4, ρ 5, ρ 6, ρ 7, ρ 8, ρ 9, ρ 10, ρ 11, ρ 12, ρ 13, ρ 14, ρ 15, ρ 16, ρ 17, ρ 18, ρ 19, ρ 20, ρ 21] (γ 0) 0 [ρ 0, ρ 1, ρ 2, ρ 3, ρ 4, ρ 5, ρ 6, ρ 7, ρ 8, ρ 9, ρ 10, ρ 11, ρ 12, ρ 13, ρ 14, ρ 15, ρ 16, ρ 17, ρ 18, ρ 19, ρ 20, ρ 21, ρ 22, ρ 23, ρ 24, ρ 25, ρ 26, ρ 27, ρ 28, ρ 29, ρ 30, ρ 31, ρ 32] (γ 1) := hJ
  obtain ⟨-, -, -, -, -, -, -, -, -, -, -, -, -, -, -, -, -, -, -, -, -, -, r22, -, -, -, -, -, -, -, -, r31, -, -, -, -, -, -, -, -, r40, -⟩ := hr
  have r22 : (0 : Int) ≤ ρ 22 ∧ ρ 22 ≤ 3 := r22
  have r31 : ((-1) : Int) ≤ ρ 31 ∧ ρ 31 ≤ (-1) := r31
  have r40 : (41 : Int) ≤ ρ 40 ∧ ρ 40 ≤ 41 := r40
  obtain ⟨w_0, w_1, w_2, w_3⟩ : (¬ (ρ 22 ≥ 4)) ∧ (¬ (ρ 31 ≥ 0)) ∧ ((0 : Int) ≤ ρ 40) ∧ (ρ 40 = 41) := ⟨by omega, by omega, by omega, by omega⟩
  obtain ⟨m0, m1, m2, -, -, -, -, -, -, -, -, -, -, m13, -, -, -, -, -, -, -, -, -, -, -, -, -, -, -, -, -, -, -, -, m34, -, -, -, -, -, -, -, -, -, m44, -⟩ := hm
  have m0 : γ 0 1 0 10 = ρ 1 := m0
  have m1 : γ 0 40 0 (ρ 1) = ρ 2 := m1
  have m2 : γ 0 9 (ρ 2) 2 = ρ 3 := m2
  have m13 : γ 0 2 0 5 = ρ 14 := m13
  have m34 : γ 1 10 (ρ 3 + 9 * ρ 2 + 1) 9 = ρ 31 := m34
  have m44 : γ 4 2 0 6 = ρ 41 := m44
  obtain ⟨⟨-, c5⟩, -⟩ := hc
  have c5 : γ 5 = rUp (γ 4) 2 0 6 (ρ 41 + 1) := c5
  obtain ⟨l0, l1, l2, l3, -⟩ := hl
  have l0 : sn142 [ρ 1, ρ 2, ρ 3, ρ 23, ρ 5, ρ 24, ρ 0, ρ 10, ρ 11, ρ 13, ρ 26, ρ 27, ρ 28, ρ 29, ρ 30] (γ 1) 0 1 (γ 2) := hS142 _ _ _ _ _ l0
  have l1 : sn143 [ρ 3 + 9 * ρ 2 + 1, ρ 22, ρ 14] (γ 2) 0 0 (γ 3) := hS143 _ _ _ _ _ l1
  have l2 : sn114 [ρ 33, ρ 5] (γ 3) 0 (ρ 40) (γ 4) := hS114 _ _ _ _ _ l2
  have l3 : sn134 [ρ 1, ρ 2, ρ 3, ρ 8, ρ 25, ρ 10, ρ 11, ρ 12, ρ 13, ρ 34, ρ 15] (γ 5) 0 1 (γ 6) := hS134 _ _ _ _ _ l3
  show sn145 [ρ 0, ρ 1, ρ 2, ρ 3, ρ 4, ρ 5, ρ 6, ρ 7, ρ 8, ρ 9, ρ 10, ρ 11, ρ 12, ρ 13, ρ 14, ρ 15, ρ 16, ρ 17, ρ 18, ρ 19, ρ 20, ρ 21] (γ 0) 0 1 (γ 6)
  have hD : en145 (γ 0) (0, [ρ 22], γ 1) = .inr (0, 1, γ 6) := by
    unfold en145
    refine (if_pos (show (0 : Nat) = 0 by decide)).trans ?_
    refine (zLet_eq (show _ = γ 1 from rfl)).trans ?_
    refine (zLet_eq (show _ = ρ 22 from rfl)).trans ?_
    refine (zLet_eq m0).trans ?_
    refine (zLet_eq m1).trans ?_
    refine (zLet_eq m2).trans ?_
    refine (zLet_eq m13).trans ?_
    refine (zLet_eq m34).trans ?_
    refine (if_neg w_0).trans ?_
    refine (zLet_eq (show fn142 [] (γ 1) = (0, 1, γ 2) from l0.symm)).trans ?_
    refine (zLet_eq (show _ = γ 2 from rfl)).trans ?_
    refine (if_pos zQ1_).trans ?_
    refine (if_neg w_1).trans ?_
    refine (zLet_eq (show fn143 [ρ 3 + 9 * ρ 2 + 1, ρ 22, ρ 14] (γ 2) = (0, 0, γ 3) from l1.symm)).trans ?_
    refine (zLet_eq (show _ = γ 3 from rfl)).trans ?_
    refine (if_neg zQ0_).trans ?_
    refine (zLet_eq (show fn114 [] (γ 3) = (0, ρ 40, γ 4) from l2.symm)).trans ?_
    refine (zLet_eq (show _ = γ 4 from rfl)).trans ?_
    refine (if_pos w_2).trans ?_
    refine (zLet_eq (show _ = ρ 40 from rfl)).trans ?_
    refine (zLet_eq m44).trans ?_
    refine (if_pos w_3).trans ?_
    refine (zLet_eq c5.symm).trans ?_
    refine (zLet_eq (show fn134 [] (γ 5) = (0, 1, γ 6) from l3.symm)).trans ?_
    refine (zLet_eq (show _ = γ 6 from rfl)).trans ?_
    refine (if_pos zQ1_).trans ?_
    rfl
  exact zGoo_aend hJ hD
theorem vn145a0_12 {S : Nat → zSpc} (hS103 : ∀ x g o v gz, S 103 x g o v gz → sn103 x g o v gz) (hS109 : ∀ x g o v gz, S 109 x g o v gz → sn109 x g o v gz) (hS114 : ∀ x g o v gz, S 114 x g o v gz → sn114 x g o v gz) (hS134 : ∀ x g o v gz, S 134 x g o v gz → sn134 x g o v gz) (hS142 : ∀ x g o v gz, S 142 x g o v gz → sn142 x g o v gz) (hS143 : ∀ x g o v gz, S 143 x g o v gz → sn143 x g o v gz) {a : List Int} {g : rHp} : ∀ (ρ : Nat → Int) (γ : Nat → rHp), jn145 a g 0 (zAg (zNA a145_ 0) ρ) (γ 1) → zO 22 S a g q145a0_12 ρ γ → zGl (fun i vs g1 => jn145 a g i vs g1) (sn145 a g) q145a0_12 ρ γ := by
  intro ρ γ hJ h
  obtain ⟨ha, hg, hr, hf, hm, hc, hl⟩ := h
  have ha : a = [ρ 0, ρ 1, ρ 2, ρ 3, ρ 4, ρ 5, ρ 6, ρ 7, ρ 8, ρ 9, ρ 10, ρ 11, ρ 12, ρ 13, ρ 14, ρ 15, ρ 16, ρ 17, ρ 18, ρ 19, ρ 20, ρ 21] := ha
  subst ha
  subst hg
  have hJ : jn145 [ρ 0, ρ 1, ρ 2, ρ 3, ρ 4, ρ 5, ρ 6, ρ 7, ρ 8, ρ 9, ρ 10, ρ 11, ρ 12, ρ 13, ρ 14, ρ 15, ρ 16, ρ 17, ρ 18, ρ 19, ρ 20, ρ 21] (γ 0) 0 [ρ 0, ρ 1, ρ 2, ρ 3, ρ 4, ρ 5, ρ 6, ρ 7, ρ 8, ρ 9, ρ 10, ρ 11, ρ 12, ρ 13, ρ 14, ρ 15, ρ 16, ρ 17, ρ 18, ρ 19, ρ 20, ρ 21, ρ 22, ρ 23, ρ 24, ρ 25, ρ 26, ρ 27, ρ 28, ρ 29, ρ 30, ρ 31, ρ 32] (γ 1) := hJ
  obtain ⟨-, -, -, -, -, -, -, -, -, -, -, -, -, -, -, -, -, -, -, -, -, -, r22, -, -, -, -, -, -, -, -, r31, -, -, -, -, -, -, -, -, r40, -⟩ := hr
  have r22 : (0 : Int) ≤ ρ 22 ∧ ρ 22 ≤ 3 := r22
  have r31 : ((-1) : Int) ≤ ρ 31 ∧ ρ 31 ≤ (-1) := r31
  have r40 : (41 : Int) ≤ ρ 40 ∧ ρ 40 ≤ 41 := r40
  obtain ⟨w_0, w_1, w_2, w_3⟩ : (¬ (ρ 22 ≥ 4)) ∧ (¬ (ρ 31 ≥ 0)) ∧ ((0 : Int) ≤ ρ 40) ∧ (ρ 40 = 41) := ⟨by omega, by omega, by omega, by omega⟩
  obtain ⟨m0, m1, m2, -, -, -, -, -, -, -, -, -, -, m13, -, -, -, -, -, -, -, -, -, -, -, -, -, -, -, -, -, -, -, -, m34, -, -, -, -, -, -, -, -, -, m44, -⟩ := hm
  have m0 : γ 0 1 0 10 = ρ 1 := m0
  have m1 : γ 0 40 0 (ρ 1) = ρ 2 := m1
  have m2 : γ 0 9 (ρ 2) 2 = ρ 3 := m2
  have m13 : γ 0 2 0 5 = ρ 14 := m13
  have m34 : γ 1 10 (ρ 3 + 9 * ρ 2 + 1) 9 = ρ 31 := m34
  have m44 : γ 4 2 0 6 = ρ 41 := m44
  obtain ⟨⟨-, c5⟩, -⟩ := hc
  have c5 : γ 5 = rUp (γ 4) 2 0 6 (ρ 41 + 1) := c5
  obtain ⟨l0, l1, l2, l3, -⟩ := hl
  have l0 : sn142 [ρ 1, ρ 2, ρ 3, ρ 23, ρ 5, ρ 24, ρ 0, ρ 10, ρ 11, ρ 13, ρ 26, ρ 27, ρ 28, ρ 29, ρ 30] (γ 1) 0 1 (γ 2) := hS142 _ _ _ _ _ l0
  have l1 : sn143 [ρ 3 + 9 * ρ 2 + 1, ρ 22, ρ 14] (γ 2) 0 0 (γ 3) := hS143 _ _ _ _ _ l1
  have l2 : sn114 [ρ 33, ρ 5] (γ 3) 0 (ρ 40) (γ 4) := hS114 _ _ _ _ _ l2
  have l3 : sn134 [ρ 1, ρ 2, ρ 3, ρ 8, ρ 25, ρ 10, ρ 11, ρ 12, ρ 13, ρ 34, ρ 15] (γ 5) 0 1 (γ 6) := hS134 _ _ _ _ _ l3
  show sn145 [ρ 0, ρ 1, ρ 2, ρ 3, ρ 4, ρ 5, ρ 6, ρ 7, ρ 8, ρ 9, ρ 10, ρ 11, ρ 12, ρ 13, ρ 14, ρ 15, ρ 16, ρ 17, ρ 18, ρ 19, ρ 20, ρ 21] (γ 0) 0 1 (γ 6)
  have hD : en145 (γ 0) (0, [ρ 22], γ 1) = .inr (0, 1, γ 6) := by
    unfold en145
    refine (if_pos (show (0 : Nat) = 0 by decide)).trans ?_
    refine (zLet_eq (show _ = γ 1 from rfl)).trans ?_
    refine (zLet_eq (show _ = ρ 22 from rfl)).trans ?_
    refine (zLet_eq m0).trans ?_
    refine (zLet_eq m1).trans ?_
    refine (zLet_eq m2).trans ?_
    refine (zLet_eq m13).trans ?_
    refine (zLet_eq m34).trans ?_
    refine (if_neg w_0).trans ?_
    refine (zLet_eq (show fn142 [] (γ 1) = (0, 1, γ 2) from l0.symm)).trans ?_
    refine (zLet_eq (show _ = γ 2 from rfl)).trans ?_
    refine (if_pos zQ1_).trans ?_
    refine (if_neg w_1).trans ?_
    refine (zLet_eq (show fn143 [ρ 3 + 9 * ρ 2 + 1, ρ 22, ρ 14] (γ 2) = (0, 0, γ 3) from l1.symm)).trans ?_
    refine (zLet_eq (show _ = γ 3 from rfl)).trans ?_
    refine (if_neg zQ0_).trans ?_
    refine (zLet_eq (show fn114 [] (γ 3) = (0, ρ 40, γ 4) from l2.symm)).trans ?_
    refine (zLet_eq (show _ = γ 4 from rfl)).trans ?_
    refine (if_pos w_2).trans ?_
    refine (zLet_eq (show _ = ρ 40 from rfl)).trans ?_
    refine (zLet_eq m44).trans ?_
    refine (if_pos w_3).trans ?_
    refine (zLet_eq c5.symm).trans ?_
    refine (zLet_eq (show fn134 [] (γ 5) = (0, 1, γ 6) from l3.symm)).trans ?_
    refine (zLet_eq (show _ = γ 6 from rfl)).trans ?_
    refine (if_pos zQ1_).trans ?_
    rfl
  exact zGoo_aend hJ hD
theorem vn145a0_13 {S : Nat → zSpc} (hS103 : ∀ x g o v gz, S 103 x g o v gz → sn103 x g o v gz) (hS109 : ∀ x g o v gz, S 109 x g o v gz → sn109 x g o v gz) (hS114 : ∀ x g o v gz, S 114 x g o v gz → sn114 x g o v gz) (hS134 : ∀ x g o v gz, S 134 x g o v gz → sn134 x g o v gz) (hS142 : ∀ x g o v gz, S 142 x g o v gz → sn142 x g o v gz) (hS143 : ∀ x g o v gz, S 143 x g o v gz → sn143 x g o v gz) {a : List Int} {g : rHp} : ∀ (ρ : Nat → Int) (γ : Nat → rHp), jn145 a g 0 (zAg (zNA a145_ 0) ρ) (γ 1) → zO 22 S a g q145a0_13 ρ γ → zGl (fun i vs g1 => jn145 a g i vs g1) (sn145 a g) q145a0_13 ρ γ := by
  intro ρ γ hJ h
  obtain ⟨ha, hg, hr, hf, hm, hc, hl⟩ := h
  have ha : a = [ρ 0, ρ 1, ρ 2, ρ 3, ρ 4, ρ 5, ρ 6, ρ 7, ρ 8, ρ 9, ρ 10, ρ 11, ρ 12, ρ 13, ρ 14, ρ 15, ρ 16, ρ 17, ρ 18, ρ 19, ρ 20, ρ 21] := ha
  subst ha
  subst hg
  have hJ : jn145 [ρ 0, ρ 1, ρ 2, ρ 3, ρ 4, ρ 5, ρ 6, ρ 7, ρ 8, ρ 9, ρ 10, ρ 11, ρ 12, ρ 13, ρ 14, ρ 15, ρ 16, ρ 17, ρ 18, ρ 19, ρ 20, ρ 21] (γ 0) 0 [ρ 0, ρ 1, ρ 2, ρ 3, ρ 4, ρ 5, ρ 6, ρ 7, ρ 8, ρ 9, ρ 10, ρ 11, ρ 12, ρ 13, ρ 14, ρ 15, ρ 16, ρ 17, ρ 18, ρ 19, ρ 20, ρ 21, ρ 22, ρ 23, ρ 24, ρ 25, ρ 26, ρ 27, ρ 28, ρ 29, ρ 30, ρ 31, ρ 32] (γ 1) := hJ
  obtain ⟨-, -, -, -, -, -, -, -, -, -, -, -, -, -, -, -, -, -, -, -, -, -, r22, -, -, -, -, -, -, -, -, r31, -, -, -, -, -, -, -, -, r40, -⟩ := hr
  have r22 : (0 : Int) ≤ ρ 22 ∧ ρ 22 ≤ 3 := r22
  have r31 : ((-1) : Int) ≤ ρ 31 ∧ ρ 31 ≤ (-1) := r31
  have r40 : (44 : Int) ≤ ρ 40 ∧ ρ 40 ≤ 44 := r40
  obtain ⟨w_0, w_1, w_2, w_3, w_4⟩ : (¬ (ρ 22 ≥ 4)) ∧ (¬ (ρ 31 ≥ 0)) ∧ ((0 : Int) ≤ ρ 40) ∧ (¬ (ρ 40 = 41)) ∧ (ρ 40 = 44) := ⟨by omega, by omega, by omega, by omega, by omega⟩
  obtain ⟨m0, m1, m2, -, -, -, -, -, -, -, -, -, -, m13, -, -, -, -, -, -, -, -, -, -, -, -, -, -, -, -, -, -, -, -, m34, -, -, -, -, -, -, -, -, -, m44, -⟩ := hm
  have m0 : γ 0 1 0 10 = ρ 1 := m0
  have m1 : γ 0 40 0 (ρ 1) = ρ 2 := m1
  have m2 : γ 0 9 (ρ 2) 2 = ρ 3 := m2
  have m13 : γ 0 2 0 5 = ρ 14 := m13
  have m34 : γ 1 10 (ρ 3 + 9 * ρ 2 + 1) 9 = ρ 31 := m34
  have m44 : γ 4 2 0 6 = ρ 41 := m44
  obtain ⟨-, c5⟩ := hc
  have c5 : γ 5 = rUp (γ 4) 2 0 6 (ρ 41 + 1) := c5
  obtain ⟨l0, l1, l2, l3, -⟩ := hl
  have l0 : sn142 [ρ 1, ρ 2, ρ 3, ρ 23, ρ 5, ρ 24, ρ 0, ρ 10, ρ 11, ρ 13, ρ 26, ρ 27, ρ 28, ρ 29, ρ 30] (γ 1) 0 1 (γ 2) := hS142 _ _ _ _ _ l0
  have l1 : sn143 [ρ 3 + 9 * ρ 2 + 1, ρ 22, ρ 14] (γ 2) 0 0 (γ 3) := hS143 _ _ _ _ _ l1
  have l2 : sn114 [ρ 33, ρ 5] (γ 3) 0 (ρ 40) (γ 4) := hS114 _ _ _ _ _ l2
  have l3 : ρ 40 ≠ 41 := l3
  show jn145 [ρ 0, ρ 1, ρ 2, ρ 3, ρ 4, ρ 5, ρ 6, ρ 7, ρ 8, ρ 9, ρ 10, ρ 11, ρ 12, ρ 13, ρ 14, ρ 15, ρ 16, ρ 17, ρ 18, ρ 19, ρ 20, ρ 21] (γ 0) 0 [ρ 0, ρ 1, ρ 2, ρ 3, ρ 4, ρ 5, ρ 6, ρ 7, ρ 8, ρ 9, ρ 10, ρ 11, ρ 12, ρ 13, ρ 14, ρ 15, ρ 16, ρ 17, ρ 18, ρ 19, ρ 20, ρ 21, ρ 22 + 1, ρ 41 + 1, ρ 34, ρ 25, ρ 35, ρ 36, ρ 37, ρ 38, ρ 39, ρ 31, ρ 32] (γ 5)
  have hD : en145 (γ 0) (0, [ρ 22], γ 1) = .inl (0, [ρ 22 + 1], γ 5) := by
    unfold en145
    refine (if_pos (show (0 : Nat) = 0 by decide)).trans ?_
    refine (zLet_eq (show _ = γ 1 from rfl)).trans ?_
    refine (zLet_eq (show _ = ρ 22 from rfl)).trans ?_
    refine (zLet_eq m0).trans ?_
    refine (zLet_eq m1).trans ?_
    refine (zLet_eq m2).trans ?_
    refine (zLet_eq m13).trans ?_
    refine (zLet_eq m34).trans ?_
    refine (if_neg w_0).trans ?_
    refine (zLet_eq (show fn142 [] (γ 1) = (0, 1, γ 2) from l0.symm)).trans ?_
    refine (zLet_eq (show _ = γ 2 from rfl)).trans ?_
    refine (if_pos zQ1_).trans ?_
    refine (if_neg w_1).trans ?_
    refine (zLet_eq (show fn143 [ρ 3 + 9 * ρ 2 + 1, ρ 22, ρ 14] (γ 2) = (0, 0, γ 3) from l1.symm)).trans ?_
    refine (zLet_eq (show _ = γ 3 from rfl)).trans ?_
    refine (if_neg zQ0_).trans ?_
    refine (zLet_eq (show fn114 [] (γ 3) = (0, ρ 40, γ 4) from l2.symm)).trans ?_
    refine (zLet_eq (show _ = γ 4 from rfl)).trans ?_
    refine (if_pos w_2).trans ?_
    refine (zLet_eq (show _ = ρ 40 from rfl)).trans ?_
    refine (zLet_eq m44).trans ?_
    refine (if_neg w_3).trans ?_
    refine (if_pos w_4).trans ?_
    refine (zLet_eq c5.symm).trans ?_
    rfl
  exact zGoo_ato hJ hD
theorem vn145a0_14 {S : Nat → zSpc} (hS103 : ∀ x g o v gz, S 103 x g o v gz → sn103 x g o v gz) (hS109 : ∀ x g o v gz, S 109 x g o v gz → sn109 x g o v gz) (hS114 : ∀ x g o v gz, S 114 x g o v gz → sn114 x g o v gz) (hS134 : ∀ x g o v gz, S 134 x g o v gz → sn134 x g o v gz) (hS142 : ∀ x g o v gz, S 142 x g o v gz → sn142 x g o v gz) (hS143 : ∀ x g o v gz, S 143 x g o v gz → sn143 x g o v gz) {a : List Int} {g : rHp} : ∀ (ρ : Nat → Int) (γ : Nat → rHp), jn145 a g 0 (zAg (zNA a145_ 0) ρ) (γ 1) → zO 22 S a g q145a0_14 ρ γ → zGl (fun i vs g1 => jn145 a g i vs g1) (sn145 a g) q145a0_14 ρ γ := by
  intro ρ γ hJ h
  obtain ⟨ha, hg, hr, hf, hm, hc, hl⟩ := h
  have ha : a = [ρ 0, ρ 1, ρ 2, ρ 3, ρ 4, ρ 5, ρ 6, ρ 7, ρ 8, ρ 9, ρ 10, ρ 11, ρ 12, ρ 13, ρ 14, ρ 15, ρ 16, ρ 17, ρ 18, ρ 19, ρ 20, ρ 21] := ha
  subst ha
  subst hg
  have hJ : jn145 [ρ 0, ρ 1, ρ 2, ρ 3, ρ 4, ρ 5, ρ 6, ρ 7, ρ 8, ρ 9, ρ 10, ρ 11, ρ 12, ρ 13, ρ 14, ρ 15, ρ 16, ρ 17, ρ 18, ρ 19, ρ 20, ρ 21] (γ 0) 0 [ρ 0, ρ 1, ρ 2, ρ 3, ρ 4, ρ 5, ρ 6, ρ 7, ρ 8, ρ 9, ρ 10, ρ 11, ρ 12, ρ 13, ρ 14, ρ 15, ρ 16, ρ 17, ρ 18, ρ 19, ρ 20, ρ 21, ρ 22, ρ 23, ρ 24, ρ 25, ρ 26, ρ 27, ρ 28, ρ 29, ρ 30, ρ 31, ρ 32] (γ 1) := hJ
  obtain ⟨-, -, -, -, -, -, -, -, -, -, -, -, -, -, -, -, -, -, -, -, -, -, r22, -, -, -, -, -, -, -, -, r31, -, -, -, -, -, -, -, -, r40, -⟩ := hr
  have r22 : (0 : Int) ≤ ρ 22 ∧ ρ 22 ≤ 3 := r22
  have r31 : ((-1) : Int) ≤ ρ 31 ∧ ρ 31 ≤ (-1) := r31
  have r40 : (0 : Int) ≤ ρ 40 ∧ ρ 40 ≤ 255 := r40
  obtain ⟨w_0, w_1, w_2⟩ : (¬ (ρ 22 ≥ 4)) ∧ (¬ (ρ 31 ≥ 0)) ∧ ((0 : Int) ≤ ρ 40) := ⟨by omega, by omega, by omega⟩
  obtain ⟨m0, m1, m2, -, -, -, -, -, -, -, -, -, -, m13, -, -, -, -, -, -, -, -, -, -, -, -, -, -, -, -, -, -, -, -, m34, -, -, -, -, -, -, -, -, -, m44, -⟩ := hm
  have m0 : γ 0 1 0 10 = ρ 1 := m0
  have m1 : γ 0 40 0 (ρ 1) = ρ 2 := m1
  have m2 : γ 0 9 (ρ 2) 2 = ρ 3 := m2
  have m13 : γ 0 2 0 5 = ρ 14 := m13
  have m34 : γ 1 10 (ρ 3 + 9 * ρ 2 + 1) 9 = ρ 31 := m34
  have m44 : γ 4 2 0 6 = ρ 41 := m44
  obtain ⟨l0, l1, l2, l3, l4, l5, -⟩ := hl
  have l0 : sn142 [ρ 1, ρ 2, ρ 3, ρ 23, ρ 5, ρ 24, ρ 0, ρ 10, ρ 11, ρ 13, ρ 26, ρ 27, ρ 28, ρ 29, ρ 30] (γ 1) 0 1 (γ 2) := hS142 _ _ _ _ _ l0
  have l1 : sn143 [ρ 3 + 9 * ρ 2 + 1, ρ 22, ρ 14] (γ 2) 0 0 (γ 3) := hS143 _ _ _ _ _ l1
  have l2 : sn114 [ρ 33, ρ 5] (γ 3) 0 (ρ 40) (γ 4) := hS114 _ _ _ _ _ l2
  have l3 : ρ 40 ≠ 41 := l3
  have l4 : ρ 40 ≠ 44 := l4
  have l5 : sn109 [ρ 41, ρ 13] (γ 4) 0 0 (γ 5) := hS109 _ _ _ _ _ l5
  obtain ⟨wl_0, wl_1⟩ : (¬ (ρ 40 = 41)) ∧ (¬ (ρ 40 = 44)) := ⟨by omega, by omega⟩
  show sn145 [ρ 0, ρ 1, ρ 2, ρ 3, ρ 4, ρ 5, ρ 6, ρ 7, ρ 8, ρ 9, ρ 10, ρ 11, ρ 12, ρ 13, ρ 14, ρ 15, ρ 16, ρ 17, ρ 18, ρ 19, ρ 20, ρ 21] (γ 0) 0 0 (γ 5)
  have hD : en145 (γ 0) (0, [ρ 22], γ 1) = .inr (0, 0, γ 5) := by
    unfold en145
    refine (if_pos (show (0 : Nat) = 0 by decide)).trans ?_
    refine (zLet_eq (show _ = γ 1 from rfl)).trans ?_
    refine (zLet_eq (show _ = ρ 22 from rfl)).trans ?_
    refine (zLet_eq m0).trans ?_
    refine (zLet_eq m1).trans ?_
    refine (zLet_eq m2).trans ?_
    refine (zLet_eq m13).trans ?_
    refine (zLet_eq m34).trans ?_
    refine (if_neg w_0).trans ?_
    refine (zLet_eq (show fn142 [] (γ 1) = (0, 1, γ 2) from l0.symm)).trans ?_
    refine (zLet_eq (show _ = γ 2 from rfl)).trans ?_
    refine (if_pos zQ1_).trans ?_
    refine (if_neg w_1).trans ?_
    refine (zLet_eq (show fn143 [ρ 3 + 9 * ρ 2 + 1, ρ 22, ρ 14] (γ 2) = (0, 0, γ 3) from l1.symm)).trans ?_
    refine (zLet_eq (show _ = γ 3 from rfl)).trans ?_
    refine (if_neg zQ0_).trans ?_
    refine (zLet_eq (show fn114 [] (γ 3) = (0, ρ 40, γ 4) from l2.symm)).trans ?_
    refine (zLet_eq (show _ = γ 4 from rfl)).trans ?_
    refine (if_pos w_2).trans ?_
    refine (zLet_eq (show _ = ρ 40 from rfl)).trans ?_
    refine (zLet_eq m44).trans ?_
    refine (if_neg wl_0).trans ?_
    refine (if_neg wl_1).trans ?_
    refine (zLet_eq (show fn109 [ρ 41] (γ 4) = (0, 0, γ 5) from l5.symm)).trans ?_
    refine (zLet_eq (show _ = γ 5 from rfl)).trans ?_
    rfl
  exact zGoo_aend hJ hD
theorem vn145a0_15 {S : Nat → zSpc} (hS103 : ∀ x g o v gz, S 103 x g o v gz → sn103 x g o v gz) (hS109 : ∀ x g o v gz, S 109 x g o v gz → sn109 x g o v gz) (hS114 : ∀ x g o v gz, S 114 x g o v gz → sn114 x g o v gz) (hS134 : ∀ x g o v gz, S 134 x g o v gz → sn134 x g o v gz) (hS142 : ∀ x g o v gz, S 142 x g o v gz → sn142 x g o v gz) (hS143 : ∀ x g o v gz, S 143 x g o v gz → sn143 x g o v gz) {a : List Int} {g : rHp} : ∀ (ρ : Nat → Int) (γ : Nat → rHp), jn145 a g 0 (zAg (zNA a145_ 0) ρ) (γ 1) → zO 22 S a g q145a0_15 ρ γ → zGl (fun i vs g1 => jn145 a g i vs g1) (sn145 a g) q145a0_15 ρ γ := by
  intro ρ γ hJ h
  obtain ⟨ha, hg, hr, hf, hm, hc, hl⟩ := h
  have ha : a = [ρ 0, ρ 1, ρ 2, ρ 3, ρ 4, ρ 5, ρ 6, ρ 7, ρ 8, ρ 9, ρ 10, ρ 11, ρ 12, ρ 13, ρ 14, ρ 15, ρ 16, ρ 17, ρ 18, ρ 19, ρ 20, ρ 21] := ha
  subst ha
  subst hg
  have hJ : jn145 [ρ 0, ρ 1, ρ 2, ρ 3, ρ 4, ρ 5, ρ 6, ρ 7, ρ 8, ρ 9, ρ 10, ρ 11, ρ 12, ρ 13, ρ 14, ρ 15, ρ 16, ρ 17, ρ 18, ρ 19, ρ 20, ρ 21] (γ 0) 0 [ρ 0, ρ 1, ρ 2, ρ 3, ρ 4, ρ 5, ρ 6, ρ 7, ρ 8, ρ 9, ρ 10, ρ 11, ρ 12, ρ 13, ρ 14, ρ 15, ρ 16, ρ 17, ρ 18, ρ 19, ρ 20, ρ 21, ρ 22, ρ 23, ρ 24, ρ 25, ρ 26, ρ 27, ρ 28, ρ 29, ρ 30, ρ 31, ρ 32] (γ 1) := hJ
  obtain ⟨-, -, -, -, -, -, -, -, -, -, -, -, -, -, -, -, -, -, -, -, -, -, r22, -, -, -, -, -, -, -, -, r31, -⟩ := hr
  have r22 : (0 : Int) ≤ ρ 22 ∧ ρ 22 ≤ 3 := r22
  have r31 : ((-1) : Int) ≤ ρ 31 ∧ ρ 31 ≤ (-1) := r31
  obtain ⟨w_0, w_1⟩ : (¬ (ρ 22 ≥ 4)) ∧ (¬ (ρ 31 ≥ 0)) := ⟨by omega, by omega⟩
  obtain ⟨m0, m1, m2, -, -, -, -, -, -, -, -, -, -, m13, -, -, -, -, -, -, -, -, -, -, -, -, -, -, -, -, -, -, -, -, m34, -, -, -, -, -, -, -, -, -, m44, -⟩ := hm
  have m0 : γ 0 1 0 10 = ρ 1 := m0
  have m1 : γ 0 40 0 (ρ 1) = ρ 2 := m1
  have m2 : γ 0 9 (ρ 2) 2 = ρ 3 := m2
  have m13 : γ 0 2 0 5 = ρ 14 := m13
  have m34 : γ 1 10 (ρ 3 + 9 * ρ 2 + 1) 9 = ρ 31 := m34
  have m44 : γ 5 2 0 6 = ρ 40 := m44
  obtain ⟨⟨⟨-, c4⟩, -⟩, -⟩ := hc
  have c4 : γ 4 = rUp (γ 3) 10 (ρ 3 + 9 * ρ 2 + 1) 9 (ρ 22) := c4
  obtain ⟨l0, l1, l2, l3, -⟩ := hl
  have l0 : sn142 [ρ 1, ρ 2, ρ 3, ρ 23, ρ 5, ρ 24, ρ 0, ρ 10, ρ 11, ρ 13, ρ 26, ρ 27, ρ 28, ρ 29, ρ 30] (γ 1) 0 1 (γ 2) := hS142 _ _ _ _ _ l0
  have l1 : sn143 [ρ 3 + 9 * ρ 2 + 1, ρ 22, ρ 14] (γ 2) 0 1 (γ 3) := hS143 _ _ _ _ _ l1
  have l2 : sn114 [ρ 33, ρ 5] (γ 4) 0 (-1) (γ 5) := hS114 _ _ _ _ _ l2
  have l3 : sn109 [ρ 40, ρ 13] (γ 5) 0 0 (γ 6) := hS109 _ _ _ _ _ l3
  show sn145 [ρ 0, ρ 1, ρ 2, ρ 3, ρ 4, ρ 5, ρ 6, ρ 7, ρ 8, ρ 9, ρ 10, ρ 11, ρ 12, ρ 13, ρ 14, ρ 15, ρ 16, ρ 17, ρ 18, ρ 19, ρ 20, ρ 21] (γ 0) 0 0 (γ 6)
  have hD : en145 (γ 0) (0, [ρ 22], γ 1) = .inr (0, 0, γ 6) := by
    unfold en145
    refine (if_pos (show (0 : Nat) = 0 by decide)).trans ?_
    refine (zLet_eq (show _ = γ 1 from rfl)).trans ?_
    refine (zLet_eq (show _ = ρ 22 from rfl)).trans ?_
    refine (zLet_eq m0).trans ?_
    refine (zLet_eq m1).trans ?_
    refine (zLet_eq m2).trans ?_
    refine (zLet_eq m13).trans ?_
    refine (zLet_eq m34).trans ?_
    refine (if_neg w_0).trans ?_
    refine (zLet_eq (show fn142 [] (γ 1) = (0, 1, γ 2) from l0.symm)).trans ?_
    refine (zLet_eq (show _ = γ 2 from rfl)).trans ?_
    refine (if_pos zQ1_).trans ?_
    refine (if_neg w_1).trans ?_
    refine (zLet_eq (show fn143 [ρ 3 + 9 * ρ 2 + 1, ρ 22, ρ 14] (γ 2) = (0, 1, γ 3) from l1.symm)).trans ?_
    refine (zLet_eq (show _ = γ 3 from rfl)).trans ?_
    refine (if_pos zQ1_).trans ?_
    refine (zLet_eq c4.symm).trans ?_
    refine (zLet_eq (show fn114 [] (γ 4) = (0, (-1), γ 5) from l2.symm)).trans ?_
    refine (zLet_eq (show _ = γ 5 from rfl)).trans ?_
    refine (if_neg zQ2_).trans ?_
    refine (zLet_eq m44).trans ?_
    refine (zLet_eq (show fn109 [ρ 40] (γ 5) = (0, 0, γ 6) from l3.symm)).trans ?_
    refine (zLet_eq (show _ = γ 6 from rfl)).trans ?_
    rfl
  exact zGoo_aend hJ hD
theorem vn145a0_16 {S : Nat → zSpc} (hS103 : ∀ x g o v gz, S 103 x g o v gz → sn103 x g o v gz) (hS109 : ∀ x g o v gz, S 109 x g o v gz → sn109 x g o v gz) (hS114 : ∀ x g o v gz, S 114 x g o v gz → sn114 x g o v gz) (hS134 : ∀ x g o v gz, S 134 x g o v gz → sn134 x g o v gz) (hS142 : ∀ x g o v gz, S 142 x g o v gz → sn142 x g o v gz) (hS143 : ∀ x g o v gz, S 143 x g o v gz → sn143 x g o v gz) {a : List Int} {g : rHp} : ∀ (ρ : Nat → Int) (γ : Nat → rHp), jn145 a g 0 (zAg (zNA a145_ 0) ρ) (γ 1) → zO 22 S a g q145a0_16 ρ γ → zGl (fun i vs g1 => jn145 a g i vs g1) (sn145 a g) q145a0_16 ρ γ := by
  intro ρ γ hJ h
  obtain ⟨ha, hg, hr, hf, hm, hc, hl⟩ := h
  have ha : a = [ρ 0, ρ 1, ρ 2, ρ 3, ρ 4, ρ 5, ρ 6, ρ 7, ρ 8, ρ 9, ρ 10, ρ 11, ρ 12, ρ 13, ρ 14, ρ 15, ρ 16, ρ 17, ρ 18, ρ 19, ρ 20, ρ 21] := ha
  subst ha
  subst hg
  have hJ : jn145 [ρ 0, ρ 1, ρ 2, ρ 3, ρ 4, ρ 5, ρ 6, ρ 7, ρ 8, ρ 9, ρ 10, ρ 11, ρ 12, ρ 13, ρ 14, ρ 15, ρ 16, ρ 17, ρ 18, ρ 19, ρ 20, ρ 21] (γ 0) 0 [ρ 0, ρ 1, ρ 2, ρ 3, ρ 4, ρ 5, ρ 6, ρ 7, ρ 8, ρ 9, ρ 10, ρ 11, ρ 12, ρ 13, ρ 14, ρ 15, ρ 16, ρ 17, ρ 18, ρ 19, ρ 20, ρ 21, ρ 22, ρ 23, ρ 24, ρ 25, ρ 26, ρ 27, ρ 28, ρ 29, ρ 30, ρ 31, ρ 32] (γ 1) := hJ
  obtain ⟨-, -, -, -, -, -, -, -, -, -, -, -, -, -, -, -, -, -, -, -, -, -, r22, -, -, -, -, -, -, -, -, r31, -, -, -, -, -, -, -, -, r40, -⟩ := hr
  have r22 : (0 : Int) ≤ ρ 22 ∧ ρ 22 ≤ 3 := r22
  have r31 : ((-1) : Int) ≤ ρ 31 ∧ ρ 31 ≤ (-1) := r31
  have r40 : (41 : Int) ≤ ρ 40 ∧ ρ 40 ≤ 41 := r40
  obtain ⟨w_0, w_1, w_2, w_3⟩ : (¬ (ρ 22 ≥ 4)) ∧ (¬ (ρ 31 ≥ 0)) ∧ ((0 : Int) ≤ ρ 40) ∧ (ρ 40 = 41) := ⟨by omega, by omega, by omega, by omega⟩
  obtain ⟨m0, m1, m2, -, -, -, -, -, -, -, -, -, -, m13, -, -, -, -, -, -, -, -, -, -, -, -, -, -, -, -, -, -, -, -, m34, -, -, -, -, -, -, -, -, -, m44, -⟩ := hm
  have m0 : γ 0 1 0 10 = ρ 1 := m0
  have m1 : γ 0 40 0 (ρ 1) = ρ 2 := m1
  have m2 : γ 0 9 (ρ 2) 2 = ρ 3 := m2
  have m13 : γ 0 2 0 5 = ρ 14 := m13
  have m34 : γ 1 10 (ρ 3 + 9 * ρ 2 + 1) 9 = ρ 31 := m34
  have m44 : γ 5 2 0 6 = ρ 41 := m44
  obtain ⟨⟨⟨⟨-, c4⟩, -⟩, c6⟩, -⟩ := hc
  have c4 : γ 4 = rUp (γ 3) 10 (ρ 3 + 9 * ρ 2 + 1) 9 (ρ 22) := c4
  have c6 : γ 6 = rUp (γ 5) 2 0 6 (ρ 41 + 1) := c6
  obtain ⟨l0, l1, l2, l3, -⟩ := hl
  have l0 : sn142 [ρ 1, ρ 2, ρ 3, ρ 23, ρ 5, ρ 24, ρ 0, ρ 10, ρ 11, ρ 13, ρ 26, ρ 27, ρ 28, ρ 29, ρ 30] (γ 1) 0 1 (γ 2) := hS142 _ _ _ _ _ l0
  have l1 : sn143 [ρ 3 + 9 * ρ 2 + 1, ρ 22, ρ 14] (γ 2) 0 1 (γ 3) := hS143 _ _ _ _ _ l1
  have l2 : sn114 [ρ 33, ρ 5] (γ 4) 0 (ρ 40) (γ 5) := hS114 _ _ _ _ _ l2
  have l3 : sn134 [ρ 1, ρ 2, ρ 3, ρ 8, ρ 25, ρ 10, ρ 11, ρ 12, ρ 13, ρ 34, ρ 15] (γ 6) 0 0 (γ 7) := hS134 _ _ _ _ _ l3
  show sn145 [ρ 0, ρ 1, ρ 2, ρ 3, ρ 4, ρ 5, ρ 6, ρ 7, ρ 8, ρ 9, ρ 10, ρ 11, ρ 12, ρ 13, ρ 14, ρ 15, ρ 16, ρ 17, ρ 18, ρ 19, ρ 20, ρ 21] (γ 0) 0 0 (γ 7)
  have hD : en145 (γ 0) (0, [ρ 22], γ 1) = .inr (0, 0, γ 7) := by
    unfold en145
    refine (if_pos (show (0 : Nat) = 0 by decide)).trans ?_
    refine (zLet_eq (show _ = γ 1 from rfl)).trans ?_
    refine (zLet_eq (show _ = ρ 22 from rfl)).trans ?_
    refine (zLet_eq m0).trans ?_
    refine (zLet_eq m1).trans ?_
    refine (zLet_eq m2).trans ?_
    refine (zLet_eq m13).trans ?_
    refine (zLet_eq m34).trans ?_
    refine (if_neg w_0).trans ?_
    refine (zLet_eq (show fn142 [] (γ 1) = (0, 1, γ 2) from l0.symm)).trans ?_
    refine (zLet_eq (show _ = γ 2 from rfl)).trans ?_
    refine (if_pos zQ1_).trans ?_
    refine (if_neg w_1).trans ?_
    refine (zLet_eq (show fn143 [ρ 3 + 9 * ρ 2 + 1, ρ 22, ρ 14] (γ 2) = (0, 1, γ 3) from l1.symm)).trans ?_
    refine (zLet_eq (show _ = γ 3 from rfl)).trans ?_
    refine (if_pos zQ1_).trans ?_
    refine (zLet_eq c4.symm).trans ?_
    refine (zLet_eq (show fn114 [] (γ 4) = (0, ρ 40, γ 5) from l2.symm)).trans ?_
    refine (zLet_eq (show _ = γ 5 from rfl)).trans ?_
    refine (if_pos w_2).trans ?_
    refine (zLet_eq (show _ = ρ 40 from rfl)).trans ?_
    refine (zLet_eq m44).trans ?_
    refine (if_pos w_3).trans ?_
    refine (zLet_eq c6.symm).trans ?_
    refine (zLet_eq (show fn134 [] (γ 6) = (0, 0, γ 7) from l3.symm)).trans ?_
    refine (zLet_eq (show _ = γ 7 from rfl)).trans ?_
    refine (if_neg zQ0_).trans ?_
    rfl
  exact zGoo_aend hJ hD
theorem vn145a0_17 {S : Nat → zSpc} (hS103 : ∀ x g o v gz, S 103 x g o v gz → sn103 x g o v gz) (hS109 : ∀ x g o v gz, S 109 x g o v gz → sn109 x g o v gz) (hS114 : ∀ x g o v gz, S 114 x g o v gz → sn114 x g o v gz) (hS134 : ∀ x g o v gz, S 134 x g o v gz → sn134 x g o v gz) (hS142 : ∀ x g o v gz, S 142 x g o v gz → sn142 x g o v gz) (hS143 : ∀ x g o v gz, S 143 x g o v gz → sn143 x g o v gz) {a : List Int} {g : rHp} : ∀ (ρ : Nat → Int) (γ : Nat → rHp), jn145 a g 0 (zAg (zNA a145_ 0) ρ) (γ 1) → zO 22 S a g q145a0_17 ρ γ → zGl (fun i vs g1 => jn145 a g i vs g1) (sn145 a g) q145a0_17 ρ γ := by
  intro ρ γ hJ h
  obtain ⟨ha, hg, hr, hf, hm, hc, hl⟩ := h
  have ha : a = [ρ 0, ρ 1, ρ 2, ρ 3, ρ 4, ρ 5, ρ 6, ρ 7, ρ 8, ρ 9, ρ 10, ρ 11, ρ 12, ρ 13, ρ 14, ρ 15, ρ 16, ρ 17, ρ 18, ρ 19, ρ 20, ρ 21] := ha
  subst ha
  subst hg
  have hJ : jn145 [ρ 0, ρ 1, ρ 2, ρ 3, ρ 4, ρ 5, ρ 6, ρ 7, ρ 8, ρ 9, ρ 10, ρ 11, ρ 12, ρ 13, ρ 14, ρ 15, ρ 16, ρ 17, ρ 18, ρ 19, ρ 20, ρ 21] (γ 0) 0 [ρ 0, ρ 1, ρ 2, ρ 3, ρ 4, ρ 5, ρ 6, ρ 7, ρ 8, ρ 9, ρ 10, ρ 11, ρ 12, ρ 13, ρ 14, ρ 15, ρ 16, ρ 17, ρ 18, ρ 19, ρ 20, ρ 21, ρ 22, ρ 23, ρ 24, ρ 25, ρ 26, ρ 27, ρ 28, ρ 29, ρ 30, ρ 31, ρ 32] (γ 1) := hJ
  obtain ⟨-, -, -, -, -, -, -, -, -, -, -, -, -, -, -, -, -, -, -, -, -, -, r22, -, -, -, -, -, -, -, -, r31, -, -, -, -, -, -, -, -, r40, -⟩ := hr
  have r22 : (0 : Int) ≤ ρ 22 ∧ ρ 22 ≤ 3 := r22
  have r31 : ((-1) : Int) ≤ ρ 31 ∧ ρ 31 ≤ (-1) := r31
  have r40 : (41 : Int) ≤ ρ 40 ∧ ρ 40 ≤ 41 := r40
  obtain ⟨w_0, w_1, w_2, w_3⟩ : (¬ (ρ 22 ≥ 4)) ∧ (¬ (ρ 31 ≥ 0)) ∧ ((0 : Int) ≤ ρ 40) ∧ (ρ 40 = 41) := ⟨by omega, by omega, by omega, by omega⟩
  obtain ⟨m0, m1, m2, -, -, -, -, -, -, -, -, -, -, m13, -, -, -, -, -, -, -, -, -, -, -, -, -, -, -, -, -, -, -, -, m34, -, -, -, -, -, -, -, -, -, m44, -⟩ := hm
  have m0 : γ 0 1 0 10 = ρ 1 := m0
  have m1 : γ 0 40 0 (ρ 1) = ρ 2 := m1
  have m2 : γ 0 9 (ρ 2) 2 = ρ 3 := m2
  have m13 : γ 0 2 0 5 = ρ 14 := m13
  have m34 : γ 1 10 (ρ 3 + 9 * ρ 2 + 1) 9 = ρ 31 := m34
  have m44 : γ 5 2 0 6 = ρ 41 := m44
  obtain ⟨⟨⟨⟨-, c4⟩, -⟩, c6⟩, -⟩ := hc
  have c4 : γ 4 = rUp (γ 3) 10 (ρ 3 + 9 * ρ 2 + 1) 9 (ρ 22) := c4
  have c6 : γ 6 = rUp (γ 5) 2 0 6 (ρ 41 + 1) := c6
  obtain ⟨l0, l1, l2, l3, -⟩ := hl
  have l0 : sn142 [ρ 1, ρ 2, ρ 3, ρ 23, ρ 5, ρ 24, ρ 0, ρ 10, ρ 11, ρ 13, ρ 26, ρ 27, ρ 28, ρ 29, ρ 30] (γ 1) 0 1 (γ 2) := hS142 _ _ _ _ _ l0
  have l1 : sn143 [ρ 3 + 9 * ρ 2 + 1, ρ 22, ρ 14] (γ 2) 0 1 (γ 3) := hS143 _ _ _ _ _ l1
  have l2 : sn114 [ρ 33, ρ 5] (γ 4) 0 (ρ 40) (γ 5) := hS114 _ _ _ _ _ l2
  have l3 : sn134 [ρ 1, ρ 2, ρ 3, ρ 8, ρ 25, ρ 10, ρ 11, ρ 12, ρ 13, ρ 34, ρ 15] (γ 6) 0 1 (γ 7) := hS134 _ _ _ _ _ l3
  show sn145 [ρ 0, ρ 1, ρ 2, ρ 3, ρ 4, ρ 5, ρ 6, ρ 7, ρ 8, ρ 9, ρ 10, ρ 11, ρ 12, ρ 13, ρ 14, ρ 15, ρ 16, ρ 17, ρ 18, ρ 19, ρ 20, ρ 21] (γ 0) 0 1 (γ 7)
  have hD : en145 (γ 0) (0, [ρ 22], γ 1) = .inr (0, 1, γ 7) := by
    unfold en145
    refine (if_pos (show (0 : Nat) = 0 by decide)).trans ?_
    refine (zLet_eq (show _ = γ 1 from rfl)).trans ?_
    refine (zLet_eq (show _ = ρ 22 from rfl)).trans ?_
    refine (zLet_eq m0).trans ?_
    refine (zLet_eq m1).trans ?_
    refine (zLet_eq m2).trans ?_
    refine (zLet_eq m13).trans ?_
    refine (zLet_eq m34).trans ?_
    refine (if_neg w_0).trans ?_
    refine (zLet_eq (show fn142 [] (γ 1) = (0, 1, γ 2) from l0.symm)).trans ?_
    refine (zLet_eq (show _ = γ 2 from rfl)).trans ?_
    refine (if_pos zQ1_).trans ?_
    refine (if_neg w_1).trans ?_
    refine (zLet_eq (show fn143 [ρ 3 + 9 * ρ 2 + 1, ρ 22, ρ 14] (γ 2) = (0, 1, γ 3) from l1.symm)).trans ?_
    refine (zLet_eq (show _ = γ 3 from rfl)).trans ?_
    refine (if_pos zQ1_).trans ?_
    refine (zLet_eq c4.symm).trans ?_
    refine (zLet_eq (show fn114 [] (γ 4) = (0, ρ 40, γ 5) from l2.symm)).trans ?_
    refine (zLet_eq (show _ = γ 5 from rfl)).trans ?_
    refine (if_pos w_2).trans ?_
    refine (zLet_eq (show _ = ρ 40 from rfl)).trans ?_
    refine (zLet_eq m44).trans ?_
    refine (if_pos w_3).trans ?_
    refine (zLet_eq c6.symm).trans ?_
    refine (zLet_eq (show fn134 [] (γ 6) = (0, 1, γ 7) from l3.symm)).trans ?_
    refine (zLet_eq (show _ = γ 7 from rfl)).trans ?_
    refine (if_pos zQ1_).trans ?_
    rfl
  exact zGoo_aend hJ hD
theorem vn145a0_18 {S : Nat → zSpc} (hS103 : ∀ x g o v gz, S 103 x g o v gz → sn103 x g o v gz) (hS109 : ∀ x g o v gz, S 109 x g o v gz → sn109 x g o v gz) (hS114 : ∀ x g o v gz, S 114 x g o v gz → sn114 x g o v gz) (hS134 : ∀ x g o v gz, S 134 x g o v gz → sn134 x g o v gz) (hS142 : ∀ x g o v gz, S 142 x g o v gz → sn142 x g o v gz) (hS143 : ∀ x g o v gz, S 143 x g o v gz → sn143 x g o v gz) {a : List Int} {g : rHp} : ∀ (ρ : Nat → Int) (γ : Nat → rHp), jn145 a g 0 (zAg (zNA a145_ 0) ρ) (γ 1) → zO 22 S a g q145a0_18 ρ γ → zGl (fun i vs g1 => jn145 a g i vs g1) (sn145 a g) q145a0_18 ρ γ := by
  intro ρ γ hJ h
  obtain ⟨ha, hg, hr, hf, hm, hc, hl⟩ := h
  have ha : a = [ρ 0, ρ 1, ρ 2, ρ 3, ρ 4, ρ 5, ρ 6, ρ 7, ρ 8, ρ 9, ρ 10, ρ 11, ρ 12, ρ 13, ρ 14, ρ 15, ρ 16, ρ 17, ρ 18, ρ 19, ρ 20, ρ 21] := ha
  subst ha
  subst hg
  have hJ : jn145 [ρ 0, ρ 1, ρ 2, ρ 3, ρ 4, ρ 5, ρ 6, ρ 7, ρ 8, ρ 9, ρ 10, ρ 11, ρ 12, ρ 13, ρ 14, ρ 15, ρ 16, ρ 17, ρ 18, ρ 19, ρ 20, ρ 21] (γ 0) 0 [ρ 0, ρ 1, ρ 2, ρ 3, ρ 4, ρ 5, ρ 6, ρ 7, ρ 8, ρ 9, ρ 10, ρ 11, ρ 12, ρ 13, ρ 14, ρ 15, ρ 16, ρ 17, ρ 18, ρ 19, ρ 20, ρ 21, ρ 22, ρ 23, ρ 24, ρ 25, ρ 26, ρ 27, ρ 28, ρ 29, ρ 30, ρ 31, ρ 32] (γ 1) := hJ
  obtain ⟨-, -, -, -, -, -, -, -, -, -, -, -, -, -, -, -, -, -, -, -, -, -, r22, -, -, -, -, -, -, -, -, r31, -, -, -, -, -, -, -, -, r40, -⟩ := hr
  have r22 : (0 : Int) ≤ ρ 22 ∧ ρ 22 ≤ 3 := r22
  have r31 : ((-1) : Int) ≤ ρ 31 ∧ ρ 31 ≤ (-1) := r31
  have r40 : (41 : Int) ≤ ρ 40 ∧ ρ 40 ≤ 41 := r40
  obtain ⟨w_0, w_1, w_2, w_3⟩ : (¬ (ρ 22 ≥ 4)) ∧ (¬ (ρ 31 ≥ 0)) ∧ ((0 : Int) ≤ ρ 40) ∧ (ρ 40 = 41) := ⟨by omega, by omega, by omega, by omega⟩
  obtain ⟨m0, m1, m2, -, -, -, -, -, -, -, -, -, -, m13, -, -, -, -, -, -, -, -, -, -, -, -, -, -, -, -, -, -, -, -, m34, -, -, -, -, -, -, -, -, -, m44, -⟩ := hm
  have m0 : γ 0 1 0 10 = ρ 1 := m0
  have m1 : γ 0 40 0 (ρ 1) = ρ 2 := m1
  have m2 : γ 0 9 (ρ 2) 2 = ρ 3 := m2
  have m13 : γ 0 2 0 5 = ρ 14 := m13
  have m34 : γ 1 10 (ρ 3 + 9 * ρ 2 + 1) 9 = ρ 31 := m34
  have m44 : γ 5 2 0 6 = ρ 41 := m44
  obtain ⟨⟨⟨⟨-, c4⟩, -⟩, c6⟩, -⟩ := hc
  have c4 : γ 4 = rUp (γ 3) 10 (ρ 3 + 9 * ρ 2 + 1) 9 (ρ 22) := c4
  have c6 : γ 6 = rUp (γ 5) 2 0 6 (ρ 41 + 1) := c6
  obtain ⟨l0, l1, l2, l3, -⟩ := hl
  have l0 : sn142 [ρ 1, ρ 2, ρ 3, ρ 23, ρ 5, ρ 24, ρ 0, ρ 10, ρ 11, ρ 13, ρ 26, ρ 27, ρ 28, ρ 29, ρ 30] (γ 1) 0 1 (γ 2) := hS142 _ _ _ _ _ l0
  have l1 : sn143 [ρ 3 + 9 * ρ 2 + 1, ρ 22, ρ 14] (γ 2) 0 1 (γ 3) := hS143 _ _ _ _ _ l1
  have l2 : sn114 [ρ 33, ρ 5] (γ 4) 0 (ρ 40) (γ 5) := hS114 _ _ _ _ _ l2
  have l3 : sn134 [ρ 1, ρ 2, ρ 3, ρ 8, ρ 25, ρ 10, ρ 11, ρ 12, ρ 13, ρ 34, ρ 15] (γ 6) 0 1 (γ 7) := hS134 _ _ _ _ _ l3
  show sn145 [ρ 0, ρ 1, ρ 2, ρ 3, ρ 4, ρ 5, ρ 6, ρ 7, ρ 8, ρ 9, ρ 10, ρ 11, ρ 12, ρ 13, ρ 14, ρ 15, ρ 16, ρ 17, ρ 18, ρ 19, ρ 20, ρ 21] (γ 0) 0 1 (γ 7)
  have hD : en145 (γ 0) (0, [ρ 22], γ 1) = .inr (0, 1, γ 7) := by
    unfold en145
    refine (if_pos (show (0 : Nat) = 0 by decide)).trans ?_
    refine (zLet_eq (show _ = γ 1 from rfl)).trans ?_
    refine (zLet_eq (show _ = ρ 22 from rfl)).trans ?_
    refine (zLet_eq m0).trans ?_
    refine (zLet_eq m1).trans ?_
    refine (zLet_eq m2).trans ?_
    refine (zLet_eq m13).trans ?_
    refine (zLet_eq m34).trans ?_
    refine (if_neg w_0).trans ?_
    refine (zLet_eq (show fn142 [] (γ 1) = (0, 1, γ 2) from l0.symm)).trans ?_
    refine (zLet_eq (show _ = γ 2 from rfl)).trans ?_
    refine (if_pos zQ1_).trans ?_
    refine (if_neg w_1).trans ?_
    refine (zLet_eq (show fn143 [ρ 3 + 9 * ρ 2 + 1, ρ 22, ρ 14] (γ 2) = (0, 1, γ 3) from l1.symm)).trans ?_
    refine (zLet_eq (show _ = γ 3 from rfl)).trans ?_
    refine (if_pos zQ1_).trans ?_
    refine (zLet_eq c4.symm).trans ?_
    refine (zLet_eq (show fn114 [] (γ 4) = (0, ρ 40, γ 5) from l2.symm)).trans ?_
    refine (zLet_eq (show _ = γ 5 from rfl)).trans ?_
    refine (if_pos w_2).trans ?_
    refine (zLet_eq (show _ = ρ 40 from rfl)).trans ?_
    refine (zLet_eq m44).trans ?_
    refine (if_pos w_3).trans ?_
    refine (zLet_eq c6.symm).trans ?_
    refine (zLet_eq (show fn134 [] (γ 6) = (0, 1, γ 7) from l3.symm)).trans ?_
    refine (zLet_eq (show _ = γ 7 from rfl)).trans ?_
    refine (if_pos zQ1_).trans ?_
    rfl
  exact zGoo_aend hJ hD
theorem vn145a0_19 {S : Nat → zSpc} (hS103 : ∀ x g o v gz, S 103 x g o v gz → sn103 x g o v gz) (hS109 : ∀ x g o v gz, S 109 x g o v gz → sn109 x g o v gz) (hS114 : ∀ x g o v gz, S 114 x g o v gz → sn114 x g o v gz) (hS134 : ∀ x g o v gz, S 134 x g o v gz → sn134 x g o v gz) (hS142 : ∀ x g o v gz, S 142 x g o v gz → sn142 x g o v gz) (hS143 : ∀ x g o v gz, S 143 x g o v gz → sn143 x g o v gz) {a : List Int} {g : rHp} : ∀ (ρ : Nat → Int) (γ : Nat → rHp), jn145 a g 0 (zAg (zNA a145_ 0) ρ) (γ 1) → zO 22 S a g q145a0_19 ρ γ → zGl (fun i vs g1 => jn145 a g i vs g1) (sn145 a g) q145a0_19 ρ γ := by
  intro ρ γ hJ h
  obtain ⟨ha, hg, hr, hf, hm, hc, hl⟩ := h
  have ha : a = [ρ 0, ρ 1, ρ 2, ρ 3, ρ 4, ρ 5, ρ 6, ρ 7, ρ 8, ρ 9, ρ 10, ρ 11, ρ 12, ρ 13, ρ 14, ρ 15, ρ 16, ρ 17, ρ 18, ρ 19, ρ 20, ρ 21] := ha
  subst ha
  subst hg
  have hJ : jn145 [ρ 0, ρ 1, ρ 2, ρ 3, ρ 4, ρ 5, ρ 6, ρ 7, ρ 8, ρ 9, ρ 10, ρ 11, ρ 12, ρ 13, ρ 14, ρ 15, ρ 16, ρ 17, ρ 18, ρ 19, ρ 20, ρ 21] (γ 0) 0 [ρ 0, ρ 1, ρ 2, ρ 3, ρ 4, ρ 5, ρ 6, ρ 7, ρ 8, ρ 9, ρ 10, ρ 11, ρ 12, ρ 13, ρ 14, ρ 15, ρ 16, ρ 17, ρ 18, ρ 19, ρ 20, ρ 21, ρ 22, ρ 23, ρ 24, ρ 25, ρ 26, ρ 27, ρ 28, ρ 29, ρ 30, ρ 31, ρ 32] (γ 1) := hJ
  obtain ⟨-, -, -, -, -, -, -, -, -, -, -, -, -, -, -, -, -, -, -, -, -, -, r22, -, -, -, -, -, -, -, -, r31, -, -, -, -, -, -, -, -, r40, -⟩ := hr
  have r22 : (0 : Int) ≤ ρ 22 ∧ ρ 22 ≤ 3 := r22
  have r31 : ((-1) : Int) ≤ ρ 31 ∧ ρ 31 ≤ (-1) := r31
  have r40 : (44 : Int) ≤ ρ 40 ∧ ρ 40 ≤ 44 := r40
  obtain ⟨w_0, w_1, w_2, w_3, w_4⟩ : (¬ (ρ 22 ≥ 4)) ∧ (¬ (ρ 31 ≥ 0)) ∧ ((0 : Int) ≤ ρ 40) ∧ (¬ (ρ 40 = 41)) ∧ (ρ 40 = 44) := ⟨by omega, by omega, by omega, by omega, by omega⟩
  obtain ⟨m0, m1, m2, -, -, -, -, -, -, -, -, -, -, m13, -, -, -, -, -, -, -, -, -, -, -, -, -, -, -, -, -, -, -, -, m34, -, -, -, -, -, -, -, -, -, m44, -⟩ := hm
  have m0 : γ 0 1 0 10 = ρ 1 := m0
  have m1 : γ 0 40 0 (ρ 1) = ρ 2 := m1
  have m2 : γ 0 9 (ρ 2) 2 = ρ 3 := m2
  have m13 : γ 0 2 0 5 = ρ 14 := m13
  have m34 : γ 1 10 (ρ 3 + 9 * ρ 2 + 1) 9 = ρ 31 := m34
  have m44 : γ 5 2 0 6 = ρ 41 := m44
  obtain ⟨⟨⟨-, c4⟩, -⟩, c6⟩ := hc
  have c4 : γ 4 = rUp (γ 3) 10 (ρ 3 + 9 * ρ 2 + 1) 9 (ρ 22) := c4
  have c6 : γ 6 = rUp (γ 5) 2 0 6 (ρ 41 + 1) := c6
  obtain ⟨l0, l1, l2, l3, -⟩ := hl
  have l0 : sn142 [ρ 1, ρ 2, ρ 3, ρ 23, ρ 5, ρ 24, ρ 0, ρ 10, ρ 11, ρ 13, ρ 26, ρ 27, ρ 28, ρ 29, ρ 30] (γ 1) 0 1 (γ 2) := hS142 _ _ _ _ _ l0
  have l1 : sn143 [ρ 3 + 9 * ρ 2 + 1, ρ 22, ρ 14] (γ 2) 0 1 (γ 3) := hS143 _ _ _ _ _ l1
  have l2 : sn114 [ρ 33, ρ 5] (γ 4) 0 (ρ 40) (γ 5) := hS114 _ _ _ _ _ l2
  have l3 : ρ 40 ≠ 41 := l3
  show jn145 [ρ 0, ρ 1, ρ 2, ρ 3, ρ 4, ρ 5, ρ 6, ρ 7, ρ 8, ρ 9, ρ 10, ρ 11, ρ 12, ρ 13, ρ 14, ρ 15, ρ 16, ρ 17, ρ 18, ρ 19, ρ 20, ρ 21] (γ 0) 0 [ρ 0, ρ 1, ρ 2, ρ 3, ρ 4, ρ 5, ρ 6, ρ 7, ρ 8, ρ 9, ρ 10, ρ 11, ρ 12, ρ 13, ρ 14, ρ 15, ρ 16, ρ 17, ρ 18, ρ 19, ρ 20, ρ 21, ρ 22 + 1, ρ 41 + 1, ρ 34, ρ 25, ρ 35, ρ 36, ρ 37, ρ 38, ρ 39, ρ 22, ρ 32] (γ 6)
  have hD : en145 (γ 0) (0, [ρ 22], γ 1) = .inl (0, [ρ 22 + 1], γ 6) := by
    unfold en145
    refine (if_pos (show (0 : Nat) = 0 by decide)).trans ?_
    refine (zLet_eq (show _ = γ 1 from rfl)).trans ?_
    refine (zLet_eq (show _ = ρ 22 from rfl)).trans ?_
    refine (zLet_eq m0).trans ?_
    refine (zLet_eq m1).trans ?_
    refine (zLet_eq m2).trans ?_
    refine (zLet_eq m13).trans ?_
    refine (zLet_eq m34).trans ?_
    refine (if_neg w_0).trans ?_
    refine (zLet_eq (show fn142 [] (γ 1) = (0, 1, γ 2) from l0.symm)).trans ?_
    refine (zLet_eq (show _ = γ 2 from rfl)).trans ?_
    refine (if_pos zQ1_).trans ?_
    refine (if_neg w_1).trans ?_
    refine (zLet_eq (show fn143 [ρ 3 + 9 * ρ 2 + 1, ρ 22, ρ 14] (γ 2) = (0, 1, γ 3) from l1.symm)).trans ?_
    refine (zLet_eq (show _ = γ 3 from rfl)).trans ?_
    refine (if_pos zQ1_).trans ?_
    refine (zLet_eq c4.symm).trans ?_
    refine (zLet_eq (show fn114 [] (γ 4) = (0, ρ 40, γ 5) from l2.symm)).trans ?_
    refine (zLet_eq (show _ = γ 5 from rfl)).trans ?_
    refine (if_pos w_2).trans ?_
    refine (zLet_eq (show _ = ρ 40 from rfl)).trans ?_
    refine (zLet_eq m44).trans ?_
    refine (if_neg w_3).trans ?_
    refine (if_pos w_4).trans ?_
    refine (zLet_eq c6.symm).trans ?_
    rfl
  exact zGoo_ato hJ hD
theorem vn145a0_20 {S : Nat → zSpc} (hS103 : ∀ x g o v gz, S 103 x g o v gz → sn103 x g o v gz) (hS109 : ∀ x g o v gz, S 109 x g o v gz → sn109 x g o v gz) (hS114 : ∀ x g o v gz, S 114 x g o v gz → sn114 x g o v gz) (hS134 : ∀ x g o v gz, S 134 x g o v gz → sn134 x g o v gz) (hS142 : ∀ x g o v gz, S 142 x g o v gz → sn142 x g o v gz) (hS143 : ∀ x g o v gz, S 143 x g o v gz → sn143 x g o v gz) {a : List Int} {g : rHp} : ∀ (ρ : Nat → Int) (γ : Nat → rHp), jn145 a g 0 (zAg (zNA a145_ 0) ρ) (γ 1) → zO 22 S a g q145a0_20 ρ γ → zGl (fun i vs g1 => jn145 a g i vs g1) (sn145 a g) q145a0_20 ρ γ := by
  intro ρ γ hJ h
  obtain ⟨ha, hg, hr, hf, hm, hc, hl⟩ := h
  have ha : a = [ρ 0, ρ 1, ρ 2, ρ 3, ρ 4, ρ 5, ρ 6, ρ 7, ρ 8, ρ 9, ρ 10, ρ 11, ρ 12, ρ 13, ρ 14, ρ 15, ρ 16, ρ 17, ρ 18, ρ 19, ρ 20, ρ 21] := ha
  subst ha
  subst hg
  have hJ : jn145 [ρ 0, ρ 1, ρ 2, ρ 3, ρ 4, ρ 5, ρ 6, ρ 7, ρ 8, ρ 9, ρ 10, ρ 11, ρ 12, ρ 13, ρ 14, ρ 15, ρ 16, ρ 17, ρ 18, ρ 19, ρ 20, ρ 21] (γ 0) 0 [ρ 0, ρ 1, ρ 2, ρ 3, ρ 4, ρ 5, ρ 6, ρ 7, ρ 8, ρ 9, ρ 10, ρ 11, ρ 12, ρ 13, ρ 14, ρ 15, ρ 16, ρ 17, ρ 18, ρ 19, ρ 20, ρ 21, ρ 22, ρ 23, ρ 24, ρ 25, ρ 26, ρ 27, ρ 28, ρ 29, ρ 30, ρ 31, ρ 32] (γ 1) := hJ
  obtain ⟨-, -, -, -, -, -, -, -, -, -, -, -, -, -, -, -, -, -, -, -, -, -, r22, -, -, -, -, -, -, -, -, r31, -, -, -, -, -, -, -, -, r40, -⟩ := hr
  have r22 : (0 : Int) ≤ ρ 22 ∧ ρ 22 ≤ 3 := r22
  have r31 : ((-1) : Int) ≤ ρ 31 ∧ ρ 31 ≤ (-1) := r31
  have r40 : (0 : Int) ≤ ρ 40 ∧ ρ 40 ≤ 255 := r40
  obtain ⟨w_0, w_1, w_2⟩ : (¬ (ρ 22 ≥ 4)) ∧ (¬ (ρ 31 ≥ 0)) ∧ ((0 : Int) ≤ ρ 40) := ⟨by omega, by omega, by omega⟩
  obtain ⟨m0, m1, m2, -, -, -, -, -, -, -, -, -, -, m13, -, -, -, -, -, -, -, -, -, -, -, -, -, -, -, -, -, -, -, -, m34, -, -, -, -, -, -, -, -, -, m44, -⟩ := hm
  have m0 : γ 0 1 0 10 = ρ 1 := m0
  have m1 : γ 0 40 0 (ρ 1) = ρ 2 := m1
  have m2 : γ 0 9 (ρ 2) 2 = ρ 3 := m2
  have m13 : γ 0 2 0 5 = ρ 14 := m13
  have m34 : γ 1 10 (ρ 3 + 9 * ρ 2 + 1) 9 = ρ 31 := m34
  have m44 : γ 5 2 0 6 = ρ 41 := m44
  obtain ⟨⟨⟨-, c4⟩, -⟩, -⟩ := hc
  have c4 : γ 4 = rUp (γ 3) 10 (ρ 3 + 9 * ρ 2 + 1) 9 (ρ 22) := c4
  obtain ⟨l0, l1, l2, l3, l4, l5, -⟩ := hl
  have l0 : sn142 [ρ 1, ρ 2, ρ 3, ρ 23, ρ 5, ρ 24, ρ 0, ρ 10, ρ 11, ρ 13, ρ 26, ρ 27, ρ 28, ρ 29, ρ 30] (γ 1) 0 1 (γ 2) := hS142 _ _ _ _ _ l0
  have l1 : sn143 [ρ 3 + 9 * ρ 2 + 1, ρ 22, ρ 14] (γ 2) 0 1 (γ 3) := hS143 _ _ _ _ _ l1
  have l2 : sn114 [ρ 33, ρ 5] (γ 4) 0 (ρ 40) (γ 5) := hS114 _ _ _ _ _ l2
  have l3 : ρ 40 ≠ 41 := l3
  have l4 : ρ 40 ≠ 44 := l4
  have l5 : sn109 [ρ 41, ρ 13] (γ 5) 0 0 (γ 6) := hS109 _ _ _ _ _ l5
  obtain ⟨wl_0, wl_1⟩ : (¬ (ρ 40 = 41)) ∧ (¬ (ρ 40 = 44)) := ⟨by omega, by omega⟩
  show sn145 [ρ 0, ρ 1, ρ 2, ρ 3, ρ 4, ρ 5, ρ 6, ρ 7, ρ 8, ρ 9, ρ 10, ρ 11, ρ 12, ρ 13, ρ 14, ρ 15, ρ 16, ρ 17, ρ 18, ρ 19, ρ 20, ρ 21] (γ 0) 0 0 (γ 6)
  have hD : en145 (γ 0) (0, [ρ 22], γ 1) = .inr (0, 0, γ 6) := by
    unfold en145
    refine (if_pos (show (0 : Nat) = 0 by decide)).trans ?_
    refine (zLet_eq (show _ = γ 1 from rfl)).trans ?_
    refine (zLet_eq (show _ = ρ 22 from rfl)).trans ?_
    refine (zLet_eq m0).trans ?_
    refine (zLet_eq m1).trans ?_
    refine (zLet_eq m2).trans ?_
    refine (zLet_eq m13).trans ?_
    refine (zLet_eq m34).trans ?_
    refine (if_neg w_0).trans ?_
    refine (zLet_eq (show fn142 [] (γ 1) = (0, 1, γ 2) from l0.symm)).trans ?_
    refine (zLet_eq (show _ = γ 2 from rfl)).trans ?_
    refine (if_pos zQ1_).trans ?_
    refine (if_neg w_1).trans ?_
    refine (zLet_eq (show fn143 [ρ 3 + 9 * ρ 2 + 1, ρ 22, ρ 14] (γ 2) = (0, 1, γ 3) from l1.symm)).trans ?_
    refine (zLet_eq (show _ = γ 3 from rfl)).trans ?_
    refine (if_pos zQ1_).trans ?_
    refine (zLet_eq c4.symm).trans ?_
    refine (zLet_eq (show fn114 [] (γ 4) = (0, ρ 40, γ 5) from l2.symm)).trans ?_
    refine (zLet_eq (show _ = γ 5 from rfl)).trans ?_
    refine (if_pos w_2).trans ?_
    refine (zLet_eq (show _ = ρ 40 from rfl)).trans ?_
    refine (zLet_eq m44).trans ?_
    refine (if_neg wl_0).trans ?_
    refine (if_neg wl_1).trans ?_
    refine (zLet_eq (show fn109 [ρ 41] (γ 5) = (0, 0, γ 6) from l5.symm)).trans ?_
    refine (zLet_eq (show _ = γ 6 from rfl)).trans ?_
    rfl
  exact zGoo_aend hJ hD
theorem yn145 {S : Nat → zSpc} (hS103 : ∀ x g o v gz, S 103 x g o v gz → sn103 x g o v gz) (hS109 : ∀ x g o v gz, S 109 x g o v gz → sn109 x g o v gz) (hS114 : ∀ x g o v gz, S 114 x g o v gz → sn114 x g o v gz) (hS134 : ∀ x g o v gz, S 134 x g o v gz → sn134 x g o v gz) (hS142 : ∀ x g o v gz, S 142 x g o v gz → sn142 x g o v gz) (hS143 : ∀ x g o v gz, S 143 x g o v gz → sn143 x g o v gz) : ∀ x g o v gz, zSem uW uT w145_.2.2.2.1 w145_.2.2.1.1.length S q145 (fun i => q145a.getD i []) (zNA a145_) x g o v gz → sn145 x g o v gz := by
  intro a g o v gz h
  exact zSem_all (l0 := q145) (las := q145a) (S := S) (J := (fun i vs g1 => jn145 a g i vs g1)) (P := sn145 a g) (fun _ => (show zAll _ [q145_0, q145_1, q145_2] from (zAll_c (vn145_0 hS103 hS109 hS114 hS134 hS142 hS143) (zAll_c (vn145_1 hS103 hS109 hS114 hS134 hS142 hS143) (zAll_c (vn145_2 hS103 hS109 hS114 hS134 hS142 hS143) zAll_n))))) (fun _ => (show zAllI _ 0 [q145a0] from ⟨(show zAll _ [q145a0_0, q145a0_1, q145a0_2, q145a0_3, q145a0_4, q145a0_5, q145a0_6, q145a0_7, q145a0_8, q145a0_9, q145a0_10, q145a0_11, q145a0_12, q145a0_13, q145a0_14, q145a0_15, q145a0_16, q145a0_17, q145a0_18, q145a0_19, q145a0_20] from (zAll_c (vn145a0_0 hS103 hS109 hS114 hS134 hS142 hS143) (zAll_c (vn145a0_1 hS103 hS109 hS114 hS134 hS142 hS143) (zAll_c (vn145a0_2 hS103 hS109 hS114 hS134 hS142 hS143) (zAll_c (vn145a0_3 hS103 hS109 hS114 hS134 hS142 hS143) (zAll_c (vn145a0_4 hS103 hS109 hS114 hS134 hS142 hS143) (zAll_c (vn145a0_5 hS103 hS109 hS114 hS134 hS142 hS143) (zAll_c (vn145a0_6 hS103 hS109 hS114 hS134 hS142 hS143) (zAll_c (vn145a0_7 hS103 hS109 hS114 hS134 hS142 hS143) (zAll_c (vn145a0_8 hS103 hS109 hS114 hS134 hS142 hS143) (zAll_c (vn145a0_9 hS103 hS109 hS114 hS134 hS142 hS143) (zAll_c (vn145a0_10 hS103 hS109 hS114 hS134 hS142 hS143) (zAll_c (vn145a0_11 hS103 hS109 hS114 hS134 hS142 hS143) (zAll_c (vn145a0_12 hS103 hS109 hS114 hS134 hS142 hS143) (zAll_c (vn145a0_13 hS103 hS109 hS114 hS134 hS142 hS143) (zAll_c (vn145a0_14 hS103 hS109 hS114 hS134 hS142 hS143) (zAll_c (vn145a0_15 hS103 hS109 hS114 hS134 hS142 hS143) (zAll_c (vn145a0_16 hS103 hS109 hS114 hS134 hS142 hS143) (zAll_c (vn145a0_17 hS103 hS109 hS114 hS134 hS142 hS143) (zAll_c (vn145a0_18 hS103 hS109 hS114 hS134 hS142 hS143) (zAll_c (vn145a0_19 hS103 hS109 hS114 hS134 hS142 hS143) (zAll_c (vn145a0_20 hS103 hS109 hS114 hS134 hS142 hS143) zAll_n)))))))))))))))))))))), trivial⟩)) h
theorem vn146_0 {S : Nat → zSpc} (hS105 : ∀ x g o v gz, S 105 x g o v gz → sn105 x g o v gz) (hS109 : ∀ x g o v gz, S 109 x g o v gz → sn109 x g o v gz) (hS110 : ∀ x g o v gz, S 110 x g o v gz → sn110 x g o v gz) (hS114 : ∀ x g o v gz, S 114 x g o v gz → sn114 x g o v gz) (hS115 : ∀ x g o v gz, S 115 x g o v gz → sn115 x g o v gz) (hS144 : ∀ x g o v gz, S 144 x g o v gz → sn144 x g o v gz) {a : List Int} {g : rHp} : ∀ (ρ : Nat → Int) (γ : Nat → rHp), zO 23 S a g q146_0 ρ γ → zGl (fun _ _ _ => True) (sn146 a g) q146_0 ρ γ := by
  intro ρ γ h
  obtain ⟨ha, hg, hr, hf, hm, hc, hl⟩ := h
  have ha : a = [ρ 0, ρ 1, ρ 2, ρ 3, ρ 4, ρ 5, ρ 6, ρ 7, ρ 8, ρ 9, ρ 10, ρ 11, ρ 12, ρ 13, ρ 14, ρ 15, ρ 16, ρ 17, ρ 18, ρ 19, ρ 20, ρ 21, ρ 22] := ha
  subst ha
  subst hg
  obtain ⟨m0, m1, -, -, -, -, -, -, -, -, -, -, -, -, -, -, -, -, -, -, -, -, -, -, -, -, m26, -⟩ := hm
  have m0 : γ 0 1 0 10 = ρ 0 := m0
  have m1 : γ 0 40 0 (ρ 0) = ρ 1 := m1
  have m26 : γ 4 2 0 6 = ρ 23 := m26
  obtain ⟨⟨⟨⟨⟨-, c2⟩, c3⟩, -⟩, -⟩, -⟩ := hc
  have c2 : γ 2 = rUp (γ 1) 9 (ρ 1) 2 0 := c2
  have c3 : γ 3 = rUp (γ 2) 9 (ρ 1) 3 0 := c3
  obtain ⟨l0, l1, l2, l3, -⟩ := hl
  have l0 : sn110 [ρ 11, ρ 13, ρ 14] (γ 0) 0 0 (γ 1) := hS110 _ _ _ _ _ l0
  have l1 : sn114 [ρ 3, ρ 4] (γ 3) 0 (-1) (γ 4) := hS114 _ _ _ _ _ l1
  have l2 : sn105 [(-1)] (γ 4) 0 0 (γ 5) := hS105 _ _ _ _ _ l2
  have l3 : sn109 [ρ 23, ρ 10] (γ 5) 0 0 (γ 6) := hS109 _ _ _ _ _ l3
  show sn146 [ρ 0, ρ 1, ρ 2, ρ 3, ρ 4, ρ 5, ρ 6, ρ 7, ρ 8, ρ 9, ρ 10, ρ 11, ρ 12, ρ 13, ρ 14, ρ 15, ρ 16, ρ 17, ρ 18, ρ 19, ρ 20, ρ 21, ρ 22] (γ 0) 0 0 (γ 6)
  refine Eq.symm ?_
  show fn146 [] (γ 0) = _
  unfold fn146
  refine (zLet_eq m0).trans ?_
  refine (zLet_eq m1).trans ?_
  refine (zLet_eq (show fn110 [] (γ 0) = (0, 0, γ 1) from l0.symm)).trans ?_
  refine (zLet_eq (show _ = γ 1 from rfl)).trans ?_
  refine (zLet_eq c2.symm).trans ?_
  refine (zLet_eq c3.symm).trans ?_
  refine (zLet_eq (show fn114 [] (γ 3) = (0, (-1), γ 4) from l1.symm)).trans ?_
  refine (zLet_eq (show _ = γ 4 from rfl)).trans ?_
  refine (if_neg zQ2_).trans ?_
  refine (zLet_eq m26).trans ?_
  refine (zLet_eq (show fn105 [(-1)] (γ 4) = (0, 0, γ 5) from l2.symm)).trans ?_
  refine (zLet_eq (show _ = γ 5 from rfl)).trans ?_
  refine (zLet_eq (show fn109 [ρ 23] (γ 5) = (0, 0, γ 6) from l3.symm)).trans ?_
  refine (zLet_eq (show _ = γ 6 from rfl)).trans ?_
  rfl
theorem vn146_1 {S : Nat → zSpc} (hS105 : ∀ x g o v gz, S 105 x g o v gz → sn105 x g o v gz) (hS109 : ∀ x g o v gz, S 109 x g o v gz → sn109 x g o v gz) (hS110 : ∀ x g o v gz, S 110 x g o v gz → sn110 x g o v gz) (hS114 : ∀ x g o v gz, S 114 x g o v gz → sn114 x g o v gz) (hS115 : ∀ x g o v gz, S 115 x g o v gz → sn115 x g o v gz) (hS144 : ∀ x g o v gz, S 144 x g o v gz → sn144 x g o v gz) {a : List Int} {g : rHp} : ∀ (ρ : Nat → Int) (γ : Nat → rHp), zO 23 S a g q146_1 ρ γ → zGl (fun _ _ _ => True) (sn146 a g) q146_1 ρ γ := by
  intro ρ γ h
  obtain ⟨ha, hg, hr, hf, hm, hc, hl⟩ := h
  have ha : a = [ρ 0, ρ 1, ρ 2, ρ 3, ρ 4, ρ 5, ρ 6, ρ 7, ρ 8, ρ 9, ρ 10, ρ 11, ρ 12, ρ 13, ρ 14, ρ 15, ρ 16, ρ 17, ρ 18, ρ 19, ρ 20, ρ 21, ρ 22] := ha
  subst ha
  subst hg
  obtain ⟨-, -, -, -, -, -, -, -, -, -, -, -, -, -, -, -, -, -, -, -, -, -, -, r23, -⟩ := hr
  have r23 : (0 : Int) ≤ ρ 23 ∧ ρ 23 ≤ 255 := r23
  have w_0 : (0 : Int) ≤ ρ 23 := by omega
  obtain ⟨m0, m1, -, -, -, -, -, -, -, -, -, -, -, -, -, -, -, -, -, -, -, -, -, -, -, -, m26, -⟩ := hm
  have m0 : γ 0 1 0 10 = ρ 0 := m0
  have m1 : γ 0 40 0 (ρ 0) = ρ 1 := m1
  have m26 : γ 4 2 0 6 = ρ 24 := m26
  obtain ⟨⟨⟨⟨⟨-, c2⟩, c3⟩, -⟩, -⟩, -⟩ := hc
  have c2 : γ 2 = rUp (γ 1) 9 (ρ 1) 2 0 := c2
  have c3 : γ 3 = rUp (γ 2) 9 (ρ 1) 3 0 := c3
  obtain ⟨l0, l1, l2, l3, -⟩ := hl
  have l0 : sn110 [ρ 11, ρ 13, ρ 14] (γ 0) 0 0 (γ 1) := hS110 _ _ _ _ _ l0
  have l1 : sn114 [ρ 3, ρ 4] (γ 3) 0 (ρ 23) (γ 4) := hS114 _ _ _ _ _ l1
  have l2 : sn105 [ρ 23] (γ 4) 0 0 (γ 5) := hS105 _ _ _ _ _ l2
  have l3 : sn109 [ρ 24, ρ 10] (γ 5) 0 0 (γ 6) := hS109 _ _ _ _ _ l3
  show sn146 [ρ 0, ρ 1, ρ 2, ρ 3, ρ 4, ρ 5, ρ 6, ρ 7, ρ 8, ρ 9, ρ 10, ρ 11, ρ 12, ρ 13, ρ 14, ρ 15, ρ 16, ρ 17, ρ 18, ρ 19, ρ 20, ρ 21, ρ 22] (γ 0) 0 0 (γ 6)
  refine Eq.symm ?_
  show fn146 [] (γ 0) = _
  unfold fn146
  refine (zLet_eq m0).trans ?_
  refine (zLet_eq m1).trans ?_
  refine (zLet_eq (show fn110 [] (γ 0) = (0, 0, γ 1) from l0.symm)).trans ?_
  refine (zLet_eq (show _ = γ 1 from rfl)).trans ?_
  refine (zLet_eq c2.symm).trans ?_
  refine (zLet_eq c3.symm).trans ?_
  refine (zLet_eq (show fn114 [] (γ 3) = (0, ρ 23, γ 4) from l1.symm)).trans ?_
  refine (zLet_eq (show _ = γ 4 from rfl)).trans ?_
  refine (if_pos w_0).trans ?_
  refine (zLet_eq (show _ = ρ 23 from rfl)).trans ?_
  refine (zLet_eq m26).trans ?_
  refine (zLet_eq (show fn105 [ρ 23] (γ 4) = (0, 0, γ 5) from l2.symm)).trans ?_
  refine (zLet_eq (show _ = γ 5 from rfl)).trans ?_
  refine (if_neg zQ0_).trans ?_
  refine (zLet_eq (show fn109 [ρ 24] (γ 5) = (0, 0, γ 6) from l3.symm)).trans ?_
  refine (zLet_eq (show _ = γ 6 from rfl)).trans ?_
  rfl
theorem vn146_2 {S : Nat → zSpc} (hS105 : ∀ x g o v gz, S 105 x g o v gz → sn105 x g o v gz) (hS109 : ∀ x g o v gz, S 109 x g o v gz → sn109 x g o v gz) (hS110 : ∀ x g o v gz, S 110 x g o v gz → sn110 x g o v gz) (hS114 : ∀ x g o v gz, S 114 x g o v gz → sn114 x g o v gz) (hS115 : ∀ x g o v gz, S 115 x g o v gz → sn115 x g o v gz) (hS144 : ∀ x g o v gz, S 144 x g o v gz → sn144 x g o v gz) {a : List Int} {g : rHp} : ∀ (ρ : Nat → Int) (γ : Nat → rHp), zO 23 S a g q146_2 ρ γ → zGl (fun _ _ _ => True) (sn146 a g) q146_2 ρ γ := by
  intro ρ γ h
  obtain ⟨ha, hg, hr, hf, hm, hc, hl⟩ := h
  have ha : a = [ρ 0, ρ 1, ρ 2, ρ 3, ρ 4, ρ 5, ρ 6, ρ 7, ρ 8, ρ 9, ρ 10, ρ 11, ρ 12, ρ 13, ρ 14, ρ 15, ρ 16, ρ 17, ρ 18, ρ 19, ρ 20, ρ 21, ρ 22] := ha
  subst ha
  subst hg
  obtain ⟨-, -, -, -, -, -, -, -, -, -, -, -, -, -, -, -, -, -, -, -, -, -, -, r23, -⟩ := hr
  have r23 : (97 : Int) ≤ ρ 23 ∧ ρ 23 ≤ 122 := r23
  have w_0 : (0 : Int) ≤ ρ 23 := by omega
  obtain ⟨m0, m1, -, -, -, -, -, -, -, -, -, -, -, -, -, -, -, -, -, -, -, -, -, -, -, -, m26, -⟩ := hm
  have m0 : γ 0 1 0 10 = ρ 0 := m0
  have m1 : γ 0 40 0 (ρ 0) = ρ 1 := m1
  have m26 : γ 4 2 0 6 = ρ 24 := m26
  obtain ⟨⟨⟨⟨⟨-, c2⟩, c3⟩, -⟩, -⟩, -⟩ := hc
  have c2 : γ 2 = rUp (γ 1) 9 (ρ 1) 2 0 := c2
  have c3 : γ 3 = rUp (γ 2) 9 (ρ 1) 3 0 := c3
  obtain ⟨l0, l1, l2, l3, -⟩ := hl
  have l0 : sn110 [ρ 11, ρ 13, ρ 14] (γ 0) 0 0 (γ 1) := hS110 _ _ _ _ _ l0
  have l1 : sn114 [ρ 3, ρ 4] (γ 3) 0 (ρ 23) (γ 4) := hS114 _ _ _ _ _ l1
  have l2 : sn105 [ρ 23] (γ 4) 0 1 (γ 5) := hS105 _ _ _ _ _ l2
  have l3 : sn115 [ρ 24, ρ 4, ρ 10, ρ 12] (γ 5) 0 0 (γ 6) := hS115 _ _ _ _ _ l3
  show sn146 [ρ 0, ρ 1, ρ 2, ρ 3, ρ 4, ρ 5, ρ 6, ρ 7, ρ 8, ρ 9, ρ 10, ρ 11, ρ 12, ρ 13, ρ 14, ρ 15, ρ 16, ρ 17, ρ 18, ρ 19, ρ 20, ρ 21, ρ 22] (γ 0) 0 0 (γ 6)
  refine Eq.symm ?_
  show fn146 [] (γ 0) = _
  unfold fn146
  refine (zLet_eq m0).trans ?_
  refine (zLet_eq m1).trans ?_
  refine (zLet_eq (show fn110 [] (γ 0) = (0, 0, γ 1) from l0.symm)).trans ?_
  refine (zLet_eq (show _ = γ 1 from rfl)).trans ?_
  refine (zLet_eq c2.symm).trans ?_
  refine (zLet_eq c3.symm).trans ?_
  refine (zLet_eq (show fn114 [] (γ 3) = (0, ρ 23, γ 4) from l1.symm)).trans ?_
  refine (zLet_eq (show _ = γ 4 from rfl)).trans ?_
  refine (if_pos w_0).trans ?_
  refine (zLet_eq (show _ = ρ 23 from rfl)).trans ?_
  refine (zLet_eq m26).trans ?_
  refine (zLet_eq (show fn105 [ρ 23] (γ 4) = (0, 1, γ 5) from l2.symm)).trans ?_
  refine (zLet_eq (show _ = γ 5 from rfl)).trans ?_
  refine (if_pos zQ1_).trans ?_
  refine (zLet_eq (show fn115 [] (γ 5) = (0, 0, γ 6) from l3.symm)).trans ?_
  refine (zLet_eq (show _ = γ 6 from rfl)).trans ?_
  refine (if_neg zQ0_).trans ?_
  rfl
theorem vn146_3 {S : Nat → zSpc} (hS105 : ∀ x g o v gz, S 105 x g o v gz → sn105 x g o v gz) (hS109 : ∀ x g o v gz, S 109 x g o v gz → sn109 x g o v gz) (hS110 : ∀ x g o v gz, S 110 x g o v gz → sn110 x g o v gz) (hS114 : ∀ x g o v gz, S 114 x g o v gz → sn114 x g o v gz) (hS115 : ∀ x g o v gz, S 115 x g o v gz → sn115 x g o v gz) (hS144 : ∀ x g o v gz, S 144 x g o v gz → sn144 x g o v gz) {a : List Int} {g : rHp} : ∀ (ρ : Nat → Int) (γ : Nat → rHp), zO 23 S a g q146_3 ρ γ → zGl (fun _ _ _ => True) (sn146 a g) q146_3 ρ γ := by
  intro ρ γ h
  obtain ⟨ha, hg, hr, hf, hm, hc, hl⟩ := h
  have ha : a = [ρ 0, ρ 1, ρ 2, ρ 3, ρ 4, ρ 5, ρ 6, ρ 7, ρ 8, ρ 9, ρ 10, ρ 11, ρ 12, ρ 13, ρ 14, ρ 15, ρ 16, ρ 17, ρ 18, ρ 19, ρ 20, ρ 21, ρ 22] := ha
  subst ha
  subst hg
  obtain ⟨-, -, -, -, -, -, -, -, -, -, -, -, -, -, -, -, -, -, -, -, -, -, -, r23, -⟩ := hr
  have r23 : (97 : Int) ≤ ρ 23 ∧ ρ 23 ≤ 122 := r23
  have w_0 : (0 : Int) ≤ ρ 23 := by omega
  obtain ⟨m0, m1, -, -, -, -, -, -, -, -, -, -, -, -, -, -, -, -, -, -, -, -, -, -, -, -, m26, -⟩ := hm
  have m0 : γ 0 1 0 10 = ρ 0 := m0
  have m1 : γ 0 40 0 (ρ 0) = ρ 1 := m1
  have m26 : γ 4 2 0 6 = ρ 24 := m26
  obtain ⟨⟨⟨⟨⟨⟨-, c2⟩, c3⟩, -⟩, -⟩, -⟩, -⟩ := hc
  have c2 : γ 2 = rUp (γ 1) 9 (ρ 1) 2 0 := c2
  have c3 : γ 3 = rUp (γ 2) 9 (ρ 1) 3 0 := c3
  obtain ⟨l0, l1, l2, l3, l4, -⟩ := hl
  have l0 : sn110 [ρ 11, ρ 13, ρ 14] (γ 0) 0 0 (γ 1) := hS110 _ _ _ _ _ l0
  have l1 : sn114 [ρ 3, ρ 4] (γ 3) 0 (ρ 23) (γ 4) := hS114 _ _ _ _ _ l1
  have l2 : sn105 [ρ 23] (γ 4) 0 1 (γ 5) := hS105 _ _ _ _ _ l2
  have l3 : sn115 [ρ 24, ρ 4, ρ 10, ρ 12] (γ 5) 0 1 (γ 6) := hS115 _ _ _ _ _ l3
  have l4 : sn144 [ρ 0, ρ 1, 0, ρ 25, ρ 4, ρ 18, ρ 5, ρ 6, ρ 17, ρ 8, ρ 7, ρ 9, ρ 10, 0, ρ 24, 0, 0, ρ 15, ρ 19, ρ 20, ρ 21, ρ 22] (γ 6) 0 0 (γ 7) := hS144 _ _ _ _ _ l4
  show sn146 [ρ 0, ρ 1, ρ 2, ρ 3, ρ 4, ρ 5, ρ 6, ρ 7, ρ 8, ρ 9, ρ 10, ρ 11, ρ 12, ρ 13, ρ 14, ρ 15, ρ 16, ρ 17, ρ 18, ρ 19, ρ 20, ρ 21, ρ 22] (γ 0) 0 0 (γ 7)
  refine Eq.symm ?_
  show fn146 [] (γ 0) = _
  unfold fn146
  refine (zLet_eq m0).trans ?_
  refine (zLet_eq m1).trans ?_
  refine (zLet_eq (show fn110 [] (γ 0) = (0, 0, γ 1) from l0.symm)).trans ?_
  refine (zLet_eq (show _ = γ 1 from rfl)).trans ?_
  refine (zLet_eq c2.symm).trans ?_
  refine (zLet_eq c3.symm).trans ?_
  refine (zLet_eq (show fn114 [] (γ 3) = (0, ρ 23, γ 4) from l1.symm)).trans ?_
  refine (zLet_eq (show _ = γ 4 from rfl)).trans ?_
  refine (if_pos w_0).trans ?_
  refine (zLet_eq (show _ = ρ 23 from rfl)).trans ?_
  refine (zLet_eq m26).trans ?_
  refine (zLet_eq (show fn105 [ρ 23] (γ 4) = (0, 1, γ 5) from l2.symm)).trans ?_
  refine (zLet_eq (show _ = γ 5 from rfl)).trans ?_
  refine (if_pos zQ1_).trans ?_
  refine (zLet_eq (show fn115 [] (γ 5) = (0, 1, γ 6) from l3.symm)).trans ?_
  refine (zLet_eq (show _ = γ 6 from rfl)).trans ?_
  refine (if_pos zQ1_).trans ?_
  refine (zLet_eq (show fn144 [] (γ 6) = (0, 0, γ 7) from l4.symm)).trans ?_
  refine (zLet_eq (show _ = γ 7 from rfl)).trans ?_
  refine (if_neg zQ0_).trans ?_
  rfl
theorem vn146_4 {S : Nat → zSpc} (hS105 : ∀ x g o v gz, S 105 x g o v gz → sn105 x g o v gz) (hS109 : ∀ x g o v gz, S 109 x g o v gz → sn109 x g o v gz) (hS110 : ∀ x g o v gz, S 110 x g o v gz → sn110 x g o v gz) (hS114 : ∀ x g o v gz, S 114 x g o v gz → sn114 x g o v gz) (hS115 : ∀ x g o v gz, S 115 x g o v gz → sn115 x g o v gz) (hS144 : ∀ x g o v gz, S 144 x g o v gz → sn144 x g o v gz) {a : List Int} {g : rHp} : ∀ (ρ : Nat → Int) (γ : Nat → rHp), zO 23 S a g q146_4 ρ γ → zGl (fun _ _ _ => True) (sn146 a g) q146_4 ρ γ := by
  intro ρ γ h
  obtain ⟨ha, hg, hr, hf, hm, hc, hl⟩ := h
  have ha : a = [ρ 0, ρ 1, ρ 2, ρ 3, ρ 4, ρ 5, ρ 6, ρ 7, ρ 8, ρ 9, ρ 10, ρ 11, ρ 12, ρ 13, ρ 14, ρ 15, ρ 16, ρ 17, ρ 18, ρ 19, ρ 20, ρ 21, ρ 22] := ha
  subst ha
  subst hg
  obtain ⟨-, -, -, -, -, -, -, -, -, -, -, -, -, -, -, -, -, -, -, -, -, -, -, r23, -⟩ := hr
  have r23 : (97 : Int) ≤ ρ 23 ∧ ρ 23 ≤ 122 := r23
  have w_0 : (0 : Int) ≤ ρ 23 := by omega
  obtain ⟨m0, m1, -, -, -, -, -, -, -, -, -, -, -, -, -, -, -, -, -, -, -, -, -, -, -, -, m26, -⟩ := hm
  have m0 : γ 0 1 0 10 = ρ 0 := m0
  have m1 : γ 0 40 0 (ρ 0) = ρ 1 := m1
  have m26 : γ 4 2 0 6 = ρ 24 := m26
  obtain ⟨⟨⟨⟨⟨⟨-, c2⟩, c3⟩, -⟩, -⟩, -⟩, -⟩ := hc
  have c2 : γ 2 = rUp (γ 1) 9 (ρ 1) 2 0 := c2
  have c3 : γ 3 = rUp (γ 2) 9 (ρ 1) 3 0 := c3
  obtain ⟨l0, l1, l2, l3, l4, -⟩ := hl
  have l0 : sn110 [ρ 11, ρ 13, ρ 14] (γ 0) 0 0 (γ 1) := hS110 _ _ _ _ _ l0
  have l1 : sn114 [ρ 3, ρ 4] (γ 3) 0 (ρ 23) (γ 4) := hS114 _ _ _ _ _ l1
  have l2 : sn105 [ρ 23] (γ 4) 0 1 (γ 5) := hS105 _ _ _ _ _ l2
  have l3 : sn115 [ρ 24, ρ 4, ρ 10, ρ 12] (γ 5) 0 1 (γ 6) := hS115 _ _ _ _ _ l3
  have l4 : sn144 [ρ 0, ρ 1, 0, ρ 25, ρ 4, ρ 18, ρ 5, ρ 6, ρ 17, ρ 8, ρ 7, ρ 9, ρ 10, 0, ρ 24, 0, 0, ρ 15, ρ 19, ρ 20, ρ 21, ρ 22] (γ 6) 0 1 (γ 7) := hS144 _ _ _ _ _ l4
  show sn146 [ρ 0, ρ 1, ρ 2, ρ 3, ρ 4, ρ 5, ρ 6, ρ 7, ρ 8, ρ 9, ρ 10, ρ 11, ρ 12, ρ 13, ρ 14, ρ 15, ρ 16, ρ 17, ρ 18, ρ 19, ρ 20, ρ 21, ρ 22] (γ 0) 0 1 (γ 7)
  refine Eq.symm ?_
  show fn146 [] (γ 0) = _
  unfold fn146
  refine (zLet_eq m0).trans ?_
  refine (zLet_eq m1).trans ?_
  refine (zLet_eq (show fn110 [] (γ 0) = (0, 0, γ 1) from l0.symm)).trans ?_
  refine (zLet_eq (show _ = γ 1 from rfl)).trans ?_
  refine (zLet_eq c2.symm).trans ?_
  refine (zLet_eq c3.symm).trans ?_
  refine (zLet_eq (show fn114 [] (γ 3) = (0, ρ 23, γ 4) from l1.symm)).trans ?_
  refine (zLet_eq (show _ = γ 4 from rfl)).trans ?_
  refine (if_pos w_0).trans ?_
  refine (zLet_eq (show _ = ρ 23 from rfl)).trans ?_
  refine (zLet_eq m26).trans ?_
  refine (zLet_eq (show fn105 [ρ 23] (γ 4) = (0, 1, γ 5) from l2.symm)).trans ?_
  refine (zLet_eq (show _ = γ 5 from rfl)).trans ?_
  refine (if_pos zQ1_).trans ?_
  refine (zLet_eq (show fn115 [] (γ 5) = (0, 1, γ 6) from l3.symm)).trans ?_
  refine (zLet_eq (show _ = γ 6 from rfl)).trans ?_
  refine (if_pos zQ1_).trans ?_
  refine (zLet_eq (show fn144 [] (γ 6) = (0, 1, γ 7) from l4.symm)).trans ?_
  refine (zLet_eq (show _ = γ 7 from rfl)).trans ?_
  refine (if_pos zQ1_).trans ?_
  rfl
theorem vn146_5 {S : Nat → zSpc} (hS105 : ∀ x g o v gz, S 105 x g o v gz → sn105 x g o v gz) (hS109 : ∀ x g o v gz, S 109 x g o v gz → sn109 x g o v gz) (hS110 : ∀ x g o v gz, S 110 x g o v gz → sn110 x g o v gz) (hS114 : ∀ x g o v gz, S 114 x g o v gz → sn114 x g o v gz) (hS115 : ∀ x g o v gz, S 115 x g o v gz → sn115 x g o v gz) (hS144 : ∀ x g o v gz, S 144 x g o v gz → sn144 x g o v gz) {a : List Int} {g : rHp} : ∀ (ρ : Nat → Int) (γ : Nat → rHp), zO 23 S a g q146_5 ρ γ → zGl (fun _ _ _ => True) (sn146 a g) q146_5 ρ γ := by
  intro ρ γ h
  obtain ⟨ha, hg, hr, hf, hm, hc, hl⟩ := h
  have ha : a = [ρ 0, ρ 1, ρ 2, ρ 3, ρ 4, ρ 5, ρ 6, ρ 7, ρ 8, ρ 9, ρ 10, ρ 11, ρ 12, ρ 13, ρ 14, ρ 15, ρ 16, ρ 17, ρ 18, ρ 19, ρ 20, ρ 21, ρ 22] := ha
  subst ha
  subst hg
  obtain ⟨-, -, -, -, -, -, -, -, -, -, -, -, -, -, -, -, -, -, -, -, -, -, -, r23, -⟩ := hr
  have r23 : (97 : Int) ≤ ρ 23 ∧ ρ 23 ≤ 122 := r23
  have w_0 : (0 : Int) ≤ ρ 23 := by omega
  obtain ⟨m0, m1, -, -, -, -, -, -, -, -, -, -, -, -, -, -, -, -, -, -, -, -, -, -, -, -, m26, -⟩ := hm
  have m0 : γ 0 1 0 10 = ρ 0 := m0
  have m1 : γ 0 40 0 (ρ 0) = ρ 1 := m1
  have m26 : γ 4 2 0 6 = ρ 24 := m26
  obtain ⟨⟨⟨⟨⟨⟨-, c2⟩, c3⟩, -⟩, -⟩, -⟩, -⟩ := hc
  have c2 : γ 2 = rUp (γ 1) 9 (ρ 1) 2 0 := c2
  have c3 : γ 3 = rUp (γ 2) 9 (ρ 1) 3 0 := c3
  obtain ⟨l0, l1, l2, l3, l4, -⟩ := hl
  have l0 : sn110 [ρ 11, ρ 13, ρ 14] (γ 0) 0 0 (γ 1) := hS110 _ _ _ _ _ l0
  have l1 : sn114 [ρ 3, ρ 4] (γ 3) 0 (ρ 23) (γ 4) := hS114 _ _ _ _ _ l1
  have l2 : sn105 [ρ 23] (γ 4) 0 1 (γ 5) := hS105 _ _ _ _ _ l2
  have l3 : sn115 [ρ 24, ρ 4, ρ 10, ρ 12] (γ 5) 0 1 (γ 6) := hS115 _ _ _ _ _ l3
  have l4 : sn144 [ρ 0, ρ 1, 0, ρ 25, ρ 4, ρ 18, ρ 5, ρ 6, ρ 17, ρ 8, ρ 7, ρ 9, ρ 10, 0, ρ 24, 0, 0, ρ 15, ρ 19, ρ 20, ρ 21, ρ 22] (γ 6) 0 1 (γ 7) := hS144 _ _ _ _ _ l4
  show sn146 [ρ 0, ρ 1, ρ 2, ρ 3, ρ 4, ρ 5, ρ 6, ρ 7, ρ 8, ρ 9, ρ 10, ρ 11, ρ 12, ρ 13, ρ 14, ρ 15, ρ 16, ρ 17, ρ 18, ρ 19, ρ 20, ρ 21, ρ 22] (γ 0) 0 1 (γ 7)
  refine Eq.symm ?_
  show fn146 [] (γ 0) = _
  unfold fn146
  refine (zLet_eq m0).trans ?_
  refine (zLet_eq m1).trans ?_
  refine (zLet_eq (show fn110 [] (γ 0) = (0, 0, γ 1) from l0.symm)).trans ?_
  refine (zLet_eq (show _ = γ 1 from rfl)).trans ?_
  refine (zLet_eq c2.symm).trans ?_
  refine (zLet_eq c3.symm).trans ?_
  refine (zLet_eq (show fn114 [] (γ 3) = (0, ρ 23, γ 4) from l1.symm)).trans ?_
  refine (zLet_eq (show _ = γ 4 from rfl)).trans ?_
  refine (if_pos w_0).trans ?_
  refine (zLet_eq (show _ = ρ 23 from rfl)).trans ?_
  refine (zLet_eq m26).trans ?_
  refine (zLet_eq (show fn105 [ρ 23] (γ 4) = (0, 1, γ 5) from l2.symm)).trans ?_
  refine (zLet_eq (show _ = γ 5 from rfl)).trans ?_
  refine (if_pos zQ1_).trans ?_
  refine (zLet_eq (show fn115 [] (γ 5) = (0, 1, γ 6) from l3.symm)).trans ?_
  refine (zLet_eq (show _ = γ 6 from rfl)).trans ?_
  refine (if_pos zQ1_).trans ?_
  refine (zLet_eq (show fn144 [] (γ 6) = (0, 1, γ 7) from l4.symm)).trans ?_
  refine (zLet_eq (show _ = γ 7 from rfl)).trans ?_
  refine (if_pos zQ1_).trans ?_
  rfl
theorem yn146 {S : Nat → zSpc} (hS105 : ∀ x g o v gz, S 105 x g o v gz → sn105 x g o v gz) (hS109 : ∀ x g o v gz, S 109 x g o v gz → sn109 x g o v gz) (hS110 : ∀ x g o v gz, S 110 x g o v gz → sn110 x g o v gz) (hS114 : ∀ x g o v gz, S 114 x g o v gz → sn114 x g o v gz) (hS115 : ∀ x g o v gz, S 115 x g o v gz → sn115 x g o v gz) (hS144 : ∀ x g o v gz, S 144 x g o v gz → sn144 x g o v gz) : ∀ x g o v gz, zSem uW uT w146_.2.2.2.1 w146_.2.2.1.1.length S q146 (fun i => q146a.getD i []) (zNA a146_) x g o v gz → sn146 x g o v gz := by
  intro a g o v gz h
  exact zSem_all (l0 := q146) (las := q146a) (S := S) (J := (fun _ _ _ => True)) (P := sn146 a g) (fun _ => (show zAll _ [q146_0, q146_1, q146_2, q146_3, q146_4, q146_5] from (zAll_c (vn146_0 hS105 hS109 hS110 hS114 hS115 hS144) (zAll_c (vn146_1 hS105 hS109 hS110 hS114 hS115 hS144) (zAll_c (vn146_2 hS105 hS109 hS110 hS114 hS115 hS144) (zAll_c (vn146_3 hS105 hS109 hS110 hS114 hS115 hS144) (zAll_c (vn146_4 hS105 hS109 hS110 hS114 hS115 hS144) (zAll_c (vn146_5 hS105 hS109 hS110 hS114 hS115 hS144) zAll_n)))))))) (fun _ => (show zAllI _ 0 [] from trivial)) h
theorem vn147_0 {S : Nat → zSpc} (hS109 : ∀ x g o v gz, S 109 x g o v gz → sn109 x g o v gz) {a : List Int} {g : rHp} : ∀ (ρ : Nat → Int) (γ : Nat → rHp), zO 3 S a g q147_0 ρ γ → zGl (fun i vs g1 => jn147 a g i vs g1) (sn147 a g) q147_0 ρ γ := by
  intro ρ γ h
  obtain ⟨ha, hg, hr, hf, hm, hc, hl⟩ := h
  have ha : a = [ρ 0, ρ 1, ρ 2] := ha
  subst ha
  subst hg
  show jn147 [ρ 0, ρ 1, ρ 2] (γ 0) 0 [ρ 0, ρ 1, ρ 2, 0] (γ 0)
  have hD : dn147 [ρ 0] (γ 0) = .inl (0, [ρ 0, 0], γ 0) := by
    unfold dn147
    refine (zLet_eq (show _ = ρ 0 from rfl)).trans ?_
    rfl
  exact zGoo_to hD
theorem vn147a0_0 {S : Nat → zSpc} (hS109 : ∀ x g o v gz, S 109 x g o v gz → sn109 x g o v gz) {a : List Int} {g : rHp} : ∀ (ρ : Nat → Int) (γ : Nat → rHp), jn147 a g 0 (zAg (zNA a147_ 0) ρ) (γ 1) → zO 3 S a g q147a0_0 ρ γ → zGl (fun i vs g1 => jn147 a g i vs g1) (sn147 a g) q147a0_0 ρ γ := by
  intro ρ γ hJ h
  obtain ⟨ha, hg, hr, hf, hm, hc, hl⟩ := h
  have ha : a = [ρ 0, ρ 1, ρ 2] := ha
  subst ha
  subst hg
  have hJ : jn147 [ρ 0, ρ 1, ρ 2] (γ 0) 0 [ρ 0, ρ 1, ρ 2, ρ 3] (γ 1) := hJ
  obtain ⟨f0, -⟩ := hf
  have f0 : (0 : Int) ≤ ρ 3 + -ρ 2 := f0
  have w_0 : ρ 3 ≥ ρ 2 := by omega
  obtain ⟨-, m1, -⟩ := hm
  have m1 : γ 0 10 (ρ 0) 5 = ρ 2 := m1
  show sn147 [ρ 0, ρ 1, ρ 2] (γ 0) 0 1 (γ 1)
  have hD : en147 (γ 0) (0, [ρ 0, ρ 3], γ 1) = .inr (0, 1, γ 1) := by
    unfold en147
    refine (if_pos (show (0 : Nat) = 0 by decide)).trans ?_
    refine (zLet_eq (show _ = γ 1 from rfl)).trans ?_
    refine (zLet_eq (show _ = ρ 0 from rfl)).trans ?_
    refine (zLet_eq (show _ = ρ 3 from rfl)).trans ?_
    refine (zLet_eq m1).trans ?_
    refine (if_pos w_0).trans ?_
    rfl
  exact zGoo_aend hJ hD
theorem vn147a0_1 {S : Nat → zSpc} (hS109 : ∀ x g o v gz, S 109 x g o v gz → sn109 x g o v gz) {a : List Int} {g : rHp} : ∀ (ρ : Nat → Int) (γ : Nat → rHp), jn147 a g 0 (zAg (zNA a147_ 0) ρ) (γ 1) → zO 3 S a g q147a0_1 ρ γ → zGl (fun i vs g1 => jn147 a g i vs g1) (sn147 a g) q147a0_1 ρ γ := by
  intro ρ γ hJ h
  obtain ⟨ha, hg, hr, hf, hm, hc, hl⟩ := h
  have ha : a = [ρ 0, ρ 1, ρ 2] := ha
  subst ha
  subst hg
  have hJ : jn147 [ρ 0, ρ 1, ρ 2] (γ 0) 0 [ρ 0, ρ 1, ρ 2, ρ 3] (γ 1) := hJ
  obtain ⟨-, -, -, -, r4, -⟩ := hr
  have r4 : (0 : Int) ≤ ρ 4 ∧ ρ 4 ≤ 0 := r4
  obtain ⟨f0, -⟩ := hf
  have f0 : (0 : Int) ≤ -ρ 3 + ρ 2 + (-1) := f0
  obtain ⟨w_0, w_1⟩ : (¬ (ρ 3 ≥ ρ 2)) ∧ (ρ 4 = 0) := ⟨by omega, by omega⟩
  obtain ⟨-, m1, m2, -⟩ := hm
  have m1 : γ 0 10 (ρ 0) 5 = ρ 2 := m1
  have m2 : γ 0 43 (ρ 0) (ρ 3) = ρ 4 := m2
  show jn147 [ρ 0, ρ 1, ρ 2] (γ 0) 0 [ρ 0, ρ 1, ρ 2, ρ 3 + 1] (γ 1)
  have hD : en147 (γ 0) (0, [ρ 0, ρ 3], γ 1) = .inl (0, [ρ 0, ρ 3 + 1], γ 1) := by
    unfold en147
    refine (if_pos (show (0 : Nat) = 0 by decide)).trans ?_
    refine (zLet_eq (show _ = γ 1 from rfl)).trans ?_
    refine (zLet_eq (show _ = ρ 0 from rfl)).trans ?_
    refine (zLet_eq (show _ = ρ 3 from rfl)).trans ?_
    refine (zLet_eq m1).trans ?_
    refine (if_neg w_0).trans ?_
    refine (zLet_eq m2).trans ?_
    refine (if_pos w_1).trans ?_
    rfl
  exact zGoo_ato hJ hD
theorem vn147a0_2 {S : Nat → zSpc} (hS109 : ∀ x g o v gz, S 109 x g o v gz → sn109 x g o v gz) {a : List Int} {g : rHp} : ∀ (ρ : Nat → Int) (γ : Nat → rHp), jn147 a g 0 (zAg (zNA a147_ 0) ρ) (γ 1) → zO 3 S a g q147a0_2 ρ γ → zGl (fun i vs g1 => jn147 a g i vs g1) (sn147 a g) q147a0_2 ρ γ := by
  intro ρ γ hJ h
  obtain ⟨ha, hg, hr, hf, hm, hc, hl⟩ := h
  have ha : a = [ρ 0, ρ 1, ρ 2] := ha
  subst ha
  subst hg
  have hJ : jn147 [ρ 0, ρ 1, ρ 2] (γ 0) 0 [ρ 0, ρ 1, ρ 2, ρ 3] (γ 1) := hJ
  obtain ⟨-, -, -, -, r4, -⟩ := hr
  have r4 : (1 : Int) ≤ ρ 4 ∧ ρ 4 ≤ 4 := r4
  obtain ⟨f0, -⟩ := hf
  have f0 : (0 : Int) ≤ -ρ 3 + ρ 2 + (-1) := f0
  obtain ⟨w_0, w_1⟩ : (¬ (ρ 3 ≥ ρ 2)) ∧ (¬ (ρ 4 = 0)) := ⟨by omega, by omega⟩
  obtain ⟨-, m1, m2, m3, -⟩ := hm
  have m1 : γ 0 10 (ρ 0) 5 = ρ 2 := m1
  have m2 : γ 0 43 (ρ 0) (ρ 3) = ρ 4 := m2
  have m3 : γ 0 45 (ρ 0) (ρ 3) = ρ 5 := m3
  obtain ⟨l0, -⟩ := hl
  have l0 : sn109 [ρ 5, ρ 1] (γ 1) 0 0 (γ 2) := hS109 _ _ _ _ _ l0
  show sn147 [ρ 0, ρ 1, ρ 2] (γ 0) 0 0 (γ 2)
  have hD : en147 (γ 0) (0, [ρ 0, ρ 3], γ 1) = .inr (0, 0, γ 2) := by
    unfold en147
    refine (if_pos (show (0 : Nat) = 0 by decide)).trans ?_
    refine (zLet_eq (show _ = γ 1 from rfl)).trans ?_
    refine (zLet_eq (show _ = ρ 0 from rfl)).trans ?_
    refine (zLet_eq (show _ = ρ 3 from rfl)).trans ?_
    refine (zLet_eq m1).trans ?_
    refine (if_neg w_0).trans ?_
    refine (zLet_eq m2).trans ?_
    refine (if_neg w_1).trans ?_
    refine (zLet_eq m3).trans ?_
    refine (zLet_eq (show fn109 [ρ 5] (γ 1) = (0, 0, γ 2) from l0.symm)).trans ?_
    refine (zLet_eq (show _ = γ 2 from rfl)).trans ?_
    rfl
  exact zGoo_aend hJ hD
theorem yn147 {S : Nat → zSpc} (hS109 : ∀ x g o v gz, S 109 x g o v gz → sn109 x g o v gz) : ∀ x g o v gz, zSem uW uT w147_.2.2.2.1 w147_.2.2.1.1.length S q147 (fun i => q147a.getD i []) (zNA a147_) x g o v gz → sn147 x g o v gz := by
  intro a g o v gz h
  exact zSem_all (l0 := q147) (las := q147a) (S := S) (J := (fun i vs g1 => jn147 a g i vs g1)) (P := sn147 a g) (fun _ => (show zAll _ [q147_0] from (zAll_c (vn147_0 hS109) zAll_n))) (fun _ => (show zAllI _ 0 [q147a0] from ⟨(show zAll _ [q147a0_0, q147a0_1, q147a0_2] from (zAll_c (vn147a0_0 hS109) (zAll_c (vn147a0_1 hS109) (zAll_c (vn147a0_2 hS109) zAll_n)))), trivial⟩)) h
theorem vn148_0 {S : Nat → zSpc} (hS109 : ∀ x g o v gz, S 109 x g o v gz → sn109 x g o v gz) (hS114 : ∀ x g o v gz, S 114 x g o v gz → sn114 x g o v gz) (hS147 : ∀ x g o v gz, S 147 x g o v gz → sn147 x g o v gz) {a : List Int} {g : rHp} : ∀ (ρ : Nat → Int) (γ : Nat → rHp), zO 5 S a g q148_0 ρ γ → zGl (fun _ _ _ => True) (sn148 a g) q148_0 ρ γ := by
  intro ρ γ h
  obtain ⟨ha, hg, hr, hf, hm, hc, hl⟩ := h
  have ha : a = [ρ 0, ρ 1, ρ 2, ρ 3, ρ 4] := ha
  subst ha
  subst hg
  obtain ⟨-, -, -, -, m4, -⟩ := hm
  have m4 : γ 1 2 0 6 = ρ 5 := m4
  obtain ⟨l0, l1, -⟩ := hl
  have l0 : sn114 [ρ 1, ρ 2] (γ 0) 0 (-1) (γ 1) := hS114 _ _ _ _ _ l0
  have l1 : sn109 [ρ 5, ρ 3] (γ 1) 0 0 (γ 2) := hS109 _ _ _ _ _ l1
  show sn148 [ρ 0, ρ 1, ρ 2, ρ 3, ρ 4] (γ 0) 0 0 (γ 2)
  refine Eq.symm ?_
  show fn148 [ρ 0] (γ 0) = _
  unfold fn148
  refine (zLet_eq (show _ = ρ 0 from rfl)).trans ?_
  refine (zLet_eq (show fn114 [] (γ 0) = (0, (-1), γ 1) from l0.symm)).trans ?_
  refine (zLet_eq (show _ = γ 1 from rfl)).trans ?_
  refine (if_neg zQ2_).trans ?_
  refine (zLet_eq m4).trans ?_
  refine (zLet_eq (show fn109 [ρ 5] (γ 1) = (0, 0, γ 2) from l1.symm)).trans ?_
  refine (zLet_eq (show _ = γ 2 from rfl)).trans ?_
  rfl
theorem vn148_1 {S : Nat → zSpc} (hS109 : ∀ x g o v gz, S 109 x g o v gz → sn109 x g o v gz) (hS114 : ∀ x g o v gz, S 114 x g o v gz → sn114 x g o v gz) (hS147 : ∀ x g o v gz, S 147 x g o v gz → sn147 x g o v gz) {a : List Int} {g : rHp} : ∀ (ρ : Nat → Int) (γ : Nat → rHp), zO 5 S a g q148_1 ρ γ → zGl (fun _ _ _ => True) (sn148 a g) q148_1 ρ γ := by
  intro ρ γ h
  obtain ⟨ha, hg, hr, hf, hm, hc, hl⟩ := h
  have ha : a = [ρ 0, ρ 1, ρ 2, ρ 3, ρ 4] := ha
  subst ha
  subst hg
  obtain ⟨-, -, -, -, -, r5, -⟩ := hr
  have r5 : (46 : Int) ≤ ρ 5 ∧ ρ 5 ≤ 46 := r5
  obtain ⟨w_0, w_1⟩ : ((0 : Int) ≤ ρ 5) ∧ (ρ 5 = 46) := ⟨by omega, by omega⟩
  obtain ⟨-, -, -, -, m4, -⟩ := hm
  have m4 : γ 1 2 0 6 = ρ 6 := m4
  obtain ⟨⟨-, c2⟩, -⟩ := hc
  have c2 : γ 2 = rUp (γ 1) 2 0 6 (ρ 6 + 1) := c2
  obtain ⟨l0, l1, -⟩ := hl
  have l0 : sn114 [ρ 1, ρ 2] (γ 0) 0 (ρ 5) (γ 1) := hS114 _ _ _ _ _ l0
  have l1 : sn147 [ρ 0, ρ 3, ρ 4] (γ 2) 0 0 (γ 3) := hS147 _ _ _ _ _ l1
  show sn148 [ρ 0, ρ 1, ρ 2, ρ 3, ρ 4] (γ 0) 0 0 (γ 3)
  refine Eq.symm ?_
  show fn148 [ρ 0] (γ 0) = _
  unfold fn148
  refine (zLet_eq (show _ = ρ 0 from rfl)).trans ?_
  refine (zLet_eq (show fn114 [] (γ 0) = (0, ρ 5, γ 1) from l0.symm)).trans ?_
  refine (zLet_eq (show _ = γ 1 from rfl)).trans ?_
  refine (if_pos w_0).trans ?_
  refine (zLet_eq (show _ = ρ 5 from rfl)).trans ?_
  refine (zLet_eq m4).trans ?_
  refine (if_pos w_1).trans ?_
  refine (zLet_eq c2.symm).trans ?_
  refine (zLet_eq (show fn147 [ρ 0] (γ 2) = (0, 0, γ 3) from l1.symm)).trans ?_
  refine (zLet_eq (show _ = γ 3 from rfl)).trans ?_
  refine (if_neg zQ0_).trans ?_
  rfl
theorem vn148_2 {S : Nat → zSpc} (hS109 : ∀ x g o v gz, S 109 x g o v gz → sn109 x g o v gz) (hS114 : ∀ x g o v gz, S 114 x g o v gz → sn114 x g o v gz) (hS147 : ∀ x g o v gz, S 147 x g o v gz → sn147 x g o v gz) {a : List Int} {g : rHp} : ∀ (ρ : Nat → Int) (γ : Nat → rHp), zO 5 S a g q148_2 ρ γ → zGl (fun _ _ _ => True) (sn148 a g) q148_2 ρ γ := by
  intro ρ γ h
  obtain ⟨ha, hg, hr, hf, hm, hc, hl⟩ := h
  have ha : a = [ρ 0, ρ 1, ρ 2, ρ 3, ρ 4] := ha
  subst ha
  subst hg
  obtain ⟨-, -, -, -, -, r5, -⟩ := hr
  have r5 : (46 : Int) ≤ ρ 5 ∧ ρ 5 ≤ 46 := r5
  obtain ⟨w_0, w_1⟩ : ((0 : Int) ≤ ρ 5) ∧ (ρ 5 = 46) := ⟨by omega, by omega⟩
  obtain ⟨-, -, -, -, m4, -⟩ := hm
  have m4 : γ 1 2 0 6 = ρ 6 := m4
  obtain ⟨⟨-, c2⟩, -⟩ := hc
  have c2 : γ 2 = rUp (γ 1) 2 0 6 (ρ 6 + 1) := c2
  obtain ⟨l0, l1, -⟩ := hl
  have l0 : sn114 [ρ 1, ρ 2] (γ 0) 0 (ρ 5) (γ 1) := hS114 _ _ _ _ _ l0
  have l1 : sn147 [ρ 0, ρ 3, ρ 4] (γ 2) 0 1 (γ 3) := hS147 _ _ _ _ _ l1
  show sn148 [ρ 0, ρ 1, ρ 2, ρ 3, ρ 4] (γ 0) 0 1 (γ 3)
  refine Eq.symm ?_
  show fn148 [ρ 0] (γ 0) = _
  unfold fn148
  refine (zLet_eq (show _ = ρ 0 from rfl)).trans ?_
  refine (zLet_eq (show fn114 [] (γ 0) = (0, ρ 5, γ 1) from l0.symm)).trans ?_
  refine (zLet_eq (show _ = γ 1 from rfl)).trans ?_
  refine (if_pos w_0).trans ?_
  refine (zLet_eq (show _ = ρ 5 from rfl)).trans ?_
  refine (zLet_eq m4).trans ?_
  refine (if_pos w_1).trans ?_
  refine (zLet_eq c2.symm).trans ?_
  refine (zLet_eq (show fn147 [ρ 0] (γ 2) = (0, 1, γ 3) from l1.symm)).trans ?_
  refine (zLet_eq (show _ = γ 3 from rfl)).trans ?_
  refine (if_pos zQ1_).trans ?_
  rfl
theorem vn148_3 {S : Nat → zSpc} (hS109 : ∀ x g o v gz, S 109 x g o v gz → sn109 x g o v gz) (hS114 : ∀ x g o v gz, S 114 x g o v gz → sn114 x g o v gz) (hS147 : ∀ x g o v gz, S 147 x g o v gz → sn147 x g o v gz) {a : List Int} {g : rHp} : ∀ (ρ : Nat → Int) (γ : Nat → rHp), zO 5 S a g q148_3 ρ γ → zGl (fun _ _ _ => True) (sn148 a g) q148_3 ρ γ := by
  intro ρ γ h
  obtain ⟨ha, hg, hr, hf, hm, hc, hl⟩ := h
  have ha : a = [ρ 0, ρ 1, ρ 2, ρ 3, ρ 4] := ha
  subst ha
  subst hg
  obtain ⟨-, -, -, -, -, r5, -⟩ := hr
  have r5 : (0 : Int) ≤ ρ 5 ∧ ρ 5 ≤ 255 := r5
  have w_0 : (0 : Int) ≤ ρ 5 := by omega
  obtain ⟨-, -, -, -, m4, -⟩ := hm
  have m4 : γ 1 2 0 6 = ρ 6 := m4
  obtain ⟨l0, l1, l2, -⟩ := hl
  have l0 : sn114 [ρ 1, ρ 2] (γ 0) 0 (ρ 5) (γ 1) := hS114 _ _ _ _ _ l0
  have l1 : ρ 5 ≠ 46 := l1
  have l2 : sn109 [ρ 6, ρ 3] (γ 1) 0 0 (γ 2) := hS109 _ _ _ _ _ l2
  have wl_0 : ¬ (ρ 5 = 46) := by omega
  show sn148 [ρ 0, ρ 1, ρ 2, ρ 3, ρ 4] (γ 0) 0 0 (γ 2)
  refine Eq.symm ?_
  show fn148 [ρ 0] (γ 0) = _
  unfold fn148
  refine (zLet_eq (show _ = ρ 0 from rfl)).trans ?_
  refine (zLet_eq (show fn114 [] (γ 0) = (0, ρ 5, γ 1) from l0.symm)).trans ?_
  refine (zLet_eq (show _ = γ 1 from rfl)).trans ?_
  refine (if_pos w_0).trans ?_
  refine (zLet_eq (show _ = ρ 5 from rfl)).trans ?_
  refine (zLet_eq m4).trans ?_
  refine (if_neg wl_0).trans ?_
  refine (zLet_eq (show fn109 [ρ 6] (γ 1) = (0, 0, γ 2) from l2.symm)).trans ?_
  refine (zLet_eq (show _ = γ 2 from rfl)).trans ?_
  rfl
theorem yn148 {S : Nat → zSpc} (hS109 : ∀ x g o v gz, S 109 x g o v gz → sn109 x g o v gz) (hS114 : ∀ x g o v gz, S 114 x g o v gz → sn114 x g o v gz) (hS147 : ∀ x g o v gz, S 147 x g o v gz → sn147 x g o v gz) : ∀ x g o v gz, zSem uW uT w148_.2.2.2.1 w148_.2.2.1.1.length S q148 (fun i => q148a.getD i []) (zNA a148_) x g o v gz → sn148 x g o v gz := by
  intro a g o v gz h
  exact zSem_all (l0 := q148) (las := q148a) (S := S) (J := (fun _ _ _ => True)) (P := sn148 a g) (fun _ => (show zAll _ [q148_0, q148_1, q148_2, q148_3] from (zAll_c (vn148_0 hS109 hS114 hS147) (zAll_c (vn148_1 hS109 hS114 hS147) (zAll_c (vn148_2 hS109 hS114 hS147) (zAll_c (vn148_3 hS109 hS114 hS147) zAll_n)))))) (fun _ => (show zAllI _ 0 [] from trivial)) h
theorem vn149_0 {S : Nat → zSpc} (hS109 : ∀ x g o v gz, S 109 x g o v gz → sn109 x g o v gz) (hS114 : ∀ x g o v gz, S 114 x g o v gz → sn114 x g o v gz) {a : List Int} {g : rHp} : ∀ (ρ : Nat → Int) (γ : Nat → rHp), zO 3 S a g q149_0 ρ γ → zGl (fun _ _ _ => True) (sn149 a g) q149_0 ρ γ := by
  intro ρ γ h
  obtain ⟨ha, hg, hr, hf, hm, hc, hl⟩ := h
  have ha : a = [ρ 0, ρ 1, ρ 2] := ha
  subst ha
  subst hg
  obtain ⟨l0, -⟩ := hl
  have l0 : sn114 [ρ 0, ρ 1] (γ 0) 0 (-1) (γ 1) := hS114 _ _ _ _ _ l0
  show sn149 [ρ 0, ρ 1, ρ 2] (γ 0) 0 1 (γ 1)
  refine Eq.symm ?_
  show fn149 [] (γ 0) = _
  unfold fn149
  refine (zLet_eq (show fn114 [] (γ 0) = (0, (-1), γ 1) from l0.symm)).trans ?_
  refine (zLet_eq (show _ = γ 1 from rfl)).trans ?_
  refine (if_neg zQ2_).trans ?_
  rfl
theorem vn149_1 {S : Nat → zSpc} (hS109 : ∀ x g o v gz, S 109 x g o v gz → sn109 x g o v gz) (hS114 : ∀ x g o v gz, S 114 x g o v gz → sn114 x g o v gz) {a : List Int} {g : rHp} : ∀ (ρ : Nat → Int) (γ : Nat → rHp), zO 3 S a g q149_1 ρ γ → zGl (fun _ _ _ => True) (sn149 a g) q149_1 ρ γ := by
  intro ρ γ h
  obtain ⟨ha, hg, hr, hf, hm, hc, hl⟩ := h
  have ha : a = [ρ 0, ρ 1, ρ 2] := ha
  subst ha
  subst hg
  obtain ⟨-, -, -, r3, -⟩ := hr
  have r3 : (0 : Int) ≤ ρ 3 ∧ ρ 3 ≤ 255 := r3
  have w_0 : (0 : Int) ≤ ρ 3 := by omega
  obtain ⟨-, -, -, m3, -⟩ := hm
  have m3 : γ 1 2 0 6 = ρ 4 := m3
  obtain ⟨l0, l1, -⟩ := hl
  have l0 : sn114 [ρ 0, ρ 1] (γ 0) 0 (ρ 3) (γ 1) := hS114 _ _ _ _ _ l0
  have l1 : sn109 [ρ 4, ρ 2] (γ 1) 0 0 (γ 2) := hS109 _ _ _ _ _ l1
  show sn149 [ρ 0, ρ 1, ρ 2] (γ 0) 0 0 (γ 2)
  refine Eq.symm ?_
  show fn149 [] (γ 0) = _
  unfold fn149
  refine (zLet_eq (show fn114 [] (γ 0) = (0, ρ 3, γ 1) from l0.symm)).trans ?_
  refine (zLet_eq (show _ = γ 1 from rfl)).trans ?_
  refine (if_pos w_0).trans ?_
  refine (zLet_eq m3).trans ?_
  refine (zLet_eq (show fn109 [ρ 4] (γ 1) = (0, 0, γ 2) from l1.symm)).trans ?_
  refine (zLet_eq (show _ = γ 2 from rfl)).trans ?_
  rfl
theorem yn149 {S : Nat → zSpc} (hS109 : ∀ x g o v gz, S 109 x g o v gz → sn109 x g o v gz) (hS114 : ∀ x g o v gz, S 114 x g o v gz → sn114 x g o v gz) : ∀ x g o v gz, zSem uW uT w149_.2.2.2.1 w149_.2.2.1.1.length S q149 (fun i => q149a.getD i []) (zNA a149_) x g o v gz → sn149 x g o v gz := by
  intro a g o v gz h
  exact zSem_all (l0 := q149) (las := q149a) (S := S) (J := (fun _ _ _ => True)) (P := sn149 a g) (fun _ => (show zAll _ [q149_0, q149_1] from (zAll_c (vn149_0 hS109 hS114) (zAll_c (vn149_1 hS109 hS114) zAll_n)))) (fun _ => (show zAllI _ 0 [] from trivial)) h
theorem vn150_0 {S : Nat → zSpc} (hS109 : ∀ x g o v gz, S 109 x g o v gz → sn109 x g o v gz) (hS128 : ∀ x g o v gz, S 128 x g o v gz → sn128 x g o v gz) (hS129 : ∀ x g o v gz, S 129 x g o v gz → sn129 x g o v gz) (hS148 : ∀ x g o v gz, S 148 x g o v gz → sn148 x g o v gz) {a : List Int} {g : rHp} : ∀ (ρ : Nat → Int) (γ : Nat → rHp), zO 8 S a g q150_0 ρ γ → zGl (fun _ _ _ => True) (sn150 a g) q150_0 ρ γ := by
  intro ρ γ h
  obtain ⟨ha, hg, hr, hf, hm, hc, hl⟩ := h
  have ha : a = [ρ 0, ρ 1, ρ 2, ρ 3, ρ 4, ρ 5, ρ 6, ρ 7] := ha
  subst ha
  subst hg
  obtain ⟨-, -, -, -, -, -, m6, -⟩ := hm
  have m6 : γ 0 10 (ρ 0) 7 = ρ 7 := m6
  obtain ⟨l0, -⟩ := hl
  have l0 : sn148 [ρ 0, ρ 1, ρ 2, ρ 5, ρ 6] (γ 0) 0 0 (γ 1) := hS148 _ _ _ _ _ l0
  show sn150 [ρ 0, ρ 1, ρ 2, ρ 3, ρ 4, ρ 5, ρ 6, ρ 7] (γ 0) 0 0 (γ 1)
  refine Eq.symm ?_
  show fn150 [ρ 0] (γ 0) = _
  unfold fn150
  refine (zLet_eq (show _ = ρ 0 from rfl)).trans ?_
  refine (zLet_eq m6).trans ?_
  refine (zLet_eq (show fn148 [ρ 0] (γ 0) = (0, 0, γ 1) from l0.symm)).trans ?_
  refine (zLet_eq (show _ = γ 1 from rfl)).trans ?_
  refine (if_neg zQ0_).trans ?_
  rfl
theorem vn150_1 {S : Nat → zSpc} (hS109 : ∀ x g o v gz, S 109 x g o v gz → sn109 x g o v gz) (hS128 : ∀ x g o v gz, S 128 x g o v gz → sn128 x g o v gz) (hS129 : ∀ x g o v gz, S 129 x g o v gz → sn129 x g o v gz) (hS148 : ∀ x g o v gz, S 148 x g o v gz → sn148 x g o v gz) {a : List Int} {g : rHp} : ∀ (ρ : Nat → Int) (γ : Nat → rHp), zO 8 S a g q150_1 ρ γ → zGl (fun _ _ _ => True) (sn150 a g) q150_1 ρ γ := by
  intro ρ γ h
  obtain ⟨ha, hg, hr, hf, hm, hc, hl⟩ := h
  have ha : a = [ρ 0, ρ 1, ρ 2, ρ 3, ρ 4, ρ 5, ρ 6, ρ 7] := ha
  subst ha
  subst hg
  obtain ⟨-, -, -, -, -, -, -, -, -, r9, -⟩ := hr
  have r9 : (0 : Int) ≤ ρ 9 ∧ ρ 9 ≤ 400 := r9
  have w_0 : ρ 9 ≥ 0 := by omega
  obtain ⟨-, -, -, -, -, -, m6, -⟩ := hm
  have m6 : γ 0 10 (ρ 0) 7 = ρ 7 := m6
  obtain ⟨l0, l1, -⟩ := hl
  have l0 : sn148 [ρ 0, ρ 1, ρ 2, ρ 5, ρ 6] (γ 0) 0 1 (γ 1) := hS148 _ _ _ _ _ l0
  have l1 : sn128 [ρ 0, ρ 4, ρ 3] (γ 1) 0 (ρ 9) (γ 2) := hS128 _ _ _ _ _ l1
  show sn150 [ρ 0, ρ 1, ρ 2, ρ 3, ρ 4, ρ 5, ρ 6, ρ 7] (γ 0) 0 1 (γ 2)
  refine Eq.symm ?_
  show fn150 [ρ 0] (γ 0) = _
  unfold fn150
  refine (zLet_eq (show _ = ρ 0 from rfl)).trans ?_
  refine (zLet_eq m6).trans ?_
  refine (zLet_eq (show fn148 [ρ 0] (γ 0) = (0, 1, γ 1) from l0.symm)).trans ?_
  refine (zLet_eq (show _ = γ 1 from rfl)).trans ?_
  refine (if_pos zQ1_).trans ?_
  refine (zLet_eq (show fn128 [ρ 0] (γ 1) = (0, ρ 9, γ 2) from l1.symm)).trans ?_
  refine (zLet_eq (show _ = γ 2 from rfl)).trans ?_
  refine (zLet_eq (show _ = ρ 9 from rfl)).trans ?_
  refine (if_pos w_0).trans ?_
  rfl
theorem vn150_2 {S : Nat → zSpc} (hS109 : ∀ x g o v gz, S 109 x g o v gz → sn109 x g o v gz) (hS128 : ∀ x g o v gz, S 128 x g o v gz → sn128 x g o v gz) (hS129 : ∀ x g o v gz, S 129 x g o v gz → sn129 x g o v gz) (hS148 : ∀ x g o v gz, S 148 x g o v gz → sn148 x g o v gz) {a : List Int} {g : rHp} : ∀ (ρ : Nat → Int) (γ : Nat → rHp), zO 8 S a g q150_2 ρ γ → zGl (fun _ _ _ => True) (sn150 a g) q150_2 ρ γ := by
  intro ρ γ h
  obtain ⟨ha, hg, hr, hf, hm, hc, hl⟩ := h
  have ha : a = [ρ 0, ρ 1, ρ 2, ρ 3, ρ 4, ρ 5, ρ 6, ρ 7] := ha
  subst ha
  subst hg
  obtain ⟨-, -, -, -, -, -, -, -, -, r9, -⟩ := hr
  have r9 : ((-1) : Int) ≤ ρ 9 ∧ ρ 9 ≤ (-1) := r9
  have w_0 : ¬ (ρ 9 ≥ 0) := by omega
  obtain ⟨-, -, -, -, -, -, m6, -⟩ := hm
  have m6 : γ 0 10 (ρ 0) 7 = ρ 7 := m6
  obtain ⟨l0, l1, l2, l3, -⟩ := hl
  have l0 : sn148 [ρ 0, ρ 1, ρ 2, ρ 5, ρ 6] (γ 0) 0 1 (γ 1) := hS148 _ _ _ _ _ l0
  have l1 : sn128 [ρ 0, ρ 4, ρ 3] (γ 1) 0 (ρ 9) (γ 2) := hS128 _ _ _ _ _ l1
  have l2 : sn129 [ρ 0, ρ 3, ρ 4] (γ 2) 0 0 (γ 3) := hS129 _ _ _ _ _ l2
  have l3 : sn109 [ρ 7, ρ 5] (γ 3) 0 0 (γ 4) := hS109 _ _ _ _ _ l3
  show sn150 [ρ 0, ρ 1, ρ 2, ρ 3, ρ 4, ρ 5, ρ 6, ρ 7] (γ 0) 0 0 (γ 4)
  refine Eq.symm ?_
  show fn150 [ρ 0] (γ 0) = _
  unfold fn150
  refine (zLet_eq (show _ = ρ 0 from rfl)).trans ?_
  refine (zLet_eq m6).trans ?_
  refine (zLet_eq (show fn148 [ρ 0] (γ 0) = (0, 1, γ 1) from l0.symm)).trans ?_
  refine (zLet_eq (show _ = γ 1 from rfl)).trans ?_
  refine (if_pos zQ1_).trans ?_
  refine (zLet_eq (show fn128 [ρ 0] (γ 1) = (0, ρ 9, γ 2) from l1.symm)).trans ?_
  refine (zLet_eq (show _ = γ 2 from rfl)).trans ?_
  refine (zLet_eq (show _ = ρ 9 from rfl)).trans ?_
  refine (if_neg w_0).trans ?_
  refine (zLet_eq (show fn129 [ρ 0] (γ 2) = (0, 0, γ 3) from l2.symm)).trans ?_
  refine (zLet_eq (show _ = γ 3 from rfl)).trans ?_
  refine (if_neg zQ0_).trans ?_
  refine (zLet_eq (show fn109 [ρ 7] (γ 3) = (0, 0, γ 4) from l3.symm)).trans ?_
  refine (zLet_eq (show _ = γ 4 from rfl)).trans ?_
  rfl
theorem vn150_3 {S : Nat → zSpc} (hS109 : ∀ x g o v gz, S 109 x g o v gz → sn109 x g o v gz) (hS128 : ∀ x g o v gz, S 128 x g o v gz → sn128 x g o v gz) (hS129 : ∀ x g o v gz, S 129 x g o v gz → sn129 x g o v gz) (hS148 : ∀ x g o v gz, S 148 x g o v gz → sn148 x g o v gz) {a : List Int} {g : rHp} : ∀ (ρ : Nat → Int) (γ : Nat → rHp), zO 8 S a g q150_3 ρ γ → zGl (fun _ _ _ => True) (sn150 a g) q150_3 ρ γ := by
  intro ρ γ h
  obtain ⟨ha, hg, hr, hf, hm, hc, hl⟩ := h
  have ha : a = [ρ 0, ρ 1, ρ 2, ρ 3, ρ 4, ρ 5, ρ 6, ρ 7] := ha
  subst ha
  subst hg
  obtain ⟨-, -, -, -, -, -, -, -, -, r9, -⟩ := hr
  have r9 : ((-1) : Int) ≤ ρ 9 ∧ ρ 9 ≤ (-1) := r9
  have w_0 : ¬ (ρ 9 ≥ 0) := by omega
  obtain ⟨-, -, -, -, -, -, m6, -⟩ := hm
  have m6 : γ 0 10 (ρ 0) 7 = ρ 7 := m6
  obtain ⟨l0, l1, l2, -⟩ := hl
  have l0 : sn148 [ρ 0, ρ 1, ρ 2, ρ 5, ρ 6] (γ 0) 0 1 (γ 1) := hS148 _ _ _ _ _ l0
  have l1 : sn128 [ρ 0, ρ 4, ρ 3] (γ 1) 0 (ρ 9) (γ 2) := hS128 _ _ _ _ _ l1
  have l2 : sn129 [ρ 0, ρ 3, ρ 4] (γ 2) 0 1 (γ 3) := hS129 _ _ _ _ _ l2
  show sn150 [ρ 0, ρ 1, ρ 2, ρ 3, ρ 4, ρ 5, ρ 6, ρ 7] (γ 0) 0 1 (γ 3)
  refine Eq.symm ?_
  show fn150 [ρ 0] (γ 0) = _
  unfold fn150
  refine (zLet_eq (show _ = ρ 0 from rfl)).trans ?_
  refine (zLet_eq m6).trans ?_
  refine (zLet_eq (show fn148 [ρ 0] (γ 0) = (0, 1, γ 1) from l0.symm)).trans ?_
  refine (zLet_eq (show _ = γ 1 from rfl)).trans ?_
  refine (if_pos zQ1_).trans ?_
  refine (zLet_eq (show fn128 [ρ 0] (γ 1) = (0, ρ 9, γ 2) from l1.symm)).trans ?_
  refine (zLet_eq (show _ = γ 2 from rfl)).trans ?_
  refine (zLet_eq (show _ = ρ 9 from rfl)).trans ?_
  refine (if_neg w_0).trans ?_
  refine (zLet_eq (show fn129 [ρ 0] (γ 2) = (0, 1, γ 3) from l2.symm)).trans ?_
  refine (zLet_eq (show _ = γ 3 from rfl)).trans ?_
  refine (if_pos zQ1_).trans ?_
  rfl
theorem yn150 {S : Nat → zSpc} (hS109 : ∀ x g o v gz, S 109 x g o v gz → sn109 x g o v gz) (hS128 : ∀ x g o v gz, S 128 x g o v gz → sn128 x g o v gz) (hS129 : ∀ x g o v gz, S 129 x g o v gz → sn129 x g o v gz) (hS148 : ∀ x g o v gz, S 148 x g o v gz → sn148 x g o v gz) : ∀ x g o v gz, zSem uW uT w150_.2.2.2.1 w150_.2.2.1.1.length S q150 (fun i => q150a.getD i []) (zNA a150_) x g o v gz → sn150 x g o v gz := by
  intro a g o v gz h
  exact zSem_all (l0 := q150) (las := q150a) (S := S) (J := (fun _ _ _ => True)) (P := sn150 a g) (fun _ => (show zAll _ [q150_0, q150_1, q150_2, q150_3] from (zAll_c (vn150_0 hS109 hS128 hS129 hS148) (zAll_c (vn150_1 hS109 hS128 hS129 hS148) (zAll_c (vn150_2 hS109 hS128 hS129 hS148) (zAll_c (vn150_3 hS109 hS128 hS129 hS148) zAll_n)))))) (fun _ => (show zAllI _ 0 [] from trivial)) h
theorem vn151_0 {S : Nat → zSpc} (hS109 : ∀ x g o v gz, S 109 x g o v gz → sn109 x g o v gz) (hS114 : ∀ x g o v gz, S 114 x g o v gz → sn114 x g o v gz) {a : List Int} {g : rHp} : ∀ (ρ : Nat → Int) (γ : Nat → rHp), zO 6 S a g q151_0 ρ γ → zGl (fun _ _ _ => True) (sn151 a g) q151_0 ρ γ := by
  intro ρ γ h
  obtain ⟨ha, hg, hr, hf, hm, hc, hl⟩ := h
  have ha : a = [ρ 0, ρ 1, ρ 2, ρ 3, ρ 4, ρ 5] := ha
  subst ha
  subst hg
  obtain ⟨-, m1, m2, -, m4, m5, -⟩ := hm
  have m1 : γ 0 2 0 3 = ρ 2 := m1
  have m2 : γ 0 1 0 10 = ρ 3 := m2
  have m4 : γ 0 10 (ρ 0) 7 = ρ 5 := m4
  have m5 : γ 1 2 0 6 = ρ 6 := m5
  obtain ⟨l0, l1, -⟩ := hl
  have l0 : sn114 [ρ 1, ρ 2] (γ 0) 0 (-1) (γ 1) := hS114 _ _ _ _ _ l0
  have l1 : sn109 [ρ 6, ρ 4] (γ 1) 0 0 (γ 2) := hS109 _ _ _ _ _ l1
  show sn151 [ρ 0, ρ 1, ρ 2, ρ 3, ρ 4, ρ 5] (γ 0) 0 0 (γ 2)
  refine Eq.symm ?_
  show fn151 [ρ 0] (γ 0) = _
  unfold fn151
  refine (zLet_eq (show _ = ρ 0 from rfl)).trans ?_
  refine (zLet_eq m1).trans ?_
  refine (zLet_eq m2).trans ?_
  refine (zLet_eq m4).trans ?_
  refine (zLet_eq (show fn114 [] (γ 0) = (0, (-1), γ 1) from l0.symm)).trans ?_
  refine (zLet_eq (show _ = γ 1 from rfl)).trans ?_
  refine (if_neg zQ2_).trans ?_
  refine (zLet_eq m5).trans ?_
  refine (zLet_eq (show fn109 [ρ 6] (γ 1) = (0, 0, γ 2) from l1.symm)).trans ?_
  refine (zLet_eq (show _ = γ 2 from rfl)).trans ?_
  rfl
theorem vn151_1 {S : Nat → zSpc} (hS109 : ∀ x g o v gz, S 109 x g o v gz → sn109 x g o v gz) (hS114 : ∀ x g o v gz, S 114 x g o v gz → sn114 x g o v gz) {a : List Int} {g : rHp} : ∀ (ρ : Nat → Int) (γ : Nat → rHp), zO 6 S a g q151_1 ρ γ → zGl (fun _ _ _ => True) (sn151 a g) q151_1 ρ γ := by
  intro ρ γ h
  obtain ⟨ha, hg, hr, hf, hm, hc, hl⟩ := h
  have ha : a = [ρ 0, ρ 1, ρ 2, ρ 3, ρ 4, ρ 5] := ha
  subst ha
  subst hg
  obtain ⟨-, -, -, -, -, -, r6, -⟩ := hr
  have r6 : (58 : Int) ≤ ρ 6 ∧ ρ 6 ≤ 58 := r6
  obtain ⟨f0, -⟩ := hf
  have f0 : (0 : Int) ≤ ρ 7 + -ρ 2 + 1 := f0
  obtain ⟨w_0, w_1, w_2⟩ : ((0 : Int) ≤ ρ 6) ∧ (ρ 6 = 58) ∧ (ρ 7 + 1 ≥ ρ 2) := ⟨by omega, by omega, by omega⟩
  obtain ⟨-, m1, m2, -, m4, m5, -⟩ := hm
  have m1 : γ 0 2 0 3 = ρ 2 := m1
  have m2 : γ 0 1 0 10 = ρ 3 := m2
  have m4 : γ 0 10 (ρ 0) 7 = ρ 5 := m4
  have m5 : γ 1 2 0 6 = ρ 7 := m5
  obtain ⟨⟨-, c2⟩, -⟩ := hc
  have c2 : γ 2 = rUp (γ 1) 2 0 6 (ρ 7 + 1) := c2
  obtain ⟨l0, l1, -⟩ := hl
  have l0 : sn114 [ρ 1, ρ 2] (γ 0) 0 (ρ 6) (γ 1) := hS114 _ _ _ _ _ l0
  have l1 : sn109 [ρ 7 + 1, ρ 4] (γ 2) 0 0 (γ 3) := hS109 _ _ _ _ _ l1
  show sn151 [ρ 0, ρ 1, ρ 2, ρ 3, ρ 4, ρ 5] (γ 0) 0 0 (γ 3)
  refine Eq.symm ?_
  show fn151 [ρ 0] (γ 0) = _
  unfold fn151
  refine (zLet_eq (show _ = ρ 0 from rfl)).trans ?_
  refine (zLet_eq m1).trans ?_
  refine (zLet_eq m2).trans ?_
  refine (zLet_eq m4).trans ?_
  refine (zLet_eq (show fn114 [] (γ 0) = (0, ρ 6, γ 1) from l0.symm)).trans ?_
  refine (zLet_eq (show _ = γ 1 from rfl)).trans ?_
  refine (if_pos w_0).trans ?_
  refine (zLet_eq (show _ = ρ 6 from rfl)).trans ?_
  refine (zLet_eq m5).trans ?_
  refine (if_pos w_1).trans ?_
  refine (zLet_eq c2.symm).trans ?_
  refine (if_pos w_2).trans ?_
  refine (zLet_eq (show fn109 [ρ 7 + 1] (γ 2) = (0, 0, γ 3) from l1.symm)).trans ?_
  refine (zLet_eq (show _ = γ 3 from rfl)).trans ?_
  rfl
theorem vn151_2 {S : Nat → zSpc} (hS109 : ∀ x g o v gz, S 109 x g o v gz → sn109 x g o v gz) (hS114 : ∀ x g o v gz, S 114 x g o v gz → sn114 x g o v gz) {a : List Int} {g : rHp} : ∀ (ρ : Nat → Int) (γ : Nat → rHp), zO 6 S a g q151_2 ρ γ → zGl (fun _ _ _ => True) (sn151 a g) q151_2 ρ γ := by
  intro ρ γ h
  obtain ⟨ha, hg, hr, hf, hm, hc, hl⟩ := h
  have ha : a = [ρ 0, ρ 1, ρ 2, ρ 3, ρ 4, ρ 5] := ha
  subst ha
  subst hg
  obtain ⟨-, -, -, r3, -, -, r6, -, r8, -⟩ := hr
  have r3 : (0 : Int) ≤ ρ 3 ∧ ρ 3 ≤ 59 := r3
  have r6 : (58 : Int) ≤ ρ 6 ∧ ρ 6 ≤ 58 := r6
  have r8 : (45 : Int) ≤ ρ 8 ∧ ρ 8 ≤ 45 := r8
  obtain ⟨f0, -⟩ := hf
  have f0 : (0 : Int) ≤ -ρ 7 + ρ 2 + (-2) := f0
  obtain ⟨w_0, w_1, w_2, w_3, w_4⟩ : ((0 : Int) ≤ ρ 6) ∧ (ρ 6 = 58) ∧ (¬ (ρ 7 + 1 ≥ ρ 2)) ∧ (ρ 8 = 45) ∧ (ρ 3 < 60) := ⟨by omega, by omega, by omega, by omega, by omega⟩
  obtain ⟨-, m1, m2, -, m4, m5, m6, -⟩ := hm
  have m1 : γ 0 2 0 3 = ρ 2 := m1
  have m2 : γ 0 1 0 10 = ρ 3 := m2
  have m4 : γ 0 10 (ρ 0) 7 = ρ 5 := m4
  have m5 : γ 1 2 0 6 = ρ 7 := m5
  have m6 : γ 0 21 0 (ρ 7 + 1) = ρ 8 := m6
  obtain ⟨⟨-, c2⟩, c3⟩ := hc
  have c2 : γ 2 = rUp (γ 1) 2 0 6 (ρ 7 + 1) := c2
  have c3 : γ 3 = rUp (γ 2) 2 0 6 (ρ 7 + 2) := c3
  obtain ⟨l0, -⟩ := hl
  have l0 : sn114 [ρ 1, ρ 2] (γ 0) 0 (ρ 6) (γ 1) := hS114 _ _ _ _ _ l0
  show sn151 [ρ 0, ρ 1, ρ 2, ρ 3, ρ 4, ρ 5] (γ 0) 0 1 (γ 3)
  refine Eq.symm ?_
  show fn151 [ρ 0] (γ 0) = _
  unfold fn151
  refine (zLet_eq (show _ = ρ 0 from rfl)).trans ?_
  refine (zLet_eq m1).trans ?_
  refine (zLet_eq m2).trans ?_
  refine (zLet_eq m4).trans ?_
  refine (zLet_eq (show fn114 [] (γ 0) = (0, ρ 6, γ 1) from l0.symm)).trans ?_
  refine (zLet_eq (show _ = γ 1 from rfl)).trans ?_
  refine (if_pos w_0).trans ?_
  refine (zLet_eq (show _ = ρ 6 from rfl)).trans ?_
  refine (zLet_eq m5).trans ?_
  refine (if_pos w_1).trans ?_
  refine (zLet_eq c2.symm).trans ?_
  refine (if_neg w_2).trans ?_
  refine (zLet_eq m6).trans ?_
  refine (if_pos w_3).trans ?_
  refine (zLet_eq c3.symm).trans ?_
  refine (if_pos w_4).trans ?_
  rfl
theorem vn151_3 {S : Nat → zSpc} (hS109 : ∀ x g o v gz, S 109 x g o v gz → sn109 x g o v gz) (hS114 : ∀ x g o v gz, S 114 x g o v gz → sn114 x g o v gz) {a : List Int} {g : rHp} : ∀ (ρ : Nat → Int) (γ : Nat → rHp), zO 6 S a g q151_3 ρ γ → zGl (fun _ _ _ => True) (sn151 a g) q151_3 ρ γ := by
  intro ρ γ h
  obtain ⟨ha, hg, hr, hf, hm, hc, hl⟩ := h
  have ha : a = [ρ 0, ρ 1, ρ 2, ρ 3, ρ 4, ρ 5] := ha
  subst ha
  subst hg
  obtain ⟨-, -, -, r3, -, -, r6, -, r8, -⟩ := hr
  have r3 : (60 : Int) ≤ ρ 3 ∧ ρ 3 ≤ 60 := r3
  have r6 : (58 : Int) ≤ ρ 6 ∧ ρ 6 ≤ 58 := r6
  have r8 : (45 : Int) ≤ ρ 8 ∧ ρ 8 ≤ 45 := r8
  obtain ⟨f0, -⟩ := hf
  have f0 : (0 : Int) ≤ -ρ 7 + ρ 2 + (-2) := f0
  obtain ⟨w_0, w_1, w_2, w_3, w_4⟩ : ((0 : Int) ≤ ρ 6) ∧ (ρ 6 = 58) ∧ (¬ (ρ 7 + 1 ≥ ρ 2)) ∧ (ρ 8 = 45) ∧ (¬ (ρ 3 < 60)) := ⟨by omega, by omega, by omega, by omega, by omega⟩
  obtain ⟨-, m1, m2, -, m4, m5, m6, -⟩ := hm
  have m1 : γ 0 2 0 3 = ρ 2 := m1
  have m2 : γ 0 1 0 10 = ρ 3 := m2
  have m4 : γ 0 10 (ρ 0) 7 = ρ 5 := m4
  have m5 : γ 1 2 0 6 = ρ 7 := m5
  have m6 : γ 0 21 0 (ρ 7 + 1) = ρ 8 := m6
  obtain ⟨⟨⟨-, c2⟩, c3⟩, -⟩ := hc
  have c2 : γ 2 = rUp (γ 1) 2 0 6 (ρ 7 + 1) := c2
  have c3 : γ 3 = rUp (γ 2) 2 0 6 (ρ 7 + 2) := c3
  obtain ⟨l0, l1, -⟩ := hl
  have l0 : sn114 [ρ 1, ρ 2] (γ 0) 0 (ρ 6) (γ 1) := hS114 _ _ _ _ _ l0
  have l1 : sn109 [ρ 5, ρ 4] (γ 3) 0 0 (γ 4) := hS109 _ _ _ _ _ l1
  show sn151 [ρ 0, ρ 1, ρ 2, ρ 3, ρ 4, ρ 5] (γ 0) 0 0 (γ 4)
  refine Eq.symm ?_
  show fn151 [ρ 0] (γ 0) = _
  unfold fn151
  refine (zLet_eq (show _ = ρ 0 from rfl)).trans ?_
  refine (zLet_eq m1).trans ?_
  refine (zLet_eq m2).trans ?_
  refine (zLet_eq m4).trans ?_
  refine (zLet_eq (show fn114 [] (γ 0) = (0, ρ 6, γ 1) from l0.symm)).trans ?_
  refine (zLet_eq (show _ = γ 1 from rfl)).trans ?_
  refine (if_pos w_0).trans ?_
  refine (zLet_eq (show _ = ρ 6 from rfl)).trans ?_
  refine (zLet_eq m5).trans ?_
  refine (if_pos w_1).trans ?_
  refine (zLet_eq c2.symm).trans ?_
  refine (if_neg w_2).trans ?_
  refine (zLet_eq m6).trans ?_
  refine (if_pos w_3).trans ?_
  refine (zLet_eq c3.symm).trans ?_
  refine (if_neg w_4).trans ?_
  refine (zLet_eq (show fn109 [ρ 5] (γ 3) = (0, 0, γ 4) from l1.symm)).trans ?_
  refine (zLet_eq (show _ = γ 4 from rfl)).trans ?_
  rfl
theorem vn151_4 {S : Nat → zSpc} (hS109 : ∀ x g o v gz, S 109 x g o v gz → sn109 x g o v gz) (hS114 : ∀ x g o v gz, S 114 x g o v gz → sn114 x g o v gz) {a : List Int} {g : rHp} : ∀ (ρ : Nat → Int) (γ : Nat → rHp), zO 6 S a g q151_4 ρ γ → zGl (fun _ _ _ => True) (sn151 a g) q151_4 ρ γ := by
  intro ρ γ h
  obtain ⟨ha, hg, hr, hf, hm, hc, hl⟩ := h
  have ha : a = [ρ 0, ρ 1, ρ 2, ρ 3, ρ 4, ρ 5] := ha
  subst ha
  subst hg
  obtain ⟨-, -, -, -, -, -, r6, -, r8, -⟩ := hr
  have r6 : (58 : Int) ≤ ρ 6 ∧ ρ 6 ≤ 58 := r6
  have r8 : ((-128) : Int) ≤ ρ 8 ∧ ρ 8 ≤ 127 := r8
  obtain ⟨f0, -⟩ := hf
  have f0 : (0 : Int) ≤ -ρ 7 + ρ 2 + (-2) := f0
  obtain ⟨w_0, w_1, w_2⟩ : ((0 : Int) ≤ ρ 6) ∧ (ρ 6 = 58) ∧ (¬ (ρ 7 + 1 ≥ ρ 2)) := ⟨by omega, by omega, by omega⟩
  obtain ⟨-, m1, m2, -, m4, m5, m6, -⟩ := hm
  have m1 : γ 0 2 0 3 = ρ 2 := m1
  have m2 : γ 0 1 0 10 = ρ 3 := m2
  have m4 : γ 0 10 (ρ 0) 7 = ρ 5 := m4
  have m5 : γ 1 2 0 6 = ρ 7 := m5
  have m6 : γ 0 21 0 (ρ 7 + 1) = ρ 8 := m6
  obtain ⟨⟨-, c2⟩, -⟩ := hc
  have c2 : γ 2 = rUp (γ 1) 2 0 6 (ρ 7 + 1) := c2
  obtain ⟨l0, l1, l2, -⟩ := hl
  have l0 : sn114 [ρ 1, ρ 2] (γ 0) 0 (ρ 6) (γ 1) := hS114 _ _ _ _ _ l0
  have l1 : ρ 8 ≠ 45 := l1
  have l2 : sn109 [ρ 7 + 1, ρ 4] (γ 2) 0 0 (γ 3) := hS109 _ _ _ _ _ l2
  have wl_0 : ¬ (ρ 8 = 45) := by omega
  show sn151 [ρ 0, ρ 1, ρ 2, ρ 3, ρ 4, ρ 5] (γ 0) 0 0 (γ 3)
  refine Eq.symm ?_
  show fn151 [ρ 0] (γ 0) = _
  unfold fn151
  refine (zLet_eq (show _ = ρ 0 from rfl)).trans ?_
  refine (zLet_eq m1).trans ?_
  refine (zLet_eq m2).trans ?_
  refine (zLet_eq m4).trans ?_
  refine (zLet_eq (show fn114 [] (γ 0) = (0, ρ 6, γ 1) from l0.symm)).trans ?_
  refine (zLet_eq (show _ = γ 1 from rfl)).trans ?_
  refine (if_pos w_0).trans ?_
  refine (zLet_eq (show _ = ρ 6 from rfl)).trans ?_
  refine (zLet_eq m5).trans ?_
  refine (if_pos w_1).trans ?_
  refine (zLet_eq c2.symm).trans ?_
  refine (if_neg w_2).trans ?_
  refine (zLet_eq m6).trans ?_
  refine (if_neg wl_0).trans ?_
  refine (zLet_eq (show fn109 [ρ 7 + 1] (γ 2) = (0, 0, γ 3) from l2.symm)).trans ?_
  refine (zLet_eq (show _ = γ 3 from rfl)).trans ?_
  rfl
theorem vn151_5 {S : Nat → zSpc} (hS109 : ∀ x g o v gz, S 109 x g o v gz → sn109 x g o v gz) (hS114 : ∀ x g o v gz, S 114 x g o v gz → sn114 x g o v gz) {a : List Int} {g : rHp} : ∀ (ρ : Nat → Int) (γ : Nat → rHp), zO 6 S a g q151_5 ρ γ → zGl (fun _ _ _ => True) (sn151 a g) q151_5 ρ γ := by
  intro ρ γ h
  obtain ⟨ha, hg, hr, hf, hm, hc, hl⟩ := h
  have ha : a = [ρ 0, ρ 1, ρ 2, ρ 3, ρ 4, ρ 5] := ha
  subst ha
  subst hg
  obtain ⟨-, -, -, -, -, -, r6, -⟩ := hr
  have r6 : (0 : Int) ≤ ρ 6 ∧ ρ 6 ≤ 255 := r6
  have w_0 : (0 : Int) ≤ ρ 6 := by omega
  obtain ⟨-, m1, m2, -, m4, m5, -⟩ := hm
  have m1 : γ 0 2 0 3 = ρ 2 := m1
  have m2 : γ 0 1 0 10 = ρ 3 := m2
  have m4 : γ 0 10 (ρ 0) 7 = ρ 5 := m4
  have m5 : γ 1 2 0 6 = ρ 7 := m5
  obtain ⟨l0, l1, l2, -⟩ := hl
  have l0 : sn114 [ρ 1, ρ 2] (γ 0) 0 (ρ 6) (γ 1) := hS114 _ _ _ _ _ l0
  have l1 : ρ 6 ≠ 58 := l1
  have l2 : sn109 [ρ 7, ρ 4] (γ 1) 0 0 (γ 2) := hS109 _ _ _ _ _ l2
  have wl_0 : ¬ (ρ 6 = 58) := by omega
  show sn151 [ρ 0, ρ 1, ρ 2, ρ 3, ρ 4, ρ 5] (γ 0) 0 0 (γ 2)
  refine Eq.symm ?_
  show fn151 [ρ 0] (γ 0) = _
  unfold fn151
  refine (zLet_eq (show _ = ρ 0 from rfl)).trans ?_
  refine (zLet_eq m1).trans ?_
  refine (zLet_eq m2).trans ?_
  refine (zLet_eq m4).trans ?_
  refine (zLet_eq (show fn114 [] (γ 0) = (0, ρ 6, γ 1) from l0.symm)).trans ?_
  refine (zLet_eq (show _ = γ 1 from rfl)).trans ?_
  refine (if_pos w_0).trans ?_
  refine (zLet_eq (show _ = ρ 6 from rfl)).trans ?_
  refine (zLet_eq m5).trans ?_
  refine (if_neg wl_0).trans ?_
  refine (zLet_eq (show fn109 [ρ 7] (γ 1) = (0, 0, γ 2) from l2.symm)).trans ?_
  refine (zLet_eq (show _ = γ 2 from rfl)).trans ?_
  rfl
theorem yn151 {S : Nat → zSpc} (hS109 : ∀ x g o v gz, S 109 x g o v gz → sn109 x g o v gz) (hS114 : ∀ x g o v gz, S 114 x g o v gz → sn114 x g o v gz) : ∀ x g o v gz, zSem uW uT w151_.2.2.2.1 w151_.2.2.1.1.length S q151 (fun i => q151a.getD i []) (zNA a151_) x g o v gz → sn151 x g o v gz := by
  intro a g o v gz h
  exact zSem_all (l0 := q151) (las := q151a) (S := S) (J := (fun _ _ _ => True)) (P := sn151 a g) (fun _ => (show zAll _ [q151_0, q151_1, q151_2, q151_3, q151_4, q151_5] from (zAll_c (vn151_0 hS109 hS114) (zAll_c (vn151_1 hS109 hS114) (zAll_c (vn151_2 hS109 hS114) (zAll_c (vn151_3 hS109 hS114) (zAll_c (vn151_4 hS109 hS114) (zAll_c (vn151_5 hS109 hS114) zAll_n)))))))) (fun _ => (show zAllI _ 0 [] from trivial)) h
theorem vn152_0 {S : Nat → zSpc} (hS109 : ∀ x g o v gz, S 109 x g o v gz → sn109 x g o v gz) {a : List Int} {g : rHp} : ∀ (ρ : Nat → Int) (γ : Nat → rHp), zO 2 S a g q152_0 ρ γ → zGl (fun i vs g1 => jn152 a g i vs g1) (sn152 a g) q152_0 ρ γ := by
  intro ρ γ h
  obtain ⟨ha, hg, hr, hf, hm, hc, hl⟩ := h
  have ha : a = [ρ 0, ρ 1] := ha
  subst ha
  subst hg
  show jn152 [ρ 0, ρ 1] (γ 0) 0 [ρ 0, ρ 1, 0] (γ 0)
  have hD : dn152 [] (γ 0) = .inl (0, [0], γ 0) := by
    unfold dn152
    rfl
  exact zGoo_to hD
theorem vn152a0_0 {S : Nat → zSpc} (hS109 : ∀ x g o v gz, S 109 x g o v gz → sn109 x g o v gz) {a : List Int} {g : rHp} : ∀ (ρ : Nat → Int) (γ : Nat → rHp), jn152 a g 0 (zAg (zNA a152_ 0) ρ) (γ 1) → zO 2 S a g q152a0_0 ρ γ → zGl (fun i vs g1 => jn152 a g i vs g1) (sn152 a g) q152a0_0 ρ γ := by
  intro ρ γ hJ h
  obtain ⟨ha, hg, hr, hf, hm, hc, hl⟩ := h
  have ha : a = [ρ 0, ρ 1] := ha
  subst ha
  subst hg
  have hJ : jn152 [ρ 0, ρ 1] (γ 0) 0 [ρ 0, ρ 1, ρ 2] (γ 1) := hJ
  obtain ⟨f0, -⟩ := hf
  have f0 : (0 : Int) ≤ ρ 2 + -ρ 1 := f0
  have w_0 : ρ 2 ≥ ρ 1 := by omega
  obtain ⟨-, m1, -⟩ := hm
  have m1 : γ 0 2 0 16 = ρ 1 := m1
  show sn152 [ρ 0, ρ 1] (γ 0) 0 1 (γ 1)
  have hD : en152 (γ 0) (0, [ρ 2], γ 1) = .inr (0, 1, γ 1) := by
    unfold en152
    refine (if_pos (show (0 : Nat) = 0 by decide)).trans ?_
    refine (zLet_eq (show _ = γ 1 from rfl)).trans ?_
    refine (zLet_eq (show _ = ρ 2 from rfl)).trans ?_
    refine (zLet_eq m1).trans ?_
    refine (if_pos w_0).trans ?_
    rfl
  exact zGoo_aend hJ hD
theorem vn152a0_1 {S : Nat → zSpc} (hS109 : ∀ x g o v gz, S 109 x g o v gz → sn109 x g o v gz) {a : List Int} {g : rHp} : ∀ (ρ : Nat → Int) (γ : Nat → rHp), jn152 a g 0 (zAg (zNA a152_ 0) ρ) (γ 1) → zO 2 S a g q152a0_1 ρ γ → zGl (fun i vs g1 => jn152 a g i vs g1) (sn152 a g) q152a0_1 ρ γ := by
  intro ρ γ hJ h
  obtain ⟨ha, hg, hr, hf, hm, hc, hl⟩ := h
  have ha : a = [ρ 0, ρ 1] := ha
  subst ha
  subst hg
  have hJ : jn152 [ρ 0, ρ 1] (γ 0) 0 [ρ 0, ρ 1, ρ 2] (γ 1) := hJ
  obtain ⟨-, -, -, -, r4, -⟩ := hr
  have r4 : ((-2147483648) : Int) ≤ ρ 4 ∧ ρ 4 ≤ 1 := r4
  obtain ⟨f0, -⟩ := hf
  have f0 : (0 : Int) ≤ -ρ 2 + ρ 1 + (-1) := f0
  obtain ⟨w_0, w_1⟩ : (¬ (ρ 2 ≥ ρ 1)) ∧ (ρ 4 ≤ 1) := ⟨by omega, by omega⟩
  obtain ⟨-, m1, m2, m3, -⟩ := hm
  have m1 : γ 0 2 0 16 = ρ 1 := m1
  have m2 : γ 0 25 0 (ρ 2) = ρ 3 := m2
  have m3 : γ 0 23 0 (ρ 3) = ρ 4 := m3
  show jn152 [ρ 0, ρ 1] (γ 0) 0 [ρ 0, ρ 1, ρ 2 + 1] (γ 1)
  have hD : en152 (γ 0) (0, [ρ 2], γ 1) = .inl (0, [ρ 2 + 1], γ 1) := by
    unfold en152
    refine (if_pos (show (0 : Nat) = 0 by decide)).trans ?_
    refine (zLet_eq (show _ = γ 1 from rfl)).trans ?_
    refine (zLet_eq (show _ = ρ 2 from rfl)).trans ?_
    refine (zLet_eq m1).trans ?_
    refine (if_neg w_0).trans ?_
    refine (zLet_eq m2).trans ?_
    refine (zLet_eq m3).trans ?_
    refine (if_pos w_1).trans ?_
    rfl
  exact zGoo_ato hJ hD
theorem vn152a0_2 {S : Nat → zSpc} (hS109 : ∀ x g o v gz, S 109 x g o v gz → sn109 x g o v gz) {a : List Int} {g : rHp} : ∀ (ρ : Nat → Int) (γ : Nat → rHp), jn152 a g 0 (zAg (zNA a152_ 0) ρ) (γ 1) → zO 2 S a g q152a0_2 ρ γ → zGl (fun i vs g1 => jn152 a g i vs g1) (sn152 a g) q152a0_2 ρ γ := by
  intro ρ γ hJ h
  obtain ⟨ha, hg, hr, hf, hm, hc, hl⟩ := h
  have ha : a = [ρ 0, ρ 1] := ha
  subst ha
  subst hg
  have hJ : jn152 [ρ 0, ρ 1] (γ 0) 0 [ρ 0, ρ 1, ρ 2] (γ 1) := hJ
  obtain ⟨-, -, -, -, r4, -⟩ := hr
  have r4 : (2 : Int) ≤ ρ 4 ∧ ρ 4 ≤ 2147483647 := r4
  obtain ⟨f0, -⟩ := hf
  have f0 : (0 : Int) ≤ -ρ 2 + ρ 1 + (-1) := f0
  obtain ⟨w_0, w_1⟩ : (¬ (ρ 2 ≥ ρ 1)) ∧ (¬ (ρ 4 ≤ 1)) := ⟨by omega, by omega⟩
  obtain ⟨-, m1, m2, m3, m4, -⟩ := hm
  have m1 : γ 0 2 0 16 = ρ 1 := m1
  have m2 : γ 0 25 0 (ρ 2) = ρ 3 := m2
  have m3 : γ 0 23 0 (ρ 3) = ρ 4 := m3
  have m4 : γ 0 24 0 (ρ 2) = ρ 5 := m4
  obtain ⟨l0, -⟩ := hl
  have l0 : sn109 [ρ 5, ρ 0] (γ 1) 0 0 (γ 2) := hS109 _ _ _ _ _ l0
  show sn152 [ρ 0, ρ 1] (γ 0) 0 0 (γ 2)
  have hD : en152 (γ 0) (0, [ρ 2], γ 1) = .inr (0, 0, γ 2) := by
    unfold en152
    refine (if_pos (show (0 : Nat) = 0 by decide)).trans ?_
    refine (zLet_eq (show _ = γ 1 from rfl)).trans ?_
    refine (zLet_eq (show _ = ρ 2 from rfl)).trans ?_
    refine (zLet_eq m1).trans ?_
    refine (if_neg w_0).trans ?_
    refine (zLet_eq m2).trans ?_
    refine (zLet_eq m3).trans ?_
    refine (if_neg w_1).trans ?_
    refine (zLet_eq m4).trans ?_
    refine (zLet_eq (show fn109 [ρ 5] (γ 1) = (0, 0, γ 2) from l0.symm)).trans ?_
    refine (zLet_eq (show _ = γ 2 from rfl)).trans ?_
    rfl
  exact zGoo_aend hJ hD
theorem yn152 {S : Nat → zSpc} (hS109 : ∀ x g o v gz, S 109 x g o v gz → sn109 x g o v gz) : ∀ x g o v gz, zSem uW uT w152_.2.2.2.1 w152_.2.2.1.1.length S q152 (fun i => q152a.getD i []) (zNA a152_) x g o v gz → sn152 x g o v gz := by
  intro a g o v gz h
  exact zSem_all (l0 := q152) (las := q152a) (S := S) (J := (fun i vs g1 => jn152 a g i vs g1)) (P := sn152 a g) (fun _ => (show zAll _ [q152_0] from (zAll_c (vn152_0 hS109) zAll_n))) (fun _ => (show zAllI _ 0 [q152a0] from ⟨(show zAll _ [q152a0_0, q152a0_1, q152a0_2] from (zAll_c (vn152a0_0 hS109) (zAll_c (vn152a0_1 hS109) (zAll_c (vn152a0_2 hS109) zAll_n)))), trivial⟩)) h
theorem vn153_0 {S : Nat → zSpc} (hS109 : ∀ x g o v gz, S 109 x g o v gz → sn109 x g o v gz) (hS117 : ∀ x g o v gz, S 117 x g o v gz → sn117 x g o v gz) (hS118 : ∀ x g o v gz, S 118 x g o v gz → sn118 x g o v gz) {a : List Int} {g : rHp} : ∀ (ρ : Nat → Int) (γ : Nat → rHp), zO 7 S a g q153_0 ρ γ → zGl (fun i vs g1 => jn153 a g i vs g1) (sn153 a g) q153_0 ρ γ := by
  intro ρ γ h
  obtain ⟨ha, hg, hr, hf, hm, hc, hl⟩ := h
  have ha : a = [ρ 0, ρ 1, ρ 2, ρ 3, ρ 4, ρ 5, ρ 6] := ha
  subst ha
  subst hg
  show jn153 [ρ 0, ρ 1, ρ 2, ρ 3, ρ 4, ρ 5, ρ 6] (γ 0) 0 [ρ 0, ρ 1, ρ 2, ρ 3, ρ 4, ρ 5, ρ 6, 0] (γ 0)
  have hD : dn153 [ρ 0] (γ 0) = .inl (0, [ρ 0, 0], γ 0) := by
    unfold dn153
    refine (zLet_eq (show _ = ρ 0 from rfl)).trans ?_
    rfl
  exact zGoo_to hD
theorem vn153a0_0 {S : Nat → zSpc} (hS109 : ∀ x g o v gz, S 109 x g o v gz → sn109 x g o v gz) (hS117 : ∀ x g o v gz, S 117 x g o v gz → sn117 x g o v gz) (hS118 : ∀ x g o v gz, S 118 x g o v gz → sn118 x g o v gz) {a : List Int} {g : rHp} : ∀ (ρ : Nat → Int) (γ : Nat → rHp), jn153 a g 0 (zAg (zNA a153_ 0) ρ) (γ 1) → zO 7 S a g q153a0_0 ρ γ → zGl (fun i vs g1 => jn153 a g i vs g1) (sn153 a g) q153a0_0 ρ γ := by
  intro ρ γ hJ h
  obtain ⟨ha, hg, hr, hf, hm, hc, hl⟩ := h
  have ha : a = [ρ 0, ρ 1, ρ 2, ρ 3, ρ 4, ρ 5, ρ 6] := ha
  subst ha
  subst hg
  have hJ : jn153 [ρ 0, ρ 1, ρ 2, ρ 3, ρ 4, ρ 5, ρ 6] (γ 0) 0 [ρ 0, ρ 1, ρ 2, ρ 3, ρ 4, ρ 5, ρ 6, ρ 7] (γ 1) := hJ
  obtain ⟨f0, -⟩ := hf
  have f0 : (0 : Int) ≤ ρ 7 + -ρ 3 := f0
  have w_0 : ρ 7 ≥ ρ 3 := by omega
  obtain ⟨-, -, m2, m3, m4, m5, -⟩ := hm
  have m2 : γ 0 10 (ρ 0) 5 = ρ 3 := m2
  have m3 : γ 0 10 (ρ 0) 12 = ρ 4 := m3
  have m4 : γ 0 10 (ρ 0) 14 = ρ 5 := m4
  have m5 : γ 0 10 (ρ 0) 15 = ρ 6 := m5
  show sn153 [ρ 0, ρ 1, ρ 2, ρ 3, ρ 4, ρ 5, ρ 6] (γ 0) 0 1 (γ 1)
  have hD : en153 (γ 0) (0, [ρ 0, ρ 7], γ 1) = .inr (0, 1, γ 1) := by
    unfold en153
    refine (if_pos (show (0 : Nat) = 0 by decide)).trans ?_
    refine (zLet_eq (show _ = γ 1 from rfl)).trans ?_
    refine (zLet_eq (show _ = ρ 0 from rfl)).trans ?_
    refine (zLet_eq (show _ = ρ 7 from rfl)).trans ?_
    refine (zLet_eq m2).trans ?_
    refine (zLet_eq m3).trans ?_
    refine (zLet_eq m4).trans ?_
    refine (zLet_eq m5).trans ?_
    refine (if_pos w_0).trans ?_
    rfl
  exact zGoo_aend hJ hD
theorem vn153a0_1 {S : Nat → zSpc} (hS109 : ∀ x g o v gz, S 109 x g o v gz → sn109 x g o v gz) (hS117 : ∀ x g o v gz, S 117 x g o v gz → sn117 x g o v gz) (hS118 : ∀ x g o v gz, S 118 x g o v gz → sn118 x g o v gz) {a : List Int} {g : rHp} : ∀ (ρ : Nat → Int) (γ : Nat → rHp), jn153 a g 0 (zAg (zNA a153_ 0) ρ) (γ 1) → zO 7 S a g q153a0_1 ρ γ → zGl (fun i vs g1 => jn153 a g i vs g1) (sn153 a g) q153a0_1 ρ γ := by
  intro ρ γ hJ h
  obtain ⟨ha, hg, hr, hf, hm, hc, hl⟩ := h
  have ha : a = [ρ 0, ρ 1, ρ 2, ρ 3, ρ 4, ρ 5, ρ 6] := ha
  subst ha
  subst hg
  have hJ : jn153 [ρ 0, ρ 1, ρ 2, ρ 3, ρ 4, ρ 5, ρ 6] (γ 0) 0 [ρ 0, ρ 1, ρ 2, ρ 3, ρ 4, ρ 5, ρ 6, ρ 7] (γ 1) := hJ
  obtain ⟨-, -, -, -, -, -, -, -, r8, -⟩ := hr
  have r8 : (0 : Int) ≤ ρ 8 ∧ ρ 8 ≤ 3 := r8
  obtain ⟨f0, -⟩ := hf
  have f0 : (0 : Int) ≤ -ρ 7 + ρ 3 + (-1) := f0
  obtain ⟨w_0, w_1⟩ : (¬ (ρ 7 ≥ ρ 3)) ∧ (ρ 8 ≠ 4) := ⟨by omega, by omega⟩
  obtain ⟨-, -, m2, m3, m4, m5, m6, -⟩ := hm
  have m2 : γ 0 10 (ρ 0) 5 = ρ 3 := m2
  have m3 : γ 0 10 (ρ 0) 12 = ρ 4 := m3
  have m4 : γ 0 10 (ρ 0) 14 = ρ 5 := m4
  have m5 : γ 0 10 (ρ 0) 15 = ρ 6 := m5
  have m6 : γ 0 43 (ρ 0) (ρ 7) = ρ 8 := m6
  obtain ⟨l0, -⟩ := hl
  have l0 : ρ 8 ≠ 1 := l0
  have wl_0 : ρ 8 ≠ 1 := by omega
  show jn153 [ρ 0, ρ 1, ρ 2, ρ 3, ρ 4, ρ 5, ρ 6] (γ 0) 0 [ρ 0, ρ 1, ρ 2, ρ 3, ρ 4, ρ 5, ρ 6, ρ 7 + 1] (γ 1)
  have hD : en153 (γ 0) (0, [ρ 0, ρ 7], γ 1) = .inl (0, [ρ 0, ρ 7 + 1], γ 1) := by
    unfold en153
    refine (if_pos (show (0 : Nat) = 0 by decide)).trans ?_
    refine (zLet_eq (show _ = γ 1 from rfl)).trans ?_
    refine (zLet_eq (show _ = ρ 0 from rfl)).trans ?_
    refine (zLet_eq (show _ = ρ 7 from rfl)).trans ?_
    refine (zLet_eq m2).trans ?_
    refine (zLet_eq m3).trans ?_
    refine (zLet_eq m4).trans ?_
    refine (zLet_eq m5).trans ?_
    refine (if_neg w_0).trans ?_
    refine (zLet_eq m6).trans ?_
    refine (if_pos wl_0).trans ?_
    refine (if_pos w_1).trans ?_
    rfl
  exact zGoo_ato hJ hD
theorem vn153a0_2 {S : Nat → zSpc} (hS109 : ∀ x g o v gz, S 109 x g o v gz → sn109 x g o v gz) (hS117 : ∀ x g o v gz, S 117 x g o v gz → sn117 x g o v gz) (hS118 : ∀ x g o v gz, S 118 x g o v gz → sn118 x g o v gz) {a : List Int} {g : rHp} : ∀ (ρ : Nat → Int) (γ : Nat → rHp), jn153 a g 0 (zAg (zNA a153_ 0) ρ) (γ 1) → zO 7 S a g q153a0_2 ρ γ → zGl (fun i vs g1 => jn153 a g i vs g1) (sn153 a g) q153a0_2 ρ γ := by
  intro ρ γ hJ h
  obtain ⟨ha, hg, hr, hf, hm, hc, hl⟩ := h
  have ha : a = [ρ 0, ρ 1, ρ 2, ρ 3, ρ 4, ρ 5, ρ 6] := ha
  subst ha
  subst hg
  have hJ : jn153 [ρ 0, ρ 1, ρ 2, ρ 3, ρ 4, ρ 5, ρ 6] (γ 0) 0 [ρ 0, ρ 1, ρ 2, ρ 3, ρ 4, ρ 5, ρ 6, ρ 7] (γ 1) := hJ
  obtain ⟨-, -, -, -, r4, -, -, -, r8, -⟩ := hr
  have r4 : (1 : Int) ≤ ρ 4 ∧ ρ 4 ≤ 1 := r4
  have r8 : (4 : Int) ≤ ρ 8 ∧ ρ 8 ≤ 4 := r8
  obtain ⟨f0, -⟩ := hf
  have f0 : (0 : Int) ≤ -ρ 7 + ρ 3 + (-1) := f0
  obtain ⟨w_0, w_1, w_2, w_3⟩ : (¬ (ρ 7 ≥ ρ 3)) ∧ (ρ 8 ≠ 1) ∧ (¬ (ρ 8 ≠ 4)) ∧ (ρ 4 = 1) := ⟨by omega, by omega, by omega, by omega⟩
  obtain ⟨-, -, m2, m3, m4, m5, m6, -⟩ := hm
  have m2 : γ 0 10 (ρ 0) 5 = ρ 3 := m2
  have m3 : γ 0 10 (ρ 0) 12 = ρ 4 := m3
  have m4 : γ 0 10 (ρ 0) 14 = ρ 5 := m4
  have m5 : γ 0 10 (ρ 0) 15 = ρ 6 := m5
  have m6 : γ 0 43 (ρ 0) (ρ 7) = ρ 8 := m6
  obtain ⟨l0, -⟩ := hl
  have l0 : ρ 8 ≠ 1 := l0
  show jn153 [ρ 0, ρ 1, ρ 2, ρ 3, ρ 4, ρ 5, ρ 6] (γ 0) 0 [ρ 0, ρ 1, ρ 2, ρ 3, ρ 4, ρ 5, ρ 6, ρ 7 + 1] (γ 1)
  have hD : en153 (γ 0) (0, [ρ 0, ρ 7], γ 1) = .inl (0, [ρ 0, ρ 7 + 1], γ 1) := by
    unfold en153
    refine (if_pos (show (0 : Nat) = 0 by decide)).trans ?_
    refine (zLet_eq (show _ = γ 1 from rfl)).trans ?_
    refine (zLet_eq (show _ = ρ 0 from rfl)).trans ?_
    refine (zLet_eq (show _ = ρ 7 from rfl)).trans ?_
    refine (zLet_eq m2).trans ?_
    refine (zLet_eq m3).trans ?_
    refine (zLet_eq m4).trans ?_
    refine (zLet_eq m5).trans ?_
    refine (if_neg w_0).trans ?_
    refine (zLet_eq m6).trans ?_
    refine (if_pos w_1).trans ?_
    refine (if_neg w_2).trans ?_
    refine (if_pos w_3).trans ?_
    rfl
  exact zGoo_ato hJ hD
theorem vn153a0_3 {S : Nat → zSpc} (hS109 : ∀ x g o v gz, S 109 x g o v gz → sn109 x g o v gz) (hS117 : ∀ x g o v gz, S 117 x g o v gz → sn117 x g o v gz) (hS118 : ∀ x g o v gz, S 118 x g o v gz → sn118 x g o v gz) {a : List Int} {g : rHp} : ∀ (ρ : Nat → Int) (γ : Nat → rHp), jn153 a g 0 (zAg (zNA a153_ 0) ρ) (γ 1) → zO 7 S a g q153a0_3 ρ γ → zGl (fun i vs g1 => jn153 a g i vs g1) (sn153 a g) q153a0_3 ρ γ := by
  intro ρ γ hJ h
  obtain ⟨ha, hg, hr, hf, hm, hc, hl⟩ := h
  have ha : a = [ρ 0, ρ 1, ρ 2, ρ 3, ρ 4, ρ 5, ρ 6] := ha
  subst ha
  subst hg
  have hJ : jn153 [ρ 0, ρ 1, ρ 2, ρ 3, ρ 4, ρ 5, ρ 6] (γ 0) 0 [ρ 0, ρ 1, ρ 2, ρ 3, ρ 4, ρ 5, ρ 6, ρ 7] (γ 1) := hJ
  obtain ⟨-, -, -, -, r4, -, -, -, r8, -⟩ := hr
  have r4 : (0 : Int) ≤ ρ 4 ∧ ρ 4 ≤ 4 := r4
  have r8 : (4 : Int) ≤ ρ 8 ∧ ρ 8 ≤ 4 := r8
  obtain ⟨f0, -⟩ := hf
  have f0 : (0 : Int) ≤ -ρ 7 + ρ 3 + (-1) := f0
  obtain ⟨w_0, w_1, w_2⟩ : (¬ (ρ 7 ≥ ρ 3)) ∧ (ρ 8 ≠ 1) ∧ (¬ (ρ 8 ≠ 4)) := ⟨by omega, by omega, by omega⟩
  obtain ⟨-, -, m2, m3, m4, m5, m6, -⟩ := hm
  have m2 : γ 0 10 (ρ 0) 5 = ρ 3 := m2
  have m3 : γ 0 10 (ρ 0) 12 = ρ 4 := m3
  have m4 : γ 0 10 (ρ 0) 14 = ρ 5 := m4
  have m5 : γ 0 10 (ρ 0) 15 = ρ 6 := m5
  have m6 : γ 0 43 (ρ 0) (ρ 7) = ρ 8 := m6
  obtain ⟨l0, l1, l2, l3, -⟩ := hl
  have l0 : ρ 8 ≠ 1 := l0
  have l1 : ρ 4 ≠ 1 := l1
  have l2 : sn118 [ρ 5, ρ 2] (γ 1) 0 0 (γ 2) := hS118 _ _ _ _ _ l2
  have l3 : sn109 [ρ 6, ρ 1] (γ 2) 0 0 (γ 3) := hS109 _ _ _ _ _ l3
  have wl_0 : ¬ (ρ 4 = 1) := by omega
  show sn153 [ρ 0, ρ 1, ρ 2, ρ 3, ρ 4, ρ 5, ρ 6] (γ 0) 0 0 (γ 3)
  have hD : en153 (γ 0) (0, [ρ 0, ρ 7], γ 1) = .inr (0, 0, γ 3) := by
    unfold en153
    refine (if_pos (show (0 : Nat) = 0 by decide)).trans ?_
    refine (zLet_eq (show _ = γ 1 from rfl)).trans ?_
    refine (zLet_eq (show _ = ρ 0 from rfl)).trans ?_
    refine (zLet_eq (show _ = ρ 7 from rfl)).trans ?_
    refine (zLet_eq m2).trans ?_
    refine (zLet_eq m3).trans ?_
    refine (zLet_eq m4).trans ?_
    refine (zLet_eq m5).trans ?_
    refine (if_neg w_0).trans ?_
    refine (zLet_eq m6).trans ?_
    refine (if_pos w_1).trans ?_
    refine (if_neg w_2).trans ?_
    refine (if_neg wl_0).trans ?_
    refine (zLet_eq (show fn118 [ρ 5] (γ 1) = (0, 0, γ 2) from l2.symm)).trans ?_
    refine (zLet_eq (show _ = γ 2 from rfl)).trans ?_
    refine (if_neg zQ0_).trans ?_
    refine (zLet_eq (show fn109 [ρ 6] (γ 2) = (0, 0, γ 3) from l3.symm)).trans ?_
    refine (zLet_eq (show _ = γ 3 from rfl)).trans ?_
    rfl
  exact zGoo_aend hJ hD
theorem vn153a0_4 {S : Nat → zSpc} (hS109 : ∀ x g o v gz, S 109 x g o v gz → sn109 x g o v gz) (hS117 : ∀ x g o v gz, S 117 x g o v gz → sn117 x g o v gz) (hS118 : ∀ x g o v gz, S 118 x g o v gz → sn118 x g o v gz) {a : List Int} {g : rHp} : ∀ (ρ : Nat → Int) (γ : Nat → rHp), jn153 a g 0 (zAg (zNA a153_ 0) ρ) (γ 1) → zO 7 S a g q153a0_4 ρ γ → zGl (fun i vs g1 => jn153 a g i vs g1) (sn153 a g) q153a0_4 ρ γ := by
  intro ρ γ hJ h
  obtain ⟨ha, hg, hr, hf, hm, hc, hl⟩ := h
  have ha : a = [ρ 0, ρ 1, ρ 2, ρ 3, ρ 4, ρ 5, ρ 6] := ha
  subst ha
  subst hg
  have hJ : jn153 [ρ 0, ρ 1, ρ 2, ρ 3, ρ 4, ρ 5, ρ 6] (γ 0) 0 [ρ 0, ρ 1, ρ 2, ρ 3, ρ 4, ρ 5, ρ 6, ρ 7] (γ 1) := hJ
  obtain ⟨-, -, -, -, r4, -, -, -, r8, -⟩ := hr
  have r4 : (0 : Int) ≤ ρ 4 ∧ ρ 4 ≤ 4 := r4
  have r8 : (4 : Int) ≤ ρ 8 ∧ ρ 8 ≤ 4 := r8
  obtain ⟨f0, -⟩ := hf
  have f0 : (0 : Int) ≤ -ρ 7 + ρ 3 + (-1) := f0
  obtain ⟨w_0, w_1, w_2⟩ : (¬ (ρ 7 ≥ ρ 3)) ∧ (ρ 8 ≠ 1) ∧ (¬ (ρ 8 ≠ 4)) := ⟨by omega, by omega, by omega⟩
  obtain ⟨-, -, m2, m3, m4, m5, m6, -⟩ := hm
  have m2 : γ 0 10 (ρ 0) 5 = ρ 3 := m2
  have m3 : γ 0 10 (ρ 0) 12 = ρ 4 := m3
  have m4 : γ 0 10 (ρ 0) 14 = ρ 5 := m4
  have m5 : γ 0 10 (ρ 0) 15 = ρ 6 := m5
  have m6 : γ 0 43 (ρ 0) (ρ 7) = ρ 8 := m6
  obtain ⟨l0, l1, l2, -⟩ := hl
  have l0 : ρ 8 ≠ 1 := l0
  have l1 : ρ 4 ≠ 1 := l1
  have l2 : sn118 [ρ 5, ρ 2] (γ 1) 0 1 (γ 2) := hS118 _ _ _ _ _ l2
  have wl_0 : ¬ (ρ 4 = 1) := by omega
  show jn153 [ρ 0, ρ 1, ρ 2, ρ 3, ρ 4, ρ 5, ρ 6] (γ 0) 0 [ρ 0, ρ 1, ρ 2, ρ 3, ρ 4, ρ 5, ρ 6, ρ 7 + 1] (γ 2)
  have hD : en153 (γ 0) (0, [ρ 0, ρ 7], γ 1) = .inl (0, [ρ 0, ρ 7 + 1], γ 2) := by
    unfold en153
    refine (if_pos (show (0 : Nat) = 0 by decide)).trans ?_
    refine (zLet_eq (show _ = γ 1 from rfl)).trans ?_
    refine (zLet_eq (show _ = ρ 0 from rfl)).trans ?_
    refine (zLet_eq (show _ = ρ 7 from rfl)).trans ?_
    refine (zLet_eq m2).trans ?_
    refine (zLet_eq m3).trans ?_
    refine (zLet_eq m4).trans ?_
    refine (zLet_eq m5).trans ?_
    refine (if_neg w_0).trans ?_
    refine (zLet_eq m6).trans ?_
    refine (if_pos w_1).trans ?_
    refine (if_neg w_2).trans ?_
    refine (if_neg wl_0).trans ?_
    refine (zLet_eq (show fn118 [ρ 5] (γ 1) = (0, 1, γ 2) from l2.symm)).trans ?_
    refine (zLet_eq (show _ = γ 2 from rfl)).trans ?_
    refine (if_pos zQ1_).trans ?_
    rfl
  exact zGoo_ato hJ hD
theorem vn153a0_5 {S : Nat → zSpc} (hS109 : ∀ x g o v gz, S 109 x g o v gz → sn109 x g o v gz) (hS117 : ∀ x g o v gz, S 117 x g o v gz → sn117 x g o v gz) (hS118 : ∀ x g o v gz, S 118 x g o v gz → sn118 x g o v gz) {a : List Int} {g : rHp} : ∀ (ρ : Nat → Int) (γ : Nat → rHp), jn153 a g 0 (zAg (zNA a153_ 0) ρ) (γ 1) → zO 7 S a g q153a0_5 ρ γ → zGl (fun i vs g1 => jn153 a g i vs g1) (sn153 a g) q153a0_5 ρ γ := by
  intro ρ γ hJ h
  obtain ⟨ha, hg, hr, hf, hm, hc, hl⟩ := h
  have ha : a = [ρ 0, ρ 1, ρ 2, ρ 3, ρ 4, ρ 5, ρ 6] := ha
  subst ha
  subst hg
  have hJ : jn153 [ρ 0, ρ 1, ρ 2, ρ 3, ρ 4, ρ 5, ρ 6] (γ 0) 0 [ρ 0, ρ 1, ρ 2, ρ 3, ρ 4, ρ 5, ρ 6, ρ 7] (γ 1) := hJ
  obtain ⟨-, -, -, -, -, -, -, -, r8, -⟩ := hr
  have r8 : (1 : Int) ≤ ρ 8 ∧ ρ 8 ≤ 1 := r8
  obtain ⟨f0, -⟩ := hf
  have f0 : (0 : Int) ≤ -ρ 7 + ρ 3 + (-1) := f0
  obtain ⟨w_0, w_1⟩ : (¬ (ρ 7 ≥ ρ 3)) ∧ (¬ (ρ 8 ≠ 1)) := ⟨by omega, by omega⟩
  obtain ⟨-, -, m2, m3, m4, m5, m6, m7, m8, -⟩ := hm
  have m2 : γ 0 10 (ρ 0) 5 = ρ 3 := m2
  have m3 : γ 0 10 (ρ 0) 12 = ρ 4 := m3
  have m4 : γ 0 10 (ρ 0) 14 = ρ 5 := m4
  have m5 : γ 0 10 (ρ 0) 15 = ρ 6 := m5
  have m6 : γ 0 43 (ρ 0) (ρ 7) = ρ 8 := m6
  have m7 : γ 0 44 (ρ 0) (ρ 7) = ρ 9 := m7
  have m8 : γ 0 45 (ρ 0) (ρ 7) = ρ 10 := m8
  obtain ⟨l0, l1, -⟩ := hl
  have l0 : sn117 [ρ 9, ρ 2] (γ 1) 0 0 (γ 2) := hS117 _ _ _ _ _ l0
  have l1 : sn109 [ρ 10, ρ 1] (γ 2) 0 0 (γ 3) := hS109 _ _ _ _ _ l1
  show sn153 [ρ 0, ρ 1, ρ 2, ρ 3, ρ 4, ρ 5, ρ 6] (γ 0) 0 0 (γ 3)
  have hD : en153 (γ 0) (0, [ρ 0, ρ 7], γ 1) = .inr (0, 0, γ 3) := by
    unfold en153
    refine (if_pos (show (0 : Nat) = 0 by decide)).trans ?_
    refine (zLet_eq (show _ = γ 1 from rfl)).trans ?_
    refine (zLet_eq (show _ = ρ 0 from rfl)).trans ?_
    refine (zLet_eq (show _ = ρ 7 from rfl)).trans ?_
    refine (zLet_eq m2).trans ?_
    refine (zLet_eq m3).trans ?_
    refine (zLet_eq m4).trans ?_
    refine (zLet_eq m5).trans ?_
    refine (if_neg w_0).trans ?_
    refine (zLet_eq m6).trans ?_
    refine (if_neg w_1).trans ?_
    refine (zLet_eq m7).trans ?_
    refine (zLet_eq (show fn117 [ρ 9] (γ 1) = (0, 0, γ 2) from l0.symm)).trans ?_
    refine (zLet_eq (show _ = γ 2 from rfl)).trans ?_
    refine (if_neg zQ0_).trans ?_
    refine (zLet_eq m8).trans ?_
    refine (zLet_eq (show fn109 [ρ 10] (γ 2) = (0, 0, γ 3) from l1.symm)).trans ?_
    refine (zLet_eq (show _ = γ 3 from rfl)).trans ?_
    rfl
  exact zGoo_aend hJ hD
theorem vn153a0_6 {S : Nat → zSpc} (hS109 : ∀ x g o v gz, S 109 x g o v gz → sn109 x g o v gz) (hS117 : ∀ x g o v gz, S 117 x g o v gz → sn117 x g o v gz) (hS118 : ∀ x g o v gz, S 118 x g o v gz → sn118 x g o v gz) {a : List Int} {g : rHp} : ∀ (ρ : Nat → Int) (γ : Nat → rHp), jn153 a g 0 (zAg (zNA a153_ 0) ρ) (γ 1) → zO 7 S a g q153a0_6 ρ γ → zGl (fun i vs g1 => jn153 a g i vs g1) (sn153 a g) q153a0_6 ρ γ := by
  intro ρ γ hJ h
  obtain ⟨ha, hg, hr, hf, hm, hc, hl⟩ := h
  have ha : a = [ρ 0, ρ 1, ρ 2, ρ 3, ρ 4, ρ 5, ρ 6] := ha
  subst ha
  subst hg
  have hJ : jn153 [ρ 0, ρ 1, ρ 2, ρ 3, ρ 4, ρ 5, ρ 6] (γ 0) 0 [ρ 0, ρ 1, ρ 2, ρ 3, ρ 4, ρ 5, ρ 6, ρ 7] (γ 1) := hJ
  obtain ⟨-, -, -, -, -, -, -, -, r8, -⟩ := hr
  have r8 : (1 : Int) ≤ ρ 8 ∧ ρ 8 ≤ 1 := r8
  obtain ⟨f0, -⟩ := hf
  have f0 : (0 : Int) ≤ -ρ 7 + ρ 3 + (-1) := f0
  obtain ⟨w_0, w_1⟩ : (¬ (ρ 7 ≥ ρ 3)) ∧ (¬ (ρ 8 ≠ 1)) := ⟨by omega, by omega⟩
  obtain ⟨-, -, m2, m3, m4, m5, m6, m7, -⟩ := hm
  have m2 : γ 0 10 (ρ 0) 5 = ρ 3 := m2
  have m3 : γ 0 10 (ρ 0) 12 = ρ 4 := m3
  have m4 : γ 0 10 (ρ 0) 14 = ρ 5 := m4
  have m5 : γ 0 10 (ρ 0) 15 = ρ 6 := m5
  have m6 : γ 0 43 (ρ 0) (ρ 7) = ρ 8 := m6
  have m7 : γ 0 44 (ρ 0) (ρ 7) = ρ 9 := m7
  obtain ⟨l0, -⟩ := hl
  have l0 : sn117 [ρ 9, ρ 2] (γ 1) 0 1 (γ 2) := hS117 _ _ _ _ _ l0
  show jn153 [ρ 0, ρ 1, ρ 2, ρ 3, ρ 4, ρ 5, ρ 6] (γ 0) 0 [ρ 0, ρ 1, ρ 2, ρ 3, ρ 4, ρ 5, ρ 6, ρ 7 + 1] (γ 2)
  have hD : en153 (γ 0) (0, [ρ 0, ρ 7], γ 1) = .inl (0, [ρ 0, ρ 7 + 1], γ 2) := by
    unfold en153
    refine (if_pos (show (0 : Nat) = 0 by decide)).trans ?_
    refine (zLet_eq (show _ = γ 1 from rfl)).trans ?_
    refine (zLet_eq (show _ = ρ 0 from rfl)).trans ?_
    refine (zLet_eq (show _ = ρ 7 from rfl)).trans ?_
    refine (zLet_eq m2).trans ?_
    refine (zLet_eq m3).trans ?_
    refine (zLet_eq m4).trans ?_
    refine (zLet_eq m5).trans ?_
    refine (if_neg w_0).trans ?_
    refine (zLet_eq m6).trans ?_
    refine (if_neg w_1).trans ?_
    refine (zLet_eq m7).trans ?_
    refine (zLet_eq (show fn117 [ρ 9] (γ 1) = (0, 1, γ 2) from l0.symm)).trans ?_
    refine (zLet_eq (show _ = γ 2 from rfl)).trans ?_
    refine (if_pos zQ1_).trans ?_
    rfl
  exact zGoo_ato hJ hD
theorem yn153 {S : Nat → zSpc} (hS109 : ∀ x g o v gz, S 109 x g o v gz → sn109 x g o v gz) (hS117 : ∀ x g o v gz, S 117 x g o v gz → sn117 x g o v gz) (hS118 : ∀ x g o v gz, S 118 x g o v gz → sn118 x g o v gz) : ∀ x g o v gz, zSem uW uT w153_.2.2.2.1 w153_.2.2.1.1.length S q153 (fun i => q153a.getD i []) (zNA a153_) x g o v gz → sn153 x g o v gz := by
  intro a g o v gz h
  exact zSem_all (l0 := q153) (las := q153a) (S := S) (J := (fun i vs g1 => jn153 a g i vs g1)) (P := sn153 a g) (fun _ => (show zAll _ [q153_0] from (zAll_c (vn153_0 hS109 hS117 hS118) zAll_n))) (fun _ => (show zAllI _ 0 [q153a0] from ⟨(show zAll _ [q153a0_0, q153a0_1, q153a0_2, q153a0_3, q153a0_4, q153a0_5, q153a0_6] from (zAll_c (vn153a0_0 hS109 hS117 hS118) (zAll_c (vn153a0_1 hS109 hS117 hS118) (zAll_c (vn153a0_2 hS109 hS117 hS118) (zAll_c (vn153a0_3 hS109 hS117 hS118) (zAll_c (vn153a0_4 hS109 hS117 hS118) (zAll_c (vn153a0_5 hS109 hS117 hS118) (zAll_c (vn153a0_6 hS109 hS117 hS118) zAll_n)))))))), trivial⟩)) h
theorem vn154_0 {S : Nat → zSpc} (hS109 : ∀ x g o v gz, S 109 x g o v gz → sn109 x g o v gz) (hS114 : ∀ x g o v gz, S 114 x g o v gz → sn114 x g o v gz) {a : List Int} {g : rHp} : ∀ (ρ : Nat → Int) (γ : Nat → rHp), zO 9 S a g q154_0 ρ γ → zGl (fun _ _ _ => True) (sn154 a g) q154_0 ρ γ := by
  intro ρ γ h
  obtain ⟨ha, hg, hr, hf, hm, hc, hl⟩ := h
  have ha : a = [ρ 0, ρ 1, ρ 2, ρ 3, ρ 4, ρ 5, ρ 6, ρ 7, ρ 8] := ha
  subst ha
  subst hg
  obtain ⟨m0, m1, m2, -, m4, -, -, -, -, m9, -⟩ := hm
  have m0 : γ 0 1 0 10 = ρ 0 := m0
  have m1 : γ 0 40 0 (ρ 0) = ρ 1 := m1
  have m2 : γ 0 9 (ρ 1) 2 = ρ 2 := m2
  have m4 : γ 0 2 0 3 = ρ 4 := m4
  have m9 : γ 1 2 0 6 = ρ 9 := m9
  obtain ⟨l0, l1, -⟩ := hl
  have l0 : sn114 [ρ 3, ρ 4] (γ 0) 0 (-1) (γ 1) := hS114 _ _ _ _ _ l0
  have l1 : sn109 [ρ 9, ρ 8] (γ 1) 0 0 (γ 2) := hS109 _ _ _ _ _ l1
  show sn154 [ρ 0, ρ 1, ρ 2, ρ 3, ρ 4, ρ 5, ρ 6, ρ 7, ρ 8] (γ 0) 0 0 (γ 2)
  refine Eq.symm ?_
  show fn154 [] (γ 0) = _
  unfold fn154
  refine (zLet_eq m0).trans ?_
  refine (zLet_eq m1).trans ?_
  refine (zLet_eq m2).trans ?_
  refine (zLet_eq m4).trans ?_
  refine (zLet_eq (show fn114 [] (γ 0) = (0, (-1), γ 1) from l0.symm)).trans ?_
  refine (zLet_eq (show _ = γ 1 from rfl)).trans ?_
  refine (if_neg zQ2_).trans ?_
  refine (zLet_eq m9).trans ?_
  refine (zLet_eq (show fn109 [ρ 9] (γ 1) = (0, 0, γ 2) from l1.symm)).trans ?_
  refine (zLet_eq (show _ = γ 2 from rfl)).trans ?_
  rfl
theorem vn154_1 {S : Nat → zSpc} (hS109 : ∀ x g o v gz, S 109 x g o v gz → sn109 x g o v gz) (hS114 : ∀ x g o v gz, S 114 x g o v gz → sn114 x g o v gz) {a : List Int} {g : rHp} : ∀ (ρ : Nat → Int) (γ : Nat → rHp), zO 9 S a g q154_1 ρ γ → zGl (fun _ _ _ => True) (sn154 a g) q154_1 ρ γ := by
  intro ρ γ h
  obtain ⟨ha, hg, hr, hf, hm, hc, hl⟩ := h
  have ha : a = [ρ 0, ρ 1, ρ 2, ρ 3, ρ 4, ρ 5, ρ 6, ρ 7, ρ 8] := ha
  subst ha
  subst hg
  obtain ⟨-, -, -, -, -, -, -, -, -, r9, -⟩ := hr
  have r9 : (60 : Int) ≤ ρ 9 ∧ ρ 9 ≤ 60 := r9
  obtain ⟨f0, -⟩ := hf
  have f0 : (0 : Int) ≤ ρ 10 + -ρ 4 + 1 := f0
  obtain ⟨w_0, w_1, w_2⟩ : ((0 : Int) ≤ ρ 9) ∧ (ρ 9 = 60) ∧ (ρ 10 + 1 ≥ ρ 4) := ⟨by omega, by omega, by omega⟩
  obtain ⟨m0, m1, m2, -, m4, -, -, -, -, m9, -⟩ := hm
  have m0 : γ 0 1 0 10 = ρ 0 := m0
  have m1 : γ 0 40 0 (ρ 0) = ρ 1 := m1
  have m2 : γ 0 9 (ρ 1) 2 = ρ 2 := m2
  have m4 : γ 0 2 0 3 = ρ 4 := m4
  have m9 : γ 1 2 0 6 = ρ 10 := m9
  obtain ⟨⟨-, c2⟩, c3⟩ := hc
  have c2 : γ 2 = rUp (γ 1) 10 (ρ 2 + 9 * ρ 1 + 1) 4 3 := c2
  have c3 : γ 3 = rUp (γ 2) 2 0 6 (ρ 10 + 1) := c3
  obtain ⟨l0, -⟩ := hl
  have l0 : sn114 [ρ 3, ρ 4] (γ 0) 0 (ρ 9) (γ 1) := hS114 _ _ _ _ _ l0
  show sn154 [ρ 0, ρ 1, ρ 2, ρ 3, ρ 4, ρ 5, ρ 6, ρ 7, ρ 8] (γ 0) 0 1 (γ 3)
  refine Eq.symm ?_
  show fn154 [] (γ 0) = _
  unfold fn154
  refine (zLet_eq m0).trans ?_
  refine (zLet_eq m1).trans ?_
  refine (zLet_eq m2).trans ?_
  refine (zLet_eq m4).trans ?_
  refine (zLet_eq (show fn114 [] (γ 0) = (0, ρ 9, γ 1) from l0.symm)).trans ?_
  refine (zLet_eq (show _ = γ 1 from rfl)).trans ?_
  refine (if_pos w_0).trans ?_
  refine (zLet_eq (show _ = ρ 9 from rfl)).trans ?_
  refine (zLet_eq m9).trans ?_
  refine (if_pos w_1).trans ?_
  refine (zLet_eq c2.symm).trans ?_
  refine (zLet_eq c3.symm).trans ?_
  refine (if_pos w_2).trans ?_
  rfl
theorem vn154_2 {S : Nat → zSpc} (hS109 : ∀ x g o v gz, S 109 x g o v gz → sn109 x g o v gz) (hS114 : ∀ x g o v gz, S 114 x g o v gz → sn114 x g o v gz) {a : List Int} {g : rHp} : ∀ (ρ : Nat → Int) (γ : Nat → rHp), zO 9 S a g q154_2 ρ γ → zGl (fun _ _ _ => True) (sn154 a g) q154_2 ρ γ := by
  intro ρ γ h
  obtain ⟨ha, hg, hr, hf, hm, hc, hl⟩ := h
  have ha : a = [ρ 0, ρ 1, ρ 2, ρ 3, ρ 4, ρ 5, ρ 6, ρ 7, ρ 8] := ha
  subst ha
  subst hg
  obtain ⟨-, -, -, -, -, -, -, -, -, r9, -, r11, -⟩ := hr
  have r9 : (60 : Int) ≤ ρ 9 ∧ ρ 9 ≤ 60 := r9
  have r11 : ((-128) : Int) ≤ ρ 11 ∧ ρ 11 ≤ 127 := r11
  obtain ⟨f0, -⟩ := hf
  have f0 : (0 : Int) ≤ -ρ 10 + ρ 4 + (-2) := f0
  obtain ⟨w_0, w_1, w_2⟩ : ((0 : Int) ≤ ρ 9) ∧ (ρ 9 = 60) ∧ (¬ (ρ 10 + 1 ≥ ρ 4)) := ⟨by omega, by omega, by omega⟩
  obtain ⟨m0, m1, m2, -, m4, -, -, -, -, m9, m10, -⟩ := hm
  have m0 : γ 0 1 0 10 = ρ 0 := m0
  have m1 : γ 0 40 0 (ρ 0) = ρ 1 := m1
  have m2 : γ 0 9 (ρ 1) 2 = ρ 2 := m2
  have m4 : γ 0 2 0 3 = ρ 4 := m4
  have m9 : γ 1 2 0 6 = ρ 10 := m9
  have m10 : γ 0 21 0 (ρ 10 + 1) = ρ 11 := m10
  obtain ⟨⟨-, c2⟩, c3⟩ := hc
  have c2 : γ 2 = rUp (γ 1) 10 (ρ 2 + 9 * ρ 1 + 1) 4 3 := c2
  have c3 : γ 3 = rUp (γ 2) 2 0 6 (ρ 10 + 1) := c3
  obtain ⟨l0, l1, -⟩ := hl
  have l0 : sn114 [ρ 3, ρ 4] (γ 0) 0 (ρ 9) (γ 1) := hS114 _ _ _ _ _ l0
  have l1 : ρ 11 ≠ 62 := l1
  have wl_0 : ρ 11 ≠ 62 := by omega
  show sn154 [ρ 0, ρ 1, ρ 2, ρ 3, ρ 4, ρ 5, ρ 6, ρ 7, ρ 8] (γ 0) 0 1 (γ 3)
  refine Eq.symm ?_
  show fn154 [] (γ 0) = _
  unfold fn154
  refine (zLet_eq m0).trans ?_
  refine (zLet_eq m1).trans ?_
  refine (zLet_eq m2).trans ?_
  refine (zLet_eq m4).trans ?_
  refine (zLet_eq (show fn114 [] (γ 0) = (0, ρ 9, γ 1) from l0.symm)).trans ?_
  refine (zLet_eq (show _ = γ 1 from rfl)).trans ?_
  refine (if_pos w_0).trans ?_
  refine (zLet_eq (show _ = ρ 9 from rfl)).trans ?_
  refine (zLet_eq m9).trans ?_
  refine (if_pos w_1).trans ?_
  refine (zLet_eq c2.symm).trans ?_
  refine (zLet_eq c3.symm).trans ?_
  refine (if_neg w_2).trans ?_
  refine (zLet_eq m10).trans ?_
  refine (if_pos wl_0).trans ?_
  rfl
theorem vn154_3 {S : Nat → zSpc} (hS109 : ∀ x g o v gz, S 109 x g o v gz → sn109 x g o v gz) (hS114 : ∀ x g o v gz, S 114 x g o v gz → sn114 x g o v gz) {a : List Int} {g : rHp} : ∀ (ρ : Nat → Int) (γ : Nat → rHp), zO 9 S a g q154_3 ρ γ → zGl (fun _ _ _ => True) (sn154 a g) q154_3 ρ γ := by
  intro ρ γ h
  obtain ⟨ha, hg, hr, hf, hm, hc, hl⟩ := h
  have ha : a = [ρ 0, ρ 1, ρ 2, ρ 3, ρ 4, ρ 5, ρ 6, ρ 7, ρ 8] := ha
  subst ha
  subst hg
  obtain ⟨-, -, -, -, -, -, -, -, -, r9, -, r11, -⟩ := hr
  have r9 : (60 : Int) ≤ ρ 9 ∧ ρ 9 ≤ 60 := r9
  have r11 : (62 : Int) ≤ ρ 11 ∧ ρ 11 ≤ 62 := r11
  obtain ⟨f0, -⟩ := hf
  have f0 : (0 : Int) ≤ -ρ 10 + ρ 4 + (-2) := f0
  obtain ⟨w_0, w_1, w_2, w_3⟩ : ((0 : Int) ≤ ρ 9) ∧ (ρ 9 = 60) ∧ (¬ (ρ 10 + 1 ≥ ρ 4)) ∧ (¬ (ρ 11 ≠ 62)) := ⟨by omega, by omega, by omega, by omega⟩
  obtain ⟨m0, m1, m2, -, m4, -, -, -, -, m9, m10, -⟩ := hm
  have m0 : γ 0 1 0 10 = ρ 0 := m0
  have m1 : γ 0 40 0 (ρ 0) = ρ 1 := m1
  have m2 : γ 0 9 (ρ 1) 2 = ρ 2 := m2
  have m4 : γ 0 2 0 3 = ρ 4 := m4
  have m9 : γ 1 2 0 6 = ρ 10 := m9
  have m10 : γ 0 21 0 (ρ 10 + 1) = ρ 11 := m10
  obtain ⟨⟨⟨⟨-, c2⟩, c3⟩, c4⟩, c5⟩ := hc
  have c2 : γ 2 = rUp (γ 1) 10 (ρ 2 + 9 * ρ 1 + 1) 4 3 := c2
  have c3 : γ 3 = rUp (γ 2) 2 0 6 (ρ 10 + 1) := c3
  have c4 : γ 4 = rUp (γ 3) 10 (ρ 2 + 9 * ρ 1 + 1) 4 5 := c4
  have c5 : γ 5 = rUp (γ 4) 2 0 6 (ρ 10 + 2) := c5
  obtain ⟨l0, -⟩ := hl
  have l0 : sn114 [ρ 3, ρ 4] (γ 0) 0 (ρ 9) (γ 1) := hS114 _ _ _ _ _ l0
  show sn154 [ρ 0, ρ 1, ρ 2, ρ 3, ρ 4, ρ 5, ρ 6, ρ 7, ρ 8] (γ 0) 0 1 (γ 5)
  refine Eq.symm ?_
  show fn154 [] (γ 0) = _
  unfold fn154
  refine (zLet_eq m0).trans ?_
  refine (zLet_eq m1).trans ?_
  refine (zLet_eq m2).trans ?_
  refine (zLet_eq m4).trans ?_
  refine (zLet_eq (show fn114 [] (γ 0) = (0, ρ 9, γ 1) from l0.symm)).trans ?_
  refine (zLet_eq (show _ = γ 1 from rfl)).trans ?_
  refine (if_pos w_0).trans ?_
  refine (zLet_eq (show _ = ρ 9 from rfl)).trans ?_
  refine (zLet_eq m9).trans ?_
  refine (if_pos w_1).trans ?_
  refine (zLet_eq c2.symm).trans ?_
  refine (zLet_eq c3.symm).trans ?_
  refine (if_neg w_2).trans ?_
  refine (zLet_eq m10).trans ?_
  refine (if_neg w_3).trans ?_
  refine (zLet_eq c4.symm).trans ?_
  refine (zLet_eq c5.symm).trans ?_
  rfl
theorem vn154_4 {S : Nat → zSpc} (hS109 : ∀ x g o v gz, S 109 x g o v gz → sn109 x g o v gz) (hS114 : ∀ x g o v gz, S 114 x g o v gz → sn114 x g o v gz) {a : List Int} {g : rHp} : ∀ (ρ : Nat → Int) (γ : Nat → rHp), zO 9 S a g q154_4 ρ γ → zGl (fun _ _ _ => True) (sn154 a g) q154_4 ρ γ := by
  intro ρ γ h
  obtain ⟨ha, hg, hr, hf, hm, hc, hl⟩ := h
  have ha : a = [ρ 0, ρ 1, ρ 2, ρ 3, ρ 4, ρ 5, ρ 6, ρ 7, ρ 8] := ha
  subst ha
  subst hg
  obtain ⟨-, -, -, -, -, -, -, -, -, r9, -⟩ := hr
  have r9 : (61 : Int) ≤ ρ 9 ∧ ρ 9 ≤ 61 := r9
  obtain ⟨w_0, w_1, w_2⟩ : ((0 : Int) ≤ ρ 9) ∧ (¬ (ρ 9 = 60)) ∧ (ρ 9 = 61) := ⟨by omega, by omega, by omega⟩
  obtain ⟨m0, m1, m2, -, m4, -, -, -, -, m9, -⟩ := hm
  have m0 : γ 0 1 0 10 = ρ 0 := m0
  have m1 : γ 0 40 0 (ρ 0) = ρ 1 := m1
  have m2 : γ 0 9 (ρ 1) 2 = ρ 2 := m2
  have m4 : γ 0 2 0 3 = ρ 4 := m4
  have m9 : γ 1 2 0 6 = ρ 10 := m9
  obtain ⟨⟨-, c2⟩, c3⟩ := hc
  have c2 : γ 2 = rUp (γ 1) 10 (ρ 2 + 9 * ρ 1 + 1) 4 4 := c2
  have c3 : γ 3 = rUp (γ 2) 2 0 6 (ρ 10 + 1) := c3
  obtain ⟨l0, l1, -⟩ := hl
  have l0 : sn114 [ρ 3, ρ 4] (γ 0) 0 (ρ 9) (γ 1) := hS114 _ _ _ _ _ l0
  have l1 : ρ 9 ≠ 60 := l1
  show sn154 [ρ 0, ρ 1, ρ 2, ρ 3, ρ 4, ρ 5, ρ 6, ρ 7, ρ 8] (γ 0) 0 1 (γ 3)
  refine Eq.symm ?_
  show fn154 [] (γ 0) = _
  unfold fn154
  refine (zLet_eq m0).trans ?_
  refine (zLet_eq m1).trans ?_
  refine (zLet_eq m2).trans ?_
  refine (zLet_eq m4).trans ?_
  refine (zLet_eq (show fn114 [] (γ 0) = (0, ρ 9, γ 1) from l0.symm)).trans ?_
  refine (zLet_eq (show _ = γ 1 from rfl)).trans ?_
  refine (if_pos w_0).trans ?_
  refine (zLet_eq (show _ = ρ 9 from rfl)).trans ?_
  refine (zLet_eq m9).trans ?_
  refine (if_neg w_1).trans ?_
  refine (if_pos w_2).trans ?_
  refine (zLet_eq c2.symm).trans ?_
  refine (zLet_eq c3.symm).trans ?_
  rfl
theorem vn154_5 {S : Nat → zSpc} (hS109 : ∀ x g o v gz, S 109 x g o v gz → sn109 x g o v gz) (hS114 : ∀ x g o v gz, S 114 x g o v gz → sn114 x g o v gz) {a : List Int} {g : rHp} : ∀ (ρ : Nat → Int) (γ : Nat → rHp), zO 9 S a g q154_5 ρ γ → zGl (fun _ _ _ => True) (sn154 a g) q154_5 ρ γ := by
  intro ρ γ h
  obtain ⟨ha, hg, hr, hf, hm, hc, hl⟩ := h
  have ha : a = [ρ 0, ρ 1, ρ 2, ρ 3, ρ 4, ρ 5, ρ 6, ρ 7, ρ 8] := ha
  subst ha
  subst hg
  obtain ⟨-, -, -, -, -, -, -, -, -, r9, -⟩ := hr
  have r9 : (0 : Int) ≤ ρ 9 ∧ ρ 9 ≤ 255 := r9
  have w_0 : (0 : Int) ≤ ρ 9 := by omega
  obtain ⟨m0, m1, m2, -, m4, -, -, -, -, m9, -⟩ := hm
  have m0 : γ 0 1 0 10 = ρ 0 := m0
  have m1 : γ 0 40 0 (ρ 0) = ρ 1 := m1
  have m2 : γ 0 9 (ρ 1) 2 = ρ 2 := m2
  have m4 : γ 0 2 0 3 = ρ 4 := m4
  have m9 : γ 1 2 0 6 = ρ 10 := m9
  obtain ⟨l0, l1, l2, l3, -⟩ := hl
  have l0 : sn114 [ρ 3, ρ 4] (γ 0) 0 (ρ 9) (γ 1) := hS114 _ _ _ _ _ l0
  have l1 : ρ 9 ≠ 60 := l1
  have l2 : ρ 9 ≠ 61 := l2
  have l3 : sn109 [ρ 10, ρ 8] (γ 1) 0 0 (γ 2) := hS109 _ _ _ _ _ l3
  obtain ⟨wl_0, wl_1⟩ : (¬ (ρ 9 = 60)) ∧ (¬ (ρ 9 = 61)) := ⟨by omega, by omega⟩
  show sn154 [ρ 0, ρ 1, ρ 2, ρ 3, ρ 4, ρ 5, ρ 6, ρ 7, ρ 8] (γ 0) 0 0 (γ 2)
  refine Eq.symm ?_
  show fn154 [] (γ 0) = _
  unfold fn154
  refine (zLet_eq m0).trans ?_
  refine (zLet_eq m1).trans ?_
  refine (zLet_eq m2).trans ?_
  refine (zLet_eq m4).trans ?_
  refine (zLet_eq (show fn114 [] (γ 0) = (0, ρ 9, γ 1) from l0.symm)).trans ?_
  refine (zLet_eq (show _ = γ 1 from rfl)).trans ?_
  refine (if_pos w_0).trans ?_
  refine (zLet_eq (show _ = ρ 9 from rfl)).trans ?_
  refine (zLet_eq m9).trans ?_
  refine (if_neg wl_0).trans ?_
  refine (if_neg wl_1).trans ?_
  refine (zLet_eq (show fn109 [ρ 10] (γ 1) = (0, 0, γ 2) from l3.symm)).trans ?_
  refine (zLet_eq (show _ = γ 2 from rfl)).trans ?_
  rfl
theorem yn154 {S : Nat → zSpc} (hS109 : ∀ x g o v gz, S 109 x g o v gz → sn109 x g o v gz) (hS114 : ∀ x g o v gz, S 114 x g o v gz → sn114 x g o v gz) : ∀ x g o v gz, zSem uW uT w154_.2.2.2.1 w154_.2.2.1.1.length S q154 (fun i => q154a.getD i []) (zNA a154_) x g o v gz → sn154 x g o v gz := by
  intro a g o v gz h
  exact zSem_all (l0 := q154) (las := q154a) (S := S) (J := (fun _ _ _ => True)) (P := sn154 a g) (fun _ => (show zAll _ [q154_0, q154_1, q154_2, q154_3, q154_4, q154_5] from (zAll_c (vn154_0 hS109 hS114) (zAll_c (vn154_1 hS109 hS114) (zAll_c (vn154_2 hS109 hS114) (zAll_c (vn154_3 hS109 hS114) (zAll_c (vn154_4 hS109 hS114) (zAll_c (vn154_5 hS109 hS114) zAll_n)))))))) (fun _ => (show zAllI _ 0 [] from trivial)) h
theorem vn155_0 {S : Nat → zSpc} (hS103 : ∀ x g o v gz, S 103 x g o v gz → sn103 x g o v gz) (hS138 : ∀ x g o v gz, S 138 x g o v gz → sn138 x g o v gz) (hS139 : ∀ x g o v gz, S 139 x g o v gz → sn139 x g o v gz) (hS154 : ∀ x g o v gz, S 154 x g o v gz → sn154 x g o v gz) {a : List Int} {g : rHp} : ∀ (ρ : Nat → Int) (γ : Nat → rHp), zO 20 S a g q155_0 ρ γ → zGl (fun _ _ _ => True) (sn155 a g) q155_0 ρ γ := by
  intro ρ γ h
  obtain ⟨ha, hg, hr, hf, hm, hc, hl⟩ := h
  have ha : a = [ρ 0, ρ 1, ρ 2, ρ 3, ρ 4, ρ 5, ρ 6, ρ 7, ρ 8, ρ 9, ρ 10, ρ 11, ρ 12, ρ 13, ρ 14, ρ 15, ρ 16, ρ 17, ρ 18, ρ 19] := ha
  subst ha
  subst hg
  obtain ⟨m0, m1, m2, -⟩ := hm
  have m0 : γ 0 1 0 10 = ρ 2 := m0
  have m1 : γ 0 40 0 (ρ 2) = ρ 3 := m1
  have m2 : γ 0 9 (ρ 3) 2 = ρ 4 := m2
  obtain ⟨l0, l1, -⟩ := hl
  have l0 : sn103 [4, 0, ρ 1, ρ 2, ρ 3, ρ 4, ρ 8, ρ 9, ρ 7, ρ 15, ρ 16, ρ 17, ρ 18, ρ 19] (γ 0) 0 0 (γ 1) := hS103 _ _ _ _ _ l0
  have l1 : sn154 [ρ 2, ρ 3, ρ 4, ρ 5, ρ 6, 4, ρ 8, ρ 9, ρ 10] (γ 1) 0 0 (γ 2) := hS154 _ _ _ _ _ l1
  show sn155 [ρ 0, ρ 1, ρ 2, ρ 3, ρ 4, ρ 5, ρ 6, ρ 7, ρ 8, ρ 9, ρ 10, ρ 11, ρ 12, ρ 13, ρ 14, ρ 15, ρ 16, ρ 17, ρ 18, ρ 19] (γ 0) 0 0 (γ 2)
  refine Eq.symm ?_
  show fn155 [ρ 0, ρ 1] (γ 0) = _
  unfold fn155
  refine (zLet_eq (show _ = ρ 0 from rfl)).trans ?_
  refine (zLet_eq (show _ = ρ 1 from rfl)).trans ?_
  refine (zLet_eq m0).trans ?_
  refine (zLet_eq m1).trans ?_
  refine (zLet_eq m2).trans ?_
  refine (zLet_eq (show fn103 [4, 0, ρ 1] (γ 0) = (0, 0, γ 1) from l0.symm)).trans ?_
  refine (zLet_eq (show _ = γ 1 from rfl)).trans ?_
  refine (zLet_eq (show fn154 [] (γ 1) = (0, 0, γ 2) from l1.symm)).trans ?_
  refine (zLet_eq (show _ = γ 2 from rfl)).trans ?_
  refine (if_neg zQ0_).trans ?_
  rfl
theorem vn155_1 {S : Nat → zSpc} (hS103 : ∀ x g o v gz, S 103 x g o v gz → sn103 x g o v gz) (hS138 : ∀ x g o v gz, S 138 x g o v gz → sn138 x g o v gz) (hS139 : ∀ x g o v gz, S 139 x g o v gz → sn139 x g o v gz) (hS154 : ∀ x g o v gz, S 154 x g o v gz → sn154 x g o v gz) {a : List Int} {g : rHp} : ∀ (ρ : Nat → Int) (γ : Nat → rHp), zO 20 S a g q155_1 ρ γ → zGl (fun _ _ _ => True) (sn155 a g) q155_1 ρ γ := by
  intro ρ γ h
  obtain ⟨ha, hg, hr, hf, hm, hc, hl⟩ := h
  have ha : a = [ρ 0, ρ 1, ρ 2, ρ 3, ρ 4, ρ 5, ρ 6, ρ 7, ρ 8, ρ 9, ρ 10, ρ 11, ρ 12, ρ 13, ρ 14, ρ 15, ρ 16, ρ 17, ρ 18, ρ 19] := ha
  subst ha
  subst hg
  obtain ⟨m0, m1, m2, -⟩ := hm
  have m0 : γ 0 1 0 10 = ρ 2 := m0
  have m1 : γ 0 40 0 (ρ 2) = ρ 3 := m1
  have m2 : γ 0 9 (ρ 3) 2 = ρ 4 := m2
  obtain ⟨l0, l1, l2, -⟩ := hl
  have l0 : sn103 [4, 0, ρ 1, ρ 2, ρ 3, ρ 4, ρ 8, ρ 9, ρ 7, ρ 15, ρ 16, ρ 17, ρ 18, ρ 19] (γ 0) 0 0 (γ 1) := hS103 _ _ _ _ _ l0
  have l1 : sn154 [ρ 2, ρ 3, ρ 4, ρ 5, ρ 6, 4, ρ 8, ρ 9, ρ 10] (γ 1) 0 1 (γ 2) := hS154 _ _ _ _ _ l1
  have l2 : sn138 [ρ 4 + 9 * ρ 3 + 1, ρ 0, ρ 1, ρ 20, ρ 6, 0, ρ 10, ρ 11, ρ 13] (γ 2) 0 0 (γ 3) := hS138 _ _ _ _ _ l2
  show sn155 [ρ 0, ρ 1, ρ 2, ρ 3, ρ 4, ρ 5, ρ 6, ρ 7, ρ 8, ρ 9, ρ 10, ρ 11, ρ 12, ρ 13, ρ 14, ρ 15, ρ 16, ρ 17, ρ 18, ρ 19] (γ 0) 0 0 (γ 3)
  refine Eq.symm ?_
  show fn155 [ρ 0, ρ 1] (γ 0) = _
  unfold fn155
  refine (zLet_eq (show _ = ρ 0 from rfl)).trans ?_
  refine (zLet_eq (show _ = ρ 1 from rfl)).trans ?_
  refine (zLet_eq m0).trans ?_
  refine (zLet_eq m1).trans ?_
  refine (zLet_eq m2).trans ?_
  refine (zLet_eq (show fn103 [4, 0, ρ 1] (γ 0) = (0, 0, γ 1) from l0.symm)).trans ?_
  refine (zLet_eq (show _ = γ 1 from rfl)).trans ?_
  refine (zLet_eq (show fn154 [] (γ 1) = (0, 1, γ 2) from l1.symm)).trans ?_
  refine (zLet_eq (show _ = γ 2 from rfl)).trans ?_
  refine (if_pos zQ1_).trans ?_
  refine (zLet_eq (show fn138 [ρ 4 + 9 * ρ 3 + 1, ρ 0, ρ 1] (γ 2) = (0, 0, γ 3) from l2.symm)).trans ?_
  refine (zLet_eq (show _ = γ 3 from rfl)).trans ?_
  refine (if_neg zQ0_).trans ?_
  rfl
theorem vn155_2 {S : Nat → zSpc} (hS103 : ∀ x g o v gz, S 103 x g o v gz → sn103 x g o v gz) (hS138 : ∀ x g o v gz, S 138 x g o v gz → sn138 x g o v gz) (hS139 : ∀ x g o v gz, S 139 x g o v gz → sn139 x g o v gz) (hS154 : ∀ x g o v gz, S 154 x g o v gz → sn154 x g o v gz) {a : List Int} {g : rHp} : ∀ (ρ : Nat → Int) (γ : Nat → rHp), zO 20 S a g q155_2 ρ γ → zGl (fun _ _ _ => True) (sn155 a g) q155_2 ρ γ := by
  intro ρ γ h
  obtain ⟨ha, hg, hr, hf, hm, hc, hl⟩ := h
  have ha : a = [ρ 0, ρ 1, ρ 2, ρ 3, ρ 4, ρ 5, ρ 6, ρ 7, ρ 8, ρ 9, ρ 10, ρ 11, ρ 12, ρ 13, ρ 14, ρ 15, ρ 16, ρ 17, ρ 18, ρ 19] := ha
  subst ha
  subst hg
  obtain ⟨m0, m1, m2, -⟩ := hm
  have m0 : γ 0 1 0 10 = ρ 2 := m0
  have m1 : γ 0 40 0 (ρ 2) = ρ 3 := m1
  have m2 : γ 0 9 (ρ 3) 2 = ρ 4 := m2
  obtain ⟨l0, l1, l2, l3, -⟩ := hl
  have l0 : sn103 [4, 0, ρ 1, ρ 2, ρ 3, ρ 4, ρ 8, ρ 9, ρ 7, ρ 15, ρ 16, ρ 17, ρ 18, ρ 19] (γ 0) 0 0 (γ 1) := hS103 _ _ _ _ _ l0
  have l1 : sn154 [ρ 2, ρ 3, ρ 4, ρ 5, ρ 6, 4, ρ 8, ρ 9, ρ 10] (γ 1) 0 1 (γ 2) := hS154 _ _ _ _ _ l1
  have l2 : sn138 [ρ 4 + 9 * ρ 3 + 1, ρ 0, ρ 1, ρ 20, ρ 6, 0, ρ 10, ρ 11, ρ 13] (γ 2) 0 1 (γ 3) := hS138 _ _ _ _ _ l2
  have l3 : sn139 [ρ 4 + 9 * ρ 3 + 1, ρ 20, ρ 6, ρ 22, ρ 10, ρ 11, ρ 12, ρ 13, ρ 14] (γ 3) 0 0 (γ 4) := hS139 _ _ _ _ _ l3
  show sn155 [ρ 0, ρ 1, ρ 2, ρ 3, ρ 4, ρ 5, ρ 6, ρ 7, ρ 8, ρ 9, ρ 10, ρ 11, ρ 12, ρ 13, ρ 14, ρ 15, ρ 16, ρ 17, ρ 18, ρ 19] (γ 0) 0 0 (γ 4)
  refine Eq.symm ?_
  show fn155 [ρ 0, ρ 1] (γ 0) = _
  unfold fn155
  refine (zLet_eq (show _ = ρ 0 from rfl)).trans ?_
  refine (zLet_eq (show _ = ρ 1 from rfl)).trans ?_
  refine (zLet_eq m0).trans ?_
  refine (zLet_eq m1).trans ?_
  refine (zLet_eq m2).trans ?_
  refine (zLet_eq (show fn103 [4, 0, ρ 1] (γ 0) = (0, 0, γ 1) from l0.symm)).trans ?_
  refine (zLet_eq (show _ = γ 1 from rfl)).trans ?_
  refine (zLet_eq (show fn154 [] (γ 1) = (0, 1, γ 2) from l1.symm)).trans ?_
  refine (zLet_eq (show _ = γ 2 from rfl)).trans ?_
  refine (if_pos zQ1_).trans ?_
  refine (zLet_eq (show fn138 [ρ 4 + 9 * ρ 3 + 1, ρ 0, ρ 1] (γ 2) = (0, 1, γ 3) from l2.symm)).trans ?_
  refine (zLet_eq (show _ = γ 3 from rfl)).trans ?_
  refine (if_pos zQ1_).trans ?_
  refine (zLet_eq (show fn139 [ρ 4 + 9 * ρ 3 + 1] (γ 3) = (0, 0, γ 4) from l3.symm)).trans ?_
  refine (zLet_eq (show _ = γ 4 from rfl)).trans ?_
  refine (if_neg zQ0_).trans ?_
  rfl
theorem vn155_3 {S : Nat → zSpc} (hS103 : ∀ x g o v gz, S 103 x g o v gz → sn103 x g o v gz) (hS138 : ∀ x g o v gz, S 138 x g o v gz → sn138 x g o v gz) (hS139 : ∀ x g o v gz, S 139 x g o v gz → sn139 x g o v gz) (hS154 : ∀ x g o v gz, S 154 x g o v gz → sn154 x g o v gz) {a : List Int} {g : rHp} : ∀ (ρ : Nat → Int) (γ : Nat → rHp), zO 20 S a g q155_3 ρ γ → zGl (fun _ _ _ => True) (sn155 a g) q155_3 ρ γ := by
  intro ρ γ h
  obtain ⟨ha, hg, hr, hf, hm, hc, hl⟩ := h
  have ha : a = [ρ 0, ρ 1, ρ 2, ρ 3, ρ 4, ρ 5, ρ 6, ρ 7, ρ 8, ρ 9, ρ 10, ρ 11, ρ 12, ρ 13, ρ 14, ρ 15, ρ 16, ρ 17, ρ 18, ρ 19] := ha
  subst ha
  subst hg
  obtain ⟨m0, m1, m2, -⟩ := hm
  have m0 : γ 0 1 0 10 = ρ 2 := m0
  have m1 : γ 0 40 0 (ρ 2) = ρ 3 := m1
  have m2 : γ 0 9 (ρ 3) 2 = ρ 4 := m2
  obtain ⟨l0, l1, l2, l3, -⟩ := hl
  have l0 : sn103 [4, 0, ρ 1, ρ 2, ρ 3, ρ 4, ρ 8, ρ 9, ρ 7, ρ 15, ρ 16, ρ 17, ρ 18, ρ 19] (γ 0) 0 0 (γ 1) := hS103 _ _ _ _ _ l0
  have l1 : sn154 [ρ 2, ρ 3, ρ 4, ρ 5, ρ 6, 4, ρ 8, ρ 9, ρ 10] (γ 1) 0 1 (γ 2) := hS154 _ _ _ _ _ l1
  have l2 : sn138 [ρ 4 + 9 * ρ 3 + 1, ρ 0, ρ 1, ρ 20, ρ 6, 0, ρ 10, ρ 11, ρ 13] (γ 2) 0 1 (γ 3) := hS138 _ _ _ _ _ l2
  have l3 : sn139 [ρ 4 + 9 * ρ 3 + 1, ρ 20, ρ 6, ρ 22, ρ 10, ρ 11, ρ 12, ρ 13, ρ 14] (γ 3) 0 1 (γ 4) := hS139 _ _ _ _ _ l3
  show sn155 [ρ 0, ρ 1, ρ 2, ρ 3, ρ 4, ρ 5, ρ 6, ρ 7, ρ 8, ρ 9, ρ 10, ρ 11, ρ 12, ρ 13, ρ 14, ρ 15, ρ 16, ρ 17, ρ 18, ρ 19] (γ 0) 0 1 (γ 4)
  refine Eq.symm ?_
  show fn155 [ρ 0, ρ 1] (γ 0) = _
  unfold fn155
  refine (zLet_eq (show _ = ρ 0 from rfl)).trans ?_
  refine (zLet_eq (show _ = ρ 1 from rfl)).trans ?_
  refine (zLet_eq m0).trans ?_
  refine (zLet_eq m1).trans ?_
  refine (zLet_eq m2).trans ?_
  refine (zLet_eq (show fn103 [4, 0, ρ 1] (γ 0) = (0, 0, γ 1) from l0.symm)).trans ?_
  refine (zLet_eq (show _ = γ 1 from rfl)).trans ?_
  refine (zLet_eq (show fn154 [] (γ 1) = (0, 1, γ 2) from l1.symm)).trans ?_
  refine (zLet_eq (show _ = γ 2 from rfl)).trans ?_
  refine (if_pos zQ1_).trans ?_
  refine (zLet_eq (show fn138 [ρ 4 + 9 * ρ 3 + 1, ρ 0, ρ 1] (γ 2) = (0, 1, γ 3) from l2.symm)).trans ?_
  refine (zLet_eq (show _ = γ 3 from rfl)).trans ?_
  refine (if_pos zQ1_).trans ?_
  refine (zLet_eq (show fn139 [ρ 4 + 9 * ρ 3 + 1] (γ 3) = (0, 1, γ 4) from l3.symm)).trans ?_
  refine (zLet_eq (show _ = γ 4 from rfl)).trans ?_
  refine (if_pos zQ1_).trans ?_
  rfl
theorem yn155 {S : Nat → zSpc} (hS103 : ∀ x g o v gz, S 103 x g o v gz → sn103 x g o v gz) (hS138 : ∀ x g o v gz, S 138 x g o v gz → sn138 x g o v gz) (hS139 : ∀ x g o v gz, S 139 x g o v gz → sn139 x g o v gz) (hS154 : ∀ x g o v gz, S 154 x g o v gz → sn154 x g o v gz) : ∀ x g o v gz, zSem uW uT w155_.2.2.2.1 w155_.2.2.1.1.length S q155 (fun i => q155a.getD i []) (zNA a155_) x g o v gz → sn155 x g o v gz := by
  intro a g o v gz h
  exact zSem_all (l0 := q155) (las := q155a) (S := S) (J := (fun _ _ _ => True)) (P := sn155 a g) (fun _ => (show zAll _ [q155_0, q155_1, q155_2, q155_3] from (zAll_c (vn155_0 hS103 hS138 hS139 hS154) (zAll_c (vn155_1 hS103 hS138 hS139 hS154) (zAll_c (vn155_2 hS103 hS138 hS139 hS154) (zAll_c (vn155_3 hS103 hS138 hS139 hS154) zAll_n)))))) (fun _ => (show zAllI _ 0 [] from trivial)) h
