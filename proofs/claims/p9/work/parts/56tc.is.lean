/-! ===== the runs are the functions ===== -/
theorem vn75_0 {S : Nat → zSpc} (hS57 : ∀ x g o v gz, S 57 x g o v gz → sn57 x g o v gz) (hS73 : ∀ x g o v gz, S 73 x g o v gz → sn73 x g o v gz) {a : List Int} {g : rHp} : ∀ (ρ : Nat → Int) (γ : Nat → rHp), zO 15 S a g q75_0 ρ γ → zGl (fun i vs g1 => jn75 a g i vs g1) (sn75 a g) q75_0 ρ γ := by
  intro ρ γ h
  obtain ⟨ha, hg, hr, hf, hm, hc, hl⟩ := h
  have ha : a = [ρ 0, ρ 1, ρ 2, ρ 3, ρ 4, ρ 5, ρ 6, ρ 7, ρ 8, ρ 9, ρ 10, ρ 11, ρ 12, ρ 13, ρ 14] := ha
  subst ha
  subst hg
  obtain ⟨-, -, -, -, -, -, -, -, m8, -⟩ := hm
  have m8 : γ 0 15 0 71 = ρ 9 := m8
  obtain ⟨⟨⟨⟨-, c1⟩, c2⟩, c3⟩, -⟩ := hc
  have c1 : γ 1 = rUp (γ 0) 15 0 90 0 := c1
  have c2 : γ 2 = rUp (γ 1) 15 0 81 (ρ 9) := c2
  have c3 : γ 3 = rUp (γ 2) 15 0 84 0 := c3
  obtain ⟨l0, -⟩ := hl
  have l0 : sn73 [ρ 0, ρ 15, ρ 1, ρ 4, ρ 5, ρ 14, ρ 3, ρ 8, ρ 9, ρ 9, ρ 12, ρ 13, 0] (γ 3) 0 0 (γ 4) := hS73 _ _ _ _ _ l0
  show jn75 [ρ 0, ρ 1, ρ 2, ρ 3, ρ 4, ρ 5, ρ 6, ρ 7, ρ 8, ρ 9, ρ 10, ρ 11, ρ 12, ρ 13, ρ 14] (γ 0) 0 [ρ 0, ρ 1, ρ 2, ρ 3, ρ 4, ρ 5, ρ 6, ρ 7, ρ 8, ρ 9, ρ 10, ρ 11, ρ 12, ρ 13, ρ 14, 0, ρ 16, ρ 17, ρ 18, ρ 9] (γ 4)
  have hD : dn75 [ρ 0] (γ 0) = .inl (0, [ρ 0, 0], γ 4) := by
    unfold dn75
    refine (zLet_eq (show _ = ρ 0 from rfl)).trans ?_
    refine (zLet_eq m8).trans ?_
    refine (zLet_eq c1.symm).trans ?_
    refine (zLet_eq c2.symm).trans ?_
    refine (zLet_eq c3.symm).trans ?_
    refine (zLet_eq (show fn73 [ρ 0] (γ 3) = (0, 0, γ 4) from l0.symm)).trans ?_
    refine (zLet_eq (show _ = γ 4 from rfl)).trans ?_
    rfl
  exact zGoo_to hD
theorem vn75a0_0 {S : Nat → zSpc} (hS57 : ∀ x g o v gz, S 57 x g o v gz → sn57 x g o v gz) (hS73 : ∀ x g o v gz, S 73 x g o v gz → sn73 x g o v gz) {a : List Int} {g : rHp} : ∀ (ρ : Nat → Int) (γ : Nat → rHp), jn75 a g 0 (zAg (zNA a75_ 0) ρ) (γ 1) → zO 15 S a g q75a0_0 ρ γ → zGl (fun i vs g1 => jn75 a g i vs g1) (sn75 a g) q75a0_0 ρ γ := by
  intro ρ γ hJ h
  obtain ⟨ha, hg, hr, hf, hm, hc, hl⟩ := h
  have ha : a = [ρ 0, ρ 1, ρ 2, ρ 3, ρ 4, ρ 5, ρ 6, ρ 7, ρ 8, ρ 9, ρ 10, ρ 11, ρ 12, ρ 13, ρ 14] := ha
  subst ha
  subst hg
  have hJ : jn75 [ρ 0, ρ 1, ρ 2, ρ 3, ρ 4, ρ 5, ρ 6, ρ 7, ρ 8, ρ 9, ρ 10, ρ 11, ρ 12, ρ 13, ρ 14] (γ 0) 0 [ρ 0, ρ 1, ρ 2, ρ 3, ρ 4, ρ 5, ρ 6, ρ 7, ρ 8, ρ 9, ρ 10, ρ 11, ρ 12, ρ 13, ρ 14, ρ 15, ρ 16, ρ 17, ρ 18, ρ 19] (γ 1) := hJ
  obtain ⟨f0, -⟩ := hf
  have f0 : (0 : Int) ≤ -ρ 18 + ρ 15 := f0
  have w_0 : ρ 15 ≥ ρ 18 := by omega
  obtain ⟨-, -, m2, -, -, -, m6, -, -, -, -, -, -, -, -, m15, m16, -⟩ := hm
  have m2 : γ 0 71 0 (ρ 0) = ρ 3 := m2
  have m6 : γ 0 69 0 (ρ 0) = ρ 7 := m6
  have m15 : γ 1 15 0 77 = ρ 17 := m15
  have m16 : γ 1 15 0 90 = ρ 18 := m16
  show sn75 [ρ 0, ρ 1, ρ 2, ρ 3, ρ 4, ρ 5, ρ 6, ρ 7, ρ 8, ρ 9, ρ 10, ρ 11, ρ 12, ρ 13, ρ 14] (γ 0) 0 0 (γ 1)
  have hD : en75 (γ 0) (0, [ρ 0, ρ 15], γ 1) = .inr (0, 0, γ 1) := by
    unfold en75
    refine (if_pos (show (0 : Nat) = 0 by decide)).trans ?_
    refine (zLet_eq (show _ = γ 1 from rfl)).trans ?_
    refine (zLet_eq (show _ = ρ 0 from rfl)).trans ?_
    refine (zLet_eq (show _ = ρ 15 from rfl)).trans ?_
    refine (zLet_eq m2).trans ?_
    refine (zLet_eq m6).trans ?_
    refine (zLet_eq m15).trans ?_
    refine (zLet_eq m16).trans ?_
    refine (if_pos w_0).trans ?_
    rfl
  exact zGoo_aend hJ hD
theorem vn75a0_1 {S : Nat → zSpc} (hS57 : ∀ x g o v gz, S 57 x g o v gz → sn57 x g o v gz) (hS73 : ∀ x g o v gz, S 73 x g o v gz → sn73 x g o v gz) {a : List Int} {g : rHp} : ∀ (ρ : Nat → Int) (γ : Nat → rHp), jn75 a g 0 (zAg (zNA a75_ 0) ρ) (γ 1) → zO 15 S a g q75a0_1 ρ γ → zGl (fun i vs g1 => jn75 a g i vs g1) (sn75 a g) q75a0_1 ρ γ := by
  intro ρ γ hJ h
  obtain ⟨ha, hg, hr, hf, hm, hc, hl⟩ := h
  have ha : a = [ρ 0, ρ 1, ρ 2, ρ 3, ρ 4, ρ 5, ρ 6, ρ 7, ρ 8, ρ 9, ρ 10, ρ 11, ρ 12, ρ 13, ρ 14] := ha
  subst ha
  subst hg
  have hJ : jn75 [ρ 0, ρ 1, ρ 2, ρ 3, ρ 4, ρ 5, ρ 6, ρ 7, ρ 8, ρ 9, ρ 10, ρ 11, ρ 12, ρ 13, ρ 14] (γ 0) 0 [ρ 0, ρ 1, ρ 2, ρ 3, ρ 4, ρ 5, ρ 6, ρ 7, ρ 8, ρ 9, ρ 10, ρ 11, ρ 12, ρ 13, ρ 14, ρ 15, ρ 16, ρ 17, ρ 18, ρ 19] (γ 1) := hJ
  obtain ⟨-, -, -, -, -, -, -, -, -, -, -, -, -, -, -, -, -, r17, -⟩ := hr
  have r17 : (1 : Int) ≤ ρ 17 ∧ ρ 17 ≤ 3 := r17
  obtain ⟨f0, -⟩ := hf
  have f0 : (0 : Int) ≤ ρ 18 + -ρ 15 + (-1) := f0
  obtain ⟨w_0, w_1⟩ : (¬ (ρ 15 ≥ ρ 18)) ∧ (ρ 17 ≠ 0) := ⟨by omega, by omega⟩
  obtain ⟨-, -, m2, -, -, -, m6, -, -, -, -, -, -, -, -, m15, m16, -⟩ := hm
  have m2 : γ 0 71 0 (ρ 0) = ρ 3 := m2
  have m6 : γ 0 69 0 (ρ 0) = ρ 7 := m6
  have m15 : γ 1 15 0 77 = ρ 17 := m15
  have m16 : γ 1 15 0 90 = ρ 18 := m16
  show sn75 [ρ 0, ρ 1, ρ 2, ρ 3, ρ 4, ρ 5, ρ 6, ρ 7, ρ 8, ρ 9, ρ 10, ρ 11, ρ 12, ρ 13, ρ 14] (γ 0) 0 0 (γ 1)
  have hD : en75 (γ 0) (0, [ρ 0, ρ 15], γ 1) = .inr (0, 0, γ 1) := by
    unfold en75
    refine (if_pos (show (0 : Nat) = 0 by decide)).trans ?_
    refine (zLet_eq (show _ = γ 1 from rfl)).trans ?_
    refine (zLet_eq (show _ = ρ 0 from rfl)).trans ?_
    refine (zLet_eq (show _ = ρ 15 from rfl)).trans ?_
    refine (zLet_eq m2).trans ?_
    refine (zLet_eq m6).trans ?_
    refine (zLet_eq m15).trans ?_
    refine (zLet_eq m16).trans ?_
    refine (if_neg w_0).trans ?_
    refine (if_pos w_1).trans ?_
    rfl
  exact zGoo_aend hJ hD
theorem vn75a0_2 {S : Nat → zSpc} (hS57 : ∀ x g o v gz, S 57 x g o v gz → sn57 x g o v gz) (hS73 : ∀ x g o v gz, S 73 x g o v gz → sn73 x g o v gz) {a : List Int} {g : rHp} : ∀ (ρ : Nat → Int) (γ : Nat → rHp), jn75 a g 0 (zAg (zNA a75_ 0) ρ) (γ 1) → zO 15 S a g q75a0_2 ρ γ → zGl (fun i vs g1 => jn75 a g i vs g1) (sn75 a g) q75a0_2 ρ γ := by
  intro ρ γ hJ h
  obtain ⟨ha, hg, hr, hf, hm, hc, hl⟩ := h
  have ha : a = [ρ 0, ρ 1, ρ 2, ρ 3, ρ 4, ρ 5, ρ 6, ρ 7, ρ 8, ρ 9, ρ 10, ρ 11, ρ 12, ρ 13, ρ 14] := ha
  subst ha
  subst hg
  have hJ : jn75 [ρ 0, ρ 1, ρ 2, ρ 3, ρ 4, ρ 5, ρ 6, ρ 7, ρ 8, ρ 9, ρ 10, ρ 11, ρ 12, ρ 13, ρ 14] (γ 0) 0 [ρ 0, ρ 1, ρ 2, ρ 3, ρ 4, ρ 5, ρ 6, ρ 7, ρ 8, ρ 9, ρ 10, ρ 11, ρ 12, ρ 13, ρ 14, ρ 15, ρ 16, ρ 17, ρ 18, ρ 19] (γ 1) := hJ
  obtain ⟨-, -, -, r3, -, -, -, -, -, -, -, -, -, -, -, -, -, r17, -, -, -, r21, -⟩ := hr
  have r3 : (2 : Int) ≤ ρ 3 ∧ ρ 3 ≤ 2 := r3
  have r17 : (0 : Int) ≤ ρ 17 ∧ ρ 17 ≤ 0 := r17
  have r21 : (0 : Int) ≤ ρ 21 ∧ ρ 21 ≤ 0 := r21
  obtain ⟨-, -, -, f3, -⟩ := hf
  have f3 : (0 : Int) ≤ ρ 18 + -ρ 15 + (-1) := f3
  obtain ⟨w_0, w_1, w_2, w_3, w_4⟩ : (¬ (ρ 15 ≥ ρ 18)) ∧ (¬ (ρ 17 ≠ 0)) ∧ (ρ 3 ≤ 2) ∧ (ρ 3 ≠ 1) ∧ (0 ≥ ρ 21) := ⟨by omega, by omega, by omega, by omega, by omega⟩
  obtain ⟨-, -, m2, -, -, -, m6, -, -, -, -, -, -, -, -, m15, m16, -, -, m19, m20, m21, m22, m23, m24, -⟩ := hm
  have m2 : γ 0 71 0 (ρ 0) = ρ 3 := m2
  have m6 : γ 0 69 0 (ρ 0) = ρ 7 := m6
  have m15 : γ 1 15 0 77 = ρ 17 := m15
  have m16 : γ 1 15 0 90 = ρ 18 := m16
  have m19 : γ 1 107 0 (ρ 15) = ρ 20 := m19
  have m20 : γ 0 66 0 (ρ 7) = ρ 21 := m20
  have m21 : γ 1 105 0 (4 * ρ 15) = ρ 22 := m21
  have m22 : γ 1 105 0 (4 * ρ 15 + 1) = ρ 23 := m22
  have m23 : γ 1 105 0 (4 * ρ 15 + 2) = ρ 24 := m23
  have m24 : γ 1 105 0 (4 * ρ 15 + 3) = ρ 25 := m24
  obtain ⟨⟨⟨⟨⟨-, c2⟩, c3⟩, c4⟩, c5⟩, -⟩ := hc
  have c2 : γ 2 = rUp (γ 1) 102 0 0 (ρ 22) := c2
  have c3 : γ 3 = rUp (γ 2) 102 0 1 (ρ 23) := c3
  have c4 : γ 4 = rUp (γ 3) 102 0 2 (ρ 24) := c4
  have c5 : γ 5 = rUp (γ 4) 102 0 3 (ρ 25) := c5
  obtain ⟨l0, -⟩ := hl
  have l0 : sn57 [ρ 7, ρ 0, ρ 2, ρ 19, ρ 26, ρ 27, ρ 28, ρ 10, ρ 17] (γ 5) 0 0 (γ 6) := hS57 _ _ _ _ _ l0
  show jn75 [ρ 0, ρ 1, ρ 2, ρ 3, ρ 4, ρ 5, ρ 6, ρ 7, ρ 8, ρ 9, ρ 10, ρ 11, ρ 12, ρ 13, ρ 14] (γ 0) 0 [ρ 0, ρ 1, ρ 2, ρ 3, ρ 4, ρ 5, ρ 6, ρ 7, ρ 8, ρ 9, ρ 10, ρ 11, ρ 12, ρ 13, ρ 14, ρ 15 + 1, ρ 16, ρ 33, ρ 18, ρ 29] (γ 6)
  have hD : en75 (γ 0) (0, [ρ 0, ρ 15], γ 1) = .inl (0, [ρ 0, ρ 15 + 1], γ 6) := by
    unfold en75
    refine (if_pos (show (0 : Nat) = 0 by decide)).trans ?_
    refine (zLet_eq (show _ = γ 1 from rfl)).trans ?_
    refine (zLet_eq (show _ = ρ 0 from rfl)).trans ?_
    refine (zLet_eq (show _ = ρ 15 from rfl)).trans ?_
    refine (zLet_eq m2).trans ?_
    refine (zLet_eq m6).trans ?_
    refine (zLet_eq m15).trans ?_
    refine (zLet_eq m16).trans ?_
    refine (if_neg w_0).trans ?_
    refine (if_neg w_1).trans ?_
    refine (if_pos w_2).trans ?_
    refine (if_pos w_3).trans ?_
    refine (zLet_eq m19).trans ?_
    refine (zLet_eq m20).trans ?_
    refine (if_pos w_4).trans ?_
    refine (zLet_eq m21).trans ?_
    refine (zLet_eq c2.symm).trans ?_
    refine (zLet_eq m22).trans ?_
    refine (zLet_eq c3.symm).trans ?_
    refine (zLet_eq m23).trans ?_
    refine (zLet_eq c4.symm).trans ?_
    refine (zLet_eq m24).trans ?_
    refine (zLet_eq c5.symm).trans ?_
    refine (zLet_eq (show fn57 [ρ 7, ρ 0] (γ 5) = (0, 0, γ 6) from l0.symm)).trans ?_
    refine (zLet_eq (show _ = γ 6 from rfl)).trans ?_
    rfl
  exact zGoo_ato hJ hD
theorem vn75a0_3 {S : Nat → zSpc} (hS57 : ∀ x g o v gz, S 57 x g o v gz → sn57 x g o v gz) (hS73 : ∀ x g o v gz, S 73 x g o v gz → sn73 x g o v gz) {a : List Int} {g : rHp} : ∀ (ρ : Nat → Int) (γ : Nat → rHp), jn75 a g 0 (zAg (zNA a75_ 0) ρ) (γ 1) → zO 15 S a g q75a0_3 ρ γ → zGl (fun i vs g1 => jn75 a g i vs g1) (sn75 a g) q75a0_3 ρ γ := by
  intro ρ γ hJ h
  obtain ⟨ha, hg, hr, hf, hm, hc, hl⟩ := h
  have ha : a = [ρ 0, ρ 1, ρ 2, ρ 3, ρ 4, ρ 5, ρ 6, ρ 7, ρ 8, ρ 9, ρ 10, ρ 11, ρ 12, ρ 13, ρ 14] := ha
  subst ha
  subst hg
  have hJ : jn75 [ρ 0, ρ 1, ρ 2, ρ 3, ρ 4, ρ 5, ρ 6, ρ 7, ρ 8, ρ 9, ρ 10, ρ 11, ρ 12, ρ 13, ρ 14] (γ 0) 0 [ρ 0, ρ 1, ρ 2, ρ 3, ρ 4, ρ 5, ρ 6, ρ 7, ρ 8, ρ 9, ρ 10, ρ 11, ρ 12, ρ 13, ρ 14, ρ 15, ρ 16, ρ 17, ρ 18, ρ 19] (γ 1) := hJ
  obtain ⟨-, -, -, r3, -, -, -, -, -, -, -, -, -, -, -, -, -, r17, -, -, -, r21, r22, -⟩ := hr
  have r3 : (2 : Int) ≤ ρ 3 ∧ ρ 3 ≤ 2 := r3
  have r17 : (0 : Int) ≤ ρ 17 ∧ ρ 17 ≤ 0 := r17
  have r21 : (1 : Int) ≤ ρ 21 ∧ ρ 21 ≤ 1 := r21
  have r22 : (0 : Int) ≤ ρ 22 ∧ ρ 22 ≤ 2 := r22
  obtain ⟨-, -, -, f3, -⟩ := hf
  have f3 : (0 : Int) ≤ ρ 18 + -ρ 15 + (-1) := f3
  obtain ⟨w_0, w_1, w_2, w_3, w_4, w_5, w_6⟩ : (¬ (ρ 15 ≥ ρ 18)) ∧ (¬ (ρ 17 ≠ 0)) ∧ (ρ 3 ≤ 2) ∧ (ρ 3 ≠ 1) ∧ (¬ (0 ≥ ρ 21)) ∧ (ρ 22 ≠ 3) ∧ (1 ≥ ρ 21) := ⟨by omega, by omega, by omega, by omega, by omega, by omega, by omega⟩
  obtain ⟨-, -, m2, -, -, -, m6, -, -, -, -, -, -, -, -, m15, m16, -, -, m19, m20, m21, m22, m23, m24, m25, -⟩ := hm
  have m2 : γ 0 71 0 (ρ 0) = ρ 3 := m2
  have m6 : γ 0 69 0 (ρ 0) = ρ 7 := m6
  have m15 : γ 1 15 0 77 = ρ 17 := m15
  have m16 : γ 1 15 0 90 = ρ 18 := m16
  have m19 : γ 1 107 0 (ρ 15) = ρ 20 := m19
  have m20 : γ 0 66 0 (ρ 7) = ρ 21 := m20
  have m21 : γ 0 70 0 (4 * ρ 0) = ρ 22 := m21
  have m22 : γ 1 105 0 (4 * ρ 15) = ρ 23 := m22
  have m23 : γ 1 105 0 (4 * ρ 15 + 1) = ρ 24 := m23
  have m24 : γ 1 105 0 (4 * ρ 15 + 2) = ρ 25 := m24
  have m25 : γ 1 105 0 (4 * ρ 15 + 3) = ρ 26 := m25
  obtain ⟨⟨⟨⟨⟨-, c2⟩, c3⟩, c4⟩, c5⟩, -⟩ := hc
  have c2 : γ 2 = rUp (γ 1) 102 0 0 (ρ 23) := c2
  have c3 : γ 3 = rUp (γ 2) 102 0 1 (ρ 24) := c3
  have c4 : γ 4 = rUp (γ 3) 102 0 2 (ρ 25) := c4
  have c5 : γ 5 = rUp (γ 4) 102 0 3 (ρ 26) := c5
  obtain ⟨l0, -⟩ := hl
  have l0 : sn57 [ρ 7, ρ 0, ρ 2, ρ 19, ρ 27, ρ 28, ρ 29, ρ 10, ρ 17] (γ 5) 0 0 (γ 6) := hS57 _ _ _ _ _ l0
  show jn75 [ρ 0, ρ 1, ρ 2, ρ 3, ρ 4, ρ 5, ρ 6, ρ 7, ρ 8, ρ 9, ρ 10, ρ 11, ρ 12, ρ 13, ρ 14] (γ 0) 0 [ρ 0, ρ 1, ρ 2, ρ 3, ρ 4, ρ 5, ρ 6, ρ 7, ρ 8, ρ 9, ρ 10, ρ 11, ρ 12, ρ 13, ρ 14, ρ 15 + 1, ρ 16, ρ 34, ρ 18, ρ 30] (γ 6)
  have hD : en75 (γ 0) (0, [ρ 0, ρ 15], γ 1) = .inl (0, [ρ 0, ρ 15 + 1], γ 6) := by
    unfold en75
    refine (if_pos (show (0 : Nat) = 0 by decide)).trans ?_
    refine (zLet_eq (show _ = γ 1 from rfl)).trans ?_
    refine (zLet_eq (show _ = ρ 0 from rfl)).trans ?_
    refine (zLet_eq (show _ = ρ 15 from rfl)).trans ?_
    refine (zLet_eq m2).trans ?_
    refine (zLet_eq m6).trans ?_
    refine (zLet_eq m15).trans ?_
    refine (zLet_eq m16).trans ?_
    refine (if_neg w_0).trans ?_
    refine (if_neg w_1).trans ?_
    refine (if_pos w_2).trans ?_
    refine (if_pos w_3).trans ?_
    refine (zLet_eq m19).trans ?_
    refine (zLet_eq m20).trans ?_
    refine (if_neg w_4).trans ?_
    refine (zLet_eq m21).trans ?_
    refine (if_pos w_5).trans ?_
    refine (zLet_eq m22).trans ?_
    refine (zLet_eq c2.symm).trans ?_
    refine (if_pos w_6).trans ?_
    refine (zLet_eq m23).trans ?_
    refine (zLet_eq c3.symm).trans ?_
    refine (zLet_eq m24).trans ?_
    refine (zLet_eq c4.symm).trans ?_
    refine (zLet_eq m25).trans ?_
    refine (zLet_eq c5.symm).trans ?_
    refine (zLet_eq (show fn57 [ρ 7, ρ 0] (γ 5) = (0, 0, γ 6) from l0.symm)).trans ?_
    refine (zLet_eq (show _ = γ 6 from rfl)).trans ?_
    rfl
  exact zGoo_ato hJ hD
theorem vn75a0_4 {S : Nat → zSpc} (hS57 : ∀ x g o v gz, S 57 x g o v gz → sn57 x g o v gz) (hS73 : ∀ x g o v gz, S 73 x g o v gz → sn73 x g o v gz) {a : List Int} {g : rHp} : ∀ (ρ : Nat → Int) (γ : Nat → rHp), jn75 a g 0 (zAg (zNA a75_ 0) ρ) (γ 1) → zO 15 S a g q75a0_4 ρ γ → zGl (fun i vs g1 => jn75 a g i vs g1) (sn75 a g) q75a0_4 ρ γ := by
  intro ρ γ hJ h
  obtain ⟨ha, hg, hr, hf, hm, hc, hl⟩ := h
  have ha : a = [ρ 0, ρ 1, ρ 2, ρ 3, ρ 4, ρ 5, ρ 6, ρ 7, ρ 8, ρ 9, ρ 10, ρ 11, ρ 12, ρ 13, ρ 14] := ha
  subst ha
  subst hg
  have hJ : jn75 [ρ 0, ρ 1, ρ 2, ρ 3, ρ 4, ρ 5, ρ 6, ρ 7, ρ 8, ρ 9, ρ 10, ρ 11, ρ 12, ρ 13, ρ 14] (γ 0) 0 [ρ 0, ρ 1, ρ 2, ρ 3, ρ 4, ρ 5, ρ 6, ρ 7, ρ 8, ρ 9, ρ 10, ρ 11, ρ 12, ρ 13, ρ 14, ρ 15, ρ 16, ρ 17, ρ 18, ρ 19] (γ 1) := hJ
  obtain ⟨-, -, -, r3, -, -, -, -, -, -, -, -, -, -, -, -, -, r17, -, -, -, r21, r22, -, r24, -⟩ := hr
  have r3 : (2 : Int) ≤ ρ 3 ∧ ρ 3 ≤ 2 := r3
  have r17 : (0 : Int) ≤ ρ 17 ∧ ρ 17 ≤ 0 := r17
  have r21 : (2 : Int) ≤ ρ 21 ∧ ρ 21 ≤ 2 := r21
  have r22 : (0 : Int) ≤ ρ 22 ∧ ρ 22 ≤ 2 := r22
  have r24 : (0 : Int) ≤ ρ 24 ∧ ρ 24 ≤ 2 := r24
  obtain ⟨-, -, -, f3, -⟩ := hf
  have f3 : (0 : Int) ≤ ρ 18 + -ρ 15 + (-1) := f3
  obtain ⟨w_0, w_1, w_2, w_3, w_4, w_5, w_6, w_7, w_8⟩ : (¬ (ρ 15 ≥ ρ 18)) ∧ (¬ (ρ 17 ≠ 0)) ∧ (ρ 3 ≤ 2) ∧ (ρ 3 ≠ 1) ∧ (¬ (0 ≥ ρ 21)) ∧ (ρ 22 ≠ 3) ∧ (¬ (1 ≥ ρ 21)) ∧ (ρ 24 ≠ 3) ∧ (2 ≥ ρ 21) := ⟨by omega, by omega, by omega, by omega, by omega, by omega, by omega, by omega, by omega⟩
  obtain ⟨-, -, m2, -, -, -, m6, -, -, -, -, -, -, -, -, m15, m16, -, -, m19, m20, m21, m22, m23, m24, m25, m26, -⟩ := hm
  have m2 : γ 0 71 0 (ρ 0) = ρ 3 := m2
  have m6 : γ 0 69 0 (ρ 0) = ρ 7 := m6
  have m15 : γ 1 15 0 77 = ρ 17 := m15
  have m16 : γ 1 15 0 90 = ρ 18 := m16
  have m19 : γ 1 107 0 (ρ 15) = ρ 20 := m19
  have m20 : γ 0 66 0 (ρ 7) = ρ 21 := m20
  have m21 : γ 0 70 0 (4 * ρ 0) = ρ 22 := m21
  have m22 : γ 1 105 0 (4 * ρ 15) = ρ 23 := m22
  have m23 : γ 0 70 0 (4 * ρ 0 + 1) = ρ 24 := m23
  have m24 : γ 1 105 0 (4 * ρ 15 + 1) = ρ 25 := m24
  have m25 : γ 1 105 0 (4 * ρ 15 + 2) = ρ 26 := m25
  have m26 : γ 1 105 0 (4 * ρ 15 + 3) = ρ 27 := m26
  obtain ⟨⟨⟨⟨⟨-, c2⟩, c3⟩, c4⟩, c5⟩, -⟩ := hc
  have c2 : γ 2 = rUp (γ 1) 102 0 0 (ρ 23) := c2
  have c3 : γ 3 = rUp (γ 2) 102 0 1 (ρ 25) := c3
  have c4 : γ 4 = rUp (γ 3) 102 0 2 (ρ 26) := c4
  have c5 : γ 5 = rUp (γ 4) 102 0 3 (ρ 27) := c5
  obtain ⟨l0, -⟩ := hl
  have l0 : sn57 [ρ 7, ρ 0, ρ 2, ρ 19, ρ 28, ρ 29, ρ 30, ρ 10, ρ 17] (γ 5) 0 0 (γ 6) := hS57 _ _ _ _ _ l0
  show jn75 [ρ 0, ρ 1, ρ 2, ρ 3, ρ 4, ρ 5, ρ 6, ρ 7, ρ 8, ρ 9, ρ 10, ρ 11, ρ 12, ρ 13, ρ 14] (γ 0) 0 [ρ 0, ρ 1, ρ 2, ρ 3, ρ 4, ρ 5, ρ 6, ρ 7, ρ 8, ρ 9, ρ 10, ρ 11, ρ 12, ρ 13, ρ 14, ρ 15 + 1, ρ 16, ρ 35, ρ 18, ρ 31] (γ 6)
  have hD : en75 (γ 0) (0, [ρ 0, ρ 15], γ 1) = .inl (0, [ρ 0, ρ 15 + 1], γ 6) := by
    unfold en75
    refine (if_pos (show (0 : Nat) = 0 by decide)).trans ?_
    refine (zLet_eq (show _ = γ 1 from rfl)).trans ?_
    refine (zLet_eq (show _ = ρ 0 from rfl)).trans ?_
    refine (zLet_eq (show _ = ρ 15 from rfl)).trans ?_
    refine (zLet_eq m2).trans ?_
    refine (zLet_eq m6).trans ?_
    refine (zLet_eq m15).trans ?_
    refine (zLet_eq m16).trans ?_
    refine (if_neg w_0).trans ?_
    refine (if_neg w_1).trans ?_
    refine (if_pos w_2).trans ?_
    refine (if_pos w_3).trans ?_
    refine (zLet_eq m19).trans ?_
    refine (zLet_eq m20).trans ?_
    refine (if_neg w_4).trans ?_
    refine (zLet_eq m21).trans ?_
    refine (if_pos w_5).trans ?_
    refine (zLet_eq m22).trans ?_
    refine (zLet_eq c2.symm).trans ?_
    refine (if_neg w_6).trans ?_
    refine (zLet_eq m23).trans ?_
    refine (if_pos w_7).trans ?_
    refine (zLet_eq m24).trans ?_
    refine (zLet_eq c3.symm).trans ?_
    refine (if_pos w_8).trans ?_
    refine (zLet_eq m25).trans ?_
    refine (zLet_eq c4.symm).trans ?_
    refine (zLet_eq m26).trans ?_
    refine (zLet_eq c5.symm).trans ?_
    refine (zLet_eq (show fn57 [ρ 7, ρ 0] (γ 5) = (0, 0, γ 6) from l0.symm)).trans ?_
    refine (zLet_eq (show _ = γ 6 from rfl)).trans ?_
    rfl
  exact zGoo_ato hJ hD
theorem vn75a0_5 {S : Nat → zSpc} (hS57 : ∀ x g o v gz, S 57 x g o v gz → sn57 x g o v gz) (hS73 : ∀ x g o v gz, S 73 x g o v gz → sn73 x g o v gz) {a : List Int} {g : rHp} : ∀ (ρ : Nat → Int) (γ : Nat → rHp), jn75 a g 0 (zAg (zNA a75_ 0) ρ) (γ 1) → zO 15 S a g q75a0_5 ρ γ → zGl (fun i vs g1 => jn75 a g i vs g1) (sn75 a g) q75a0_5 ρ γ := by
  intro ρ γ hJ h
  obtain ⟨ha, hg, hr, hf, hm, hc, hl⟩ := h
  have ha : a = [ρ 0, ρ 1, ρ 2, ρ 3, ρ 4, ρ 5, ρ 6, ρ 7, ρ 8, ρ 9, ρ 10, ρ 11, ρ 12, ρ 13, ρ 14] := ha
  subst ha
  subst hg
  have hJ : jn75 [ρ 0, ρ 1, ρ 2, ρ 3, ρ 4, ρ 5, ρ 6, ρ 7, ρ 8, ρ 9, ρ 10, ρ 11, ρ 12, ρ 13, ρ 14] (γ 0) 0 [ρ 0, ρ 1, ρ 2, ρ 3, ρ 4, ρ 5, ρ 6, ρ 7, ρ 8, ρ 9, ρ 10, ρ 11, ρ 12, ρ 13, ρ 14, ρ 15, ρ 16, ρ 17, ρ 18, ρ 19] (γ 1) := hJ
  obtain ⟨-, -, -, r3, -, -, -, -, -, -, -, -, -, -, -, -, -, r17, -, -, -, r21, r22, -, r24, -, r26, -⟩ := hr
  have r3 : (2 : Int) ≤ ρ 3 ∧ ρ 3 ≤ 2 := r3
  have r17 : (0 : Int) ≤ ρ 17 ∧ ρ 17 ≤ 0 := r17
  have r21 : (3 : Int) ≤ ρ 21 ∧ ρ 21 ≤ 3 := r21
  have r22 : (0 : Int) ≤ ρ 22 ∧ ρ 22 ≤ 2 := r22
  have r24 : (0 : Int) ≤ ρ 24 ∧ ρ 24 ≤ 2 := r24
  have r26 : (0 : Int) ≤ ρ 26 ∧ ρ 26 ≤ 2 := r26
  obtain ⟨-, -, -, f3, -⟩ := hf
  have f3 : (0 : Int) ≤ ρ 18 + -ρ 15 + (-1) := f3
  obtain ⟨w_0, w_1, w_2, w_3, w_4, w_5, w_6, w_7, w_8, w_9, w_10⟩ : (¬ (ρ 15 ≥ ρ 18)) ∧ (¬ (ρ 17 ≠ 0)) ∧ (ρ 3 ≤ 2) ∧ (ρ 3 ≠ 1) ∧ (¬ (0 ≥ ρ 21)) ∧ (ρ 22 ≠ 3) ∧ (¬ (1 ≥ ρ 21)) ∧ (ρ 24 ≠ 3) ∧ (¬ (2 ≥ ρ 21)) ∧ (ρ 26 ≠ 3) ∧ (3 ≥ ρ 21) := ⟨by omega, by omega, by omega, by omega, by omega, by omega, by omega, by omega, by omega, by omega, by omega⟩
  obtain ⟨-, -, m2, -, -, -, m6, -, -, -, -, -, -, -, -, m15, m16, -, -, m19, m20, m21, m22, m23, m24, m25, m26, m27, -⟩ := hm
  have m2 : γ 0 71 0 (ρ 0) = ρ 3 := m2
  have m6 : γ 0 69 0 (ρ 0) = ρ 7 := m6
  have m15 : γ 1 15 0 77 = ρ 17 := m15
  have m16 : γ 1 15 0 90 = ρ 18 := m16
  have m19 : γ 1 107 0 (ρ 15) = ρ 20 := m19
  have m20 : γ 0 66 0 (ρ 7) = ρ 21 := m20
  have m21 : γ 0 70 0 (4 * ρ 0) = ρ 22 := m21
  have m22 : γ 1 105 0 (4 * ρ 15) = ρ 23 := m22
  have m23 : γ 0 70 0 (4 * ρ 0 + 1) = ρ 24 := m23
  have m24 : γ 1 105 0 (4 * ρ 15 + 1) = ρ 25 := m24
  have m25 : γ 0 70 0 (4 * ρ 0 + 2) = ρ 26 := m25
  have m26 : γ 1 105 0 (4 * ρ 15 + 2) = ρ 27 := m26
  have m27 : γ 1 105 0 (4 * ρ 15 + 3) = ρ 28 := m27
  obtain ⟨⟨⟨⟨⟨-, c2⟩, c3⟩, c4⟩, c5⟩, -⟩ := hc
  have c2 : γ 2 = rUp (γ 1) 102 0 0 (ρ 23) := c2
  have c3 : γ 3 = rUp (γ 2) 102 0 1 (ρ 25) := c3
  have c4 : γ 4 = rUp (γ 3) 102 0 2 (ρ 27) := c4
  have c5 : γ 5 = rUp (γ 4) 102 0 3 (ρ 28) := c5
  obtain ⟨l0, -⟩ := hl
  have l0 : sn57 [ρ 7, ρ 0, ρ 2, ρ 19, ρ 29, ρ 30, ρ 31, ρ 10, ρ 17] (γ 5) 0 0 (γ 6) := hS57 _ _ _ _ _ l0
  show jn75 [ρ 0, ρ 1, ρ 2, ρ 3, ρ 4, ρ 5, ρ 6, ρ 7, ρ 8, ρ 9, ρ 10, ρ 11, ρ 12, ρ 13, ρ 14] (γ 0) 0 [ρ 0, ρ 1, ρ 2, ρ 3, ρ 4, ρ 5, ρ 6, ρ 7, ρ 8, ρ 9, ρ 10, ρ 11, ρ 12, ρ 13, ρ 14, ρ 15 + 1, ρ 16, ρ 36, ρ 18, ρ 32] (γ 6)
  have hD : en75 (γ 0) (0, [ρ 0, ρ 15], γ 1) = .inl (0, [ρ 0, ρ 15 + 1], γ 6) := by
    unfold en75
    refine (if_pos (show (0 : Nat) = 0 by decide)).trans ?_
    refine (zLet_eq (show _ = γ 1 from rfl)).trans ?_
    refine (zLet_eq (show _ = ρ 0 from rfl)).trans ?_
    refine (zLet_eq (show _ = ρ 15 from rfl)).trans ?_
    refine (zLet_eq m2).trans ?_
    refine (zLet_eq m6).trans ?_
    refine (zLet_eq m15).trans ?_
    refine (zLet_eq m16).trans ?_
    refine (if_neg w_0).trans ?_
    refine (if_neg w_1).trans ?_
    refine (if_pos w_2).trans ?_
    refine (if_pos w_3).trans ?_
    refine (zLet_eq m19).trans ?_
    refine (zLet_eq m20).trans ?_
    refine (if_neg w_4).trans ?_
    refine (zLet_eq m21).trans ?_
    refine (if_pos w_5).trans ?_
    refine (zLet_eq m22).trans ?_
    refine (zLet_eq c2.symm).trans ?_
    refine (if_neg w_6).trans ?_
    refine (zLet_eq m23).trans ?_
    refine (if_pos w_7).trans ?_
    refine (zLet_eq m24).trans ?_
    refine (zLet_eq c3.symm).trans ?_
    refine (if_neg w_8).trans ?_
    refine (zLet_eq m25).trans ?_
    refine (if_pos w_9).trans ?_
    refine (zLet_eq m26).trans ?_
    refine (zLet_eq c4.symm).trans ?_
    refine (if_pos w_10).trans ?_
    refine (zLet_eq m27).trans ?_
    refine (zLet_eq c5.symm).trans ?_
    refine (zLet_eq (show fn57 [ρ 7, ρ 0] (γ 5) = (0, 0, γ 6) from l0.symm)).trans ?_
    refine (zLet_eq (show _ = γ 6 from rfl)).trans ?_
    rfl
  exact zGoo_ato hJ hD
theorem vn75a0_6 {S : Nat → zSpc} (hS57 : ∀ x g o v gz, S 57 x g o v gz → sn57 x g o v gz) (hS73 : ∀ x g o v gz, S 73 x g o v gz → sn73 x g o v gz) {a : List Int} {g : rHp} : ∀ (ρ : Nat → Int) (γ : Nat → rHp), jn75 a g 0 (zAg (zNA a75_ 0) ρ) (γ 1) → zO 15 S a g q75a0_6 ρ γ → zGl (fun i vs g1 => jn75 a g i vs g1) (sn75 a g) q75a0_6 ρ γ := by
  intro ρ γ hJ h
  obtain ⟨ha, hg, hr, hf, hm, hc, hl⟩ := h
  have ha : a = [ρ 0, ρ 1, ρ 2, ρ 3, ρ 4, ρ 5, ρ 6, ρ 7, ρ 8, ρ 9, ρ 10, ρ 11, ρ 12, ρ 13, ρ 14] := ha
  subst ha
  subst hg
  have hJ : jn75 [ρ 0, ρ 1, ρ 2, ρ 3, ρ 4, ρ 5, ρ 6, ρ 7, ρ 8, ρ 9, ρ 10, ρ 11, ρ 12, ρ 13, ρ 14] (γ 0) 0 [ρ 0, ρ 1, ρ 2, ρ 3, ρ 4, ρ 5, ρ 6, ρ 7, ρ 8, ρ 9, ρ 10, ρ 11, ρ 12, ρ 13, ρ 14, ρ 15, ρ 16, ρ 17, ρ 18, ρ 19] (γ 1) := hJ
  obtain ⟨-, -, -, r3, -, -, -, -, -, -, -, -, -, -, -, -, -, r17, -, -, -, r21, r22, -, r24, -, r26, -, r28, -⟩ := hr
  have r3 : (2 : Int) ≤ ρ 3 ∧ ρ 3 ≤ 2 := r3
  have r17 : (0 : Int) ≤ ρ 17 ∧ ρ 17 ≤ 0 := r17
  have r21 : (4 : Int) ≤ ρ 21 ∧ ρ 21 ≤ 4 := r21
  have r22 : (0 : Int) ≤ ρ 22 ∧ ρ 22 ≤ 2 := r22
  have r24 : (0 : Int) ≤ ρ 24 ∧ ρ 24 ≤ 2 := r24
  have r26 : (0 : Int) ≤ ρ 26 ∧ ρ 26 ≤ 2 := r26
  have r28 : (0 : Int) ≤ ρ 28 ∧ ρ 28 ≤ 2 := r28
  obtain ⟨-, -, -, f3, -⟩ := hf
  have f3 : (0 : Int) ≤ ρ 18 + -ρ 15 + (-1) := f3
  obtain ⟨w_0, w_1, w_2, w_3, w_4, w_5, w_6, w_7, w_8, w_9, w_10, w_11⟩ : (¬ (ρ 15 ≥ ρ 18)) ∧ (¬ (ρ 17 ≠ 0)) ∧ (ρ 3 ≤ 2) ∧ (ρ 3 ≠ 1) ∧ (¬ (0 ≥ ρ 21)) ∧ (ρ 22 ≠ 3) ∧ (¬ (1 ≥ ρ 21)) ∧ (ρ 24 ≠ 3) ∧ (¬ (2 ≥ ρ 21)) ∧ (ρ 26 ≠ 3) ∧ (¬ (3 ≥ ρ 21)) ∧ (ρ 28 ≠ 3) := ⟨by omega, by omega, by omega, by omega, by omega, by omega, by omega, by omega, by omega, by omega, by omega, by omega⟩
  obtain ⟨-, -, m2, -, -, -, m6, -, -, -, -, -, -, -, -, m15, m16, -, -, m19, m20, m21, m22, m23, m24, m25, m26, m27, m28, -⟩ := hm
  have m2 : γ 0 71 0 (ρ 0) = ρ 3 := m2
  have m6 : γ 0 69 0 (ρ 0) = ρ 7 := m6
  have m15 : γ 1 15 0 77 = ρ 17 := m15
  have m16 : γ 1 15 0 90 = ρ 18 := m16
  have m19 : γ 1 107 0 (ρ 15) = ρ 20 := m19
  have m20 : γ 0 66 0 (ρ 7) = ρ 21 := m20
  have m21 : γ 0 70 0 (4 * ρ 0) = ρ 22 := m21
  have m22 : γ 1 105 0 (4 * ρ 15) = ρ 23 := m22
  have m23 : γ 0 70 0 (4 * ρ 0 + 1) = ρ 24 := m23
  have m24 : γ 1 105 0 (4 * ρ 15 + 1) = ρ 25 := m24
  have m25 : γ 0 70 0 (4 * ρ 0 + 2) = ρ 26 := m25
  have m26 : γ 1 105 0 (4 * ρ 15 + 2) = ρ 27 := m26
  have m27 : γ 0 70 0 (4 * ρ 0 + 3) = ρ 28 := m27
  have m28 : γ 1 105 0 (4 * ρ 15 + 3) = ρ 29 := m28
  obtain ⟨⟨⟨⟨⟨-, c2⟩, c3⟩, c4⟩, c5⟩, -⟩ := hc
  have c2 : γ 2 = rUp (γ 1) 102 0 0 (ρ 23) := c2
  have c3 : γ 3 = rUp (γ 2) 102 0 1 (ρ 25) := c3
  have c4 : γ 4 = rUp (γ 3) 102 0 2 (ρ 27) := c4
  have c5 : γ 5 = rUp (γ 4) 102 0 3 (ρ 29) := c5
  obtain ⟨l0, -⟩ := hl
  have l0 : sn57 [ρ 7, ρ 0, ρ 2, ρ 19, ρ 30, ρ 31, ρ 32, ρ 10, ρ 17] (γ 5) 0 0 (γ 6) := hS57 _ _ _ _ _ l0
  show jn75 [ρ 0, ρ 1, ρ 2, ρ 3, ρ 4, ρ 5, ρ 6, ρ 7, ρ 8, ρ 9, ρ 10, ρ 11, ρ 12, ρ 13, ρ 14] (γ 0) 0 [ρ 0, ρ 1, ρ 2, ρ 3, ρ 4, ρ 5, ρ 6, ρ 7, ρ 8, ρ 9, ρ 10, ρ 11, ρ 12, ρ 13, ρ 14, ρ 15 + 1, ρ 16, ρ 37, ρ 18, ρ 33] (γ 6)
  have hD : en75 (γ 0) (0, [ρ 0, ρ 15], γ 1) = .inl (0, [ρ 0, ρ 15 + 1], γ 6) := by
    unfold en75
    refine (if_pos (show (0 : Nat) = 0 by decide)).trans ?_
    refine (zLet_eq (show _ = γ 1 from rfl)).trans ?_
    refine (zLet_eq (show _ = ρ 0 from rfl)).trans ?_
    refine (zLet_eq (show _ = ρ 15 from rfl)).trans ?_
    refine (zLet_eq m2).trans ?_
    refine (zLet_eq m6).trans ?_
    refine (zLet_eq m15).trans ?_
    refine (zLet_eq m16).trans ?_
    refine (if_neg w_0).trans ?_
    refine (if_neg w_1).trans ?_
    refine (if_pos w_2).trans ?_
    refine (if_pos w_3).trans ?_
    refine (zLet_eq m19).trans ?_
    refine (zLet_eq m20).trans ?_
    refine (if_neg w_4).trans ?_
    refine (zLet_eq m21).trans ?_
    refine (if_pos w_5).trans ?_
    refine (zLet_eq m22).trans ?_
    refine (zLet_eq c2.symm).trans ?_
    refine (if_neg w_6).trans ?_
    refine (zLet_eq m23).trans ?_
    refine (if_pos w_7).trans ?_
    refine (zLet_eq m24).trans ?_
    refine (zLet_eq c3.symm).trans ?_
    refine (if_neg w_8).trans ?_
    refine (zLet_eq m25).trans ?_
    refine (if_pos w_9).trans ?_
    refine (zLet_eq m26).trans ?_
    refine (zLet_eq c4.symm).trans ?_
    refine (if_neg w_10).trans ?_
    refine (zLet_eq m27).trans ?_
    refine (if_pos w_11).trans ?_
    refine (zLet_eq m28).trans ?_
    refine (zLet_eq c5.symm).trans ?_
    refine (zLet_eq (show fn57 [ρ 7, ρ 0] (γ 5) = (0, 0, γ 6) from l0.symm)).trans ?_
    refine (zLet_eq (show _ = γ 6 from rfl)).trans ?_
    rfl
  exact zGoo_ato hJ hD
theorem vn75a0_7 {S : Nat → zSpc} (hS57 : ∀ x g o v gz, S 57 x g o v gz → sn57 x g o v gz) (hS73 : ∀ x g o v gz, S 73 x g o v gz → sn73 x g o v gz) {a : List Int} {g : rHp} : ∀ (ρ : Nat → Int) (γ : Nat → rHp), jn75 a g 0 (zAg (zNA a75_ 0) ρ) (γ 1) → zO 15 S a g q75a0_7 ρ γ → zGl (fun i vs g1 => jn75 a g i vs g1) (sn75 a g) q75a0_7 ρ γ := by
  intro ρ γ hJ h
  obtain ⟨ha, hg, hr, hf, hm, hc, hl⟩ := h
  have ha : a = [ρ 0, ρ 1, ρ 2, ρ 3, ρ 4, ρ 5, ρ 6, ρ 7, ρ 8, ρ 9, ρ 10, ρ 11, ρ 12, ρ 13, ρ 14] := ha
  subst ha
  subst hg
  have hJ : jn75 [ρ 0, ρ 1, ρ 2, ρ 3, ρ 4, ρ 5, ρ 6, ρ 7, ρ 8, ρ 9, ρ 10, ρ 11, ρ 12, ρ 13, ρ 14] (γ 0) 0 [ρ 0, ρ 1, ρ 2, ρ 3, ρ 4, ρ 5, ρ 6, ρ 7, ρ 8, ρ 9, ρ 10, ρ 11, ρ 12, ρ 13, ρ 14, ρ 15, ρ 16, ρ 17, ρ 18, ρ 19] (γ 1) := hJ
  obtain ⟨-, -, -, r3, -, -, -, -, -, -, -, -, -, -, -, -, -, r17, -, -, -, r21, r22, -, r24, -, r26, -, r28, -⟩ := hr
  have r3 : (2 : Int) ≤ ρ 3 ∧ ρ 3 ≤ 2 := r3
  have r17 : (0 : Int) ≤ ρ 17 ∧ ρ 17 ≤ 0 := r17
  have r21 : (4 : Int) ≤ ρ 21 ∧ ρ 21 ≤ 4 := r21
  have r22 : (0 : Int) ≤ ρ 22 ∧ ρ 22 ≤ 2 := r22
  have r24 : (0 : Int) ≤ ρ 24 ∧ ρ 24 ≤ 2 := r24
  have r26 : (0 : Int) ≤ ρ 26 ∧ ρ 26 ≤ 2 := r26
  have r28 : (3 : Int) ≤ ρ 28 ∧ ρ 28 ≤ 3 := r28
  obtain ⟨-, -, -, f3, -⟩ := hf
  have f3 : (0 : Int) ≤ ρ 18 + -ρ 15 + (-1) := f3
  obtain ⟨w_0, w_1, w_2, w_3, w_4, w_5, w_6, w_7, w_8, w_9, w_10, w_11⟩ : (¬ (ρ 15 ≥ ρ 18)) ∧ (¬ (ρ 17 ≠ 0)) ∧ (ρ 3 ≤ 2) ∧ (ρ 3 ≠ 1) ∧ (¬ (0 ≥ ρ 21)) ∧ (ρ 22 ≠ 3) ∧ (¬ (1 ≥ ρ 21)) ∧ (ρ 24 ≠ 3) ∧ (¬ (2 ≥ ρ 21)) ∧ (ρ 26 ≠ 3) ∧ (¬ (3 ≥ ρ 21)) ∧ (¬ (ρ 28 ≠ 3)) := ⟨by omega, by omega, by omega, by omega, by omega, by omega, by omega, by omega, by omega, by omega, by omega, by omega⟩
  obtain ⟨-, -, m2, -, -, -, m6, -, -, -, -, -, -, -, -, m15, m16, -, -, m19, m20, m21, m22, m23, m24, m25, m26, m27, -⟩ := hm
  have m2 : γ 0 71 0 (ρ 0) = ρ 3 := m2
  have m6 : γ 0 69 0 (ρ 0) = ρ 7 := m6
  have m15 : γ 1 15 0 77 = ρ 17 := m15
  have m16 : γ 1 15 0 90 = ρ 18 := m16
  have m19 : γ 1 107 0 (ρ 15) = ρ 20 := m19
  have m20 : γ 0 66 0 (ρ 7) = ρ 21 := m20
  have m21 : γ 0 70 0 (4 * ρ 0) = ρ 22 := m21
  have m22 : γ 1 105 0 (4 * ρ 15) = ρ 23 := m22
  have m23 : γ 0 70 0 (4 * ρ 0 + 1) = ρ 24 := m23
  have m24 : γ 1 105 0 (4 * ρ 15 + 1) = ρ 25 := m24
  have m25 : γ 0 70 0 (4 * ρ 0 + 2) = ρ 26 := m25
  have m26 : γ 1 105 0 (4 * ρ 15 + 2) = ρ 27 := m26
  have m27 : γ 0 70 0 (4 * ρ 0 + 3) = ρ 28 := m27
  obtain ⟨⟨⟨⟨⟨-, c2⟩, c3⟩, c4⟩, c5⟩, -⟩ := hc
  have c2 : γ 2 = rUp (γ 1) 102 0 0 (ρ 23) := c2
  have c3 : γ 3 = rUp (γ 2) 102 0 1 (ρ 25) := c3
  have c4 : γ 4 = rUp (γ 3) 102 0 2 (ρ 27) := c4
  have c5 : γ 5 = rUp (γ 4) 102 0 3 (ρ 20) := c5
  obtain ⟨l0, -⟩ := hl
  have l0 : sn57 [ρ 7, ρ 0, ρ 2, ρ 19, ρ 29, ρ 30, ρ 31, ρ 10, ρ 17] (γ 5) 0 0 (γ 6) := hS57 _ _ _ _ _ l0
  show jn75 [ρ 0, ρ 1, ρ 2, ρ 3, ρ 4, ρ 5, ρ 6, ρ 7, ρ 8, ρ 9, ρ 10, ρ 11, ρ 12, ρ 13, ρ 14] (γ 0) 0 [ρ 0, ρ 1, ρ 2, ρ 3, ρ 4, ρ 5, ρ 6, ρ 7, ρ 8, ρ 9, ρ 10, ρ 11, ρ 12, ρ 13, ρ 14, ρ 15 + 1, ρ 16, ρ 36, ρ 18, ρ 32] (γ 6)
  have hD : en75 (γ 0) (0, [ρ 0, ρ 15], γ 1) = .inl (0, [ρ 0, ρ 15 + 1], γ 6) := by
    unfold en75
    refine (if_pos (show (0 : Nat) = 0 by decide)).trans ?_
    refine (zLet_eq (show _ = γ 1 from rfl)).trans ?_
    refine (zLet_eq (show _ = ρ 0 from rfl)).trans ?_
    refine (zLet_eq (show _ = ρ 15 from rfl)).trans ?_
    refine (zLet_eq m2).trans ?_
    refine (zLet_eq m6).trans ?_
    refine (zLet_eq m15).trans ?_
    refine (zLet_eq m16).trans ?_
    refine (if_neg w_0).trans ?_
    refine (if_neg w_1).trans ?_
    refine (if_pos w_2).trans ?_
    refine (if_pos w_3).trans ?_
    refine (zLet_eq m19).trans ?_
    refine (zLet_eq m20).trans ?_
    refine (if_neg w_4).trans ?_
    refine (zLet_eq m21).trans ?_
    refine (if_pos w_5).trans ?_
    refine (zLet_eq m22).trans ?_
    refine (zLet_eq c2.symm).trans ?_
    refine (if_neg w_6).trans ?_
    refine (zLet_eq m23).trans ?_
    refine (if_pos w_7).trans ?_
    refine (zLet_eq m24).trans ?_
    refine (zLet_eq c3.symm).trans ?_
    refine (if_neg w_8).trans ?_
    refine (zLet_eq m25).trans ?_
    refine (if_pos w_9).trans ?_
    refine (zLet_eq m26).trans ?_
    refine (zLet_eq c4.symm).trans ?_
    refine (if_neg w_10).trans ?_
    refine (zLet_eq m27).trans ?_
    refine (if_neg w_11).trans ?_
    refine (zLet_eq c5.symm).trans ?_
    refine (zLet_eq (show fn57 [ρ 7, ρ 0] (γ 5) = (0, 0, γ 6) from l0.symm)).trans ?_
    refine (zLet_eq (show _ = γ 6 from rfl)).trans ?_
    rfl
  exact zGoo_ato hJ hD
theorem vn75a0_8 {S : Nat → zSpc} (hS57 : ∀ x g o v gz, S 57 x g o v gz → sn57 x g o v gz) (hS73 : ∀ x g o v gz, S 73 x g o v gz → sn73 x g o v gz) {a : List Int} {g : rHp} : ∀ (ρ : Nat → Int) (γ : Nat → rHp), jn75 a g 0 (zAg (zNA a75_ 0) ρ) (γ 1) → zO 15 S a g q75a0_8 ρ γ → zGl (fun i vs g1 => jn75 a g i vs g1) (sn75 a g) q75a0_8 ρ γ := by
  intro ρ γ hJ h
  obtain ⟨ha, hg, hr, hf, hm, hc, hl⟩ := h
  have ha : a = [ρ 0, ρ 1, ρ 2, ρ 3, ρ 4, ρ 5, ρ 6, ρ 7, ρ 8, ρ 9, ρ 10, ρ 11, ρ 12, ρ 13, ρ 14] := ha
  subst ha
  subst hg
  have hJ : jn75 [ρ 0, ρ 1, ρ 2, ρ 3, ρ 4, ρ 5, ρ 6, ρ 7, ρ 8, ρ 9, ρ 10, ρ 11, ρ 12, ρ 13, ρ 14] (γ 0) 0 [ρ 0, ρ 1, ρ 2, ρ 3, ρ 4, ρ 5, ρ 6, ρ 7, ρ 8, ρ 9, ρ 10, ρ 11, ρ 12, ρ 13, ρ 14, ρ 15, ρ 16, ρ 17, ρ 18, ρ 19] (γ 1) := hJ
  obtain ⟨-, -, -, r3, -, -, -, -, -, -, -, -, -, -, -, -, -, r17, -, -, -, r21, r22, -, r24, -, r26, -⟩ := hr
  have r3 : (2 : Int) ≤ ρ 3 ∧ ρ 3 ≤ 2 := r3
  have r17 : (0 : Int) ≤ ρ 17 ∧ ρ 17 ≤ 0 := r17
  have r21 : (3 : Int) ≤ ρ 21 ∧ ρ 21 ≤ 3 := r21
  have r22 : (0 : Int) ≤ ρ 22 ∧ ρ 22 ≤ 2 := r22
  have r24 : (0 : Int) ≤ ρ 24 ∧ ρ 24 ≤ 2 := r24
  have r26 : (3 : Int) ≤ ρ 26 ∧ ρ 26 ≤ 3 := r26
  obtain ⟨-, -, -, f3, -⟩ := hf
  have f3 : (0 : Int) ≤ ρ 18 + -ρ 15 + (-1) := f3
  obtain ⟨w_0, w_1, w_2, w_3, w_4, w_5, w_6, w_7, w_8, w_9, w_10⟩ : (¬ (ρ 15 ≥ ρ 18)) ∧ (¬ (ρ 17 ≠ 0)) ∧ (ρ 3 ≤ 2) ∧ (ρ 3 ≠ 1) ∧ (¬ (0 ≥ ρ 21)) ∧ (ρ 22 ≠ 3) ∧ (¬ (1 ≥ ρ 21)) ∧ (ρ 24 ≠ 3) ∧ (¬ (2 ≥ ρ 21)) ∧ (¬ (ρ 26 ≠ 3)) ∧ (3 ≥ ρ 21) := ⟨by omega, by omega, by omega, by omega, by omega, by omega, by omega, by omega, by omega, by omega, by omega⟩
  obtain ⟨-, -, m2, -, -, -, m6, -, -, -, -, -, -, -, -, m15, m16, -, -, m19, m20, m21, m22, m23, m24, m25, m26, -⟩ := hm
  have m2 : γ 0 71 0 (ρ 0) = ρ 3 := m2
  have m6 : γ 0 69 0 (ρ 0) = ρ 7 := m6
  have m15 : γ 1 15 0 77 = ρ 17 := m15
  have m16 : γ 1 15 0 90 = ρ 18 := m16
  have m19 : γ 1 107 0 (ρ 15) = ρ 20 := m19
  have m20 : γ 0 66 0 (ρ 7) = ρ 21 := m20
  have m21 : γ 0 70 0 (4 * ρ 0) = ρ 22 := m21
  have m22 : γ 1 105 0 (4 * ρ 15) = ρ 23 := m22
  have m23 : γ 0 70 0 (4 * ρ 0 + 1) = ρ 24 := m23
  have m24 : γ 1 105 0 (4 * ρ 15 + 1) = ρ 25 := m24
  have m25 : γ 0 70 0 (4 * ρ 0 + 2) = ρ 26 := m25
  have m26 : γ 1 105 0 (4 * ρ 15 + 3) = ρ 27 := m26
  obtain ⟨⟨⟨⟨⟨-, c2⟩, c3⟩, c4⟩, c5⟩, -⟩ := hc
  have c2 : γ 2 = rUp (γ 1) 102 0 0 (ρ 23) := c2
  have c3 : γ 3 = rUp (γ 2) 102 0 1 (ρ 25) := c3
  have c4 : γ 4 = rUp (γ 3) 102 0 2 (ρ 20) := c4
  have c5 : γ 5 = rUp (γ 4) 102 0 3 (ρ 27) := c5
  obtain ⟨l0, -⟩ := hl
  have l0 : sn57 [ρ 7, ρ 0, ρ 2, ρ 19, ρ 28, ρ 29, ρ 30, ρ 10, ρ 17] (γ 5) 0 0 (γ 6) := hS57 _ _ _ _ _ l0
  show jn75 [ρ 0, ρ 1, ρ 2, ρ 3, ρ 4, ρ 5, ρ 6, ρ 7, ρ 8, ρ 9, ρ 10, ρ 11, ρ 12, ρ 13, ρ 14] (γ 0) 0 [ρ 0, ρ 1, ρ 2, ρ 3, ρ 4, ρ 5, ρ 6, ρ 7, ρ 8, ρ 9, ρ 10, ρ 11, ρ 12, ρ 13, ρ 14, ρ 15 + 1, ρ 16, ρ 35, ρ 18, ρ 31] (γ 6)
  have hD : en75 (γ 0) (0, [ρ 0, ρ 15], γ 1) = .inl (0, [ρ 0, ρ 15 + 1], γ 6) := by
    unfold en75
    refine (if_pos (show (0 : Nat) = 0 by decide)).trans ?_
    refine (zLet_eq (show _ = γ 1 from rfl)).trans ?_
    refine (zLet_eq (show _ = ρ 0 from rfl)).trans ?_
    refine (zLet_eq (show _ = ρ 15 from rfl)).trans ?_
    refine (zLet_eq m2).trans ?_
    refine (zLet_eq m6).trans ?_
    refine (zLet_eq m15).trans ?_
    refine (zLet_eq m16).trans ?_
    refine (if_neg w_0).trans ?_
    refine (if_neg w_1).trans ?_
    refine (if_pos w_2).trans ?_
    refine (if_pos w_3).trans ?_
    refine (zLet_eq m19).trans ?_
    refine (zLet_eq m20).trans ?_
    refine (if_neg w_4).trans ?_
    refine (zLet_eq m21).trans ?_
    refine (if_pos w_5).trans ?_
    refine (zLet_eq m22).trans ?_
    refine (zLet_eq c2.symm).trans ?_
    refine (if_neg w_6).trans ?_
    refine (zLet_eq m23).trans ?_
    refine (if_pos w_7).trans ?_
    refine (zLet_eq m24).trans ?_
    refine (zLet_eq c3.symm).trans ?_
    refine (if_neg w_8).trans ?_
    refine (zLet_eq m25).trans ?_
    refine (if_neg w_9).trans ?_
    refine (zLet_eq c4.symm).trans ?_
    refine (if_pos w_10).trans ?_
    refine (zLet_eq m26).trans ?_
    refine (zLet_eq c5.symm).trans ?_
    refine (zLet_eq (show fn57 [ρ 7, ρ 0] (γ 5) = (0, 0, γ 6) from l0.symm)).trans ?_
    refine (zLet_eq (show _ = γ 6 from rfl)).trans ?_
    rfl
  exact zGoo_ato hJ hD
theorem vn75a0_9 {S : Nat → zSpc} (hS57 : ∀ x g o v gz, S 57 x g o v gz → sn57 x g o v gz) (hS73 : ∀ x g o v gz, S 73 x g o v gz → sn73 x g o v gz) {a : List Int} {g : rHp} : ∀ (ρ : Nat → Int) (γ : Nat → rHp), jn75 a g 0 (zAg (zNA a75_ 0) ρ) (γ 1) → zO 15 S a g q75a0_9 ρ γ → zGl (fun i vs g1 => jn75 a g i vs g1) (sn75 a g) q75a0_9 ρ γ := by
  intro ρ γ hJ h
  obtain ⟨ha, hg, hr, hf, hm, hc, hl⟩ := h
  have ha : a = [ρ 0, ρ 1, ρ 2, ρ 3, ρ 4, ρ 5, ρ 6, ρ 7, ρ 8, ρ 9, ρ 10, ρ 11, ρ 12, ρ 13, ρ 14] := ha
  subst ha
  subst hg
  have hJ : jn75 [ρ 0, ρ 1, ρ 2, ρ 3, ρ 4, ρ 5, ρ 6, ρ 7, ρ 8, ρ 9, ρ 10, ρ 11, ρ 12, ρ 13, ρ 14] (γ 0) 0 [ρ 0, ρ 1, ρ 2, ρ 3, ρ 4, ρ 5, ρ 6, ρ 7, ρ 8, ρ 9, ρ 10, ρ 11, ρ 12, ρ 13, ρ 14, ρ 15, ρ 16, ρ 17, ρ 18, ρ 19] (γ 1) := hJ
  obtain ⟨-, -, -, r3, -, -, -, -, -, -, -, -, -, -, -, -, -, r17, -, -, -, r21, r22, -, r24, -, r26, r27, -⟩ := hr
  have r3 : (2 : Int) ≤ ρ 3 ∧ ρ 3 ≤ 2 := r3
  have r17 : (0 : Int) ≤ ρ 17 ∧ ρ 17 ≤ 0 := r17
  have r21 : (4 : Int) ≤ ρ 21 ∧ ρ 21 ≤ 4 := r21
  have r22 : (0 : Int) ≤ ρ 22 ∧ ρ 22 ≤ 2 := r22
  have r24 : (0 : Int) ≤ ρ 24 ∧ ρ 24 ≤ 2 := r24
  have r26 : (3 : Int) ≤ ρ 26 ∧ ρ 26 ≤ 3 := r26
  have r27 : (0 : Int) ≤ ρ 27 ∧ ρ 27 ≤ 2 := r27
  obtain ⟨-, -, -, f3, -⟩ := hf
  have f3 : (0 : Int) ≤ ρ 18 + -ρ 15 + (-1) := f3
  obtain ⟨w_0, w_1, w_2, w_3, w_4, w_5, w_6, w_7, w_8, w_9, w_10, w_11⟩ : (¬ (ρ 15 ≥ ρ 18)) ∧ (¬ (ρ 17 ≠ 0)) ∧ (ρ 3 ≤ 2) ∧ (ρ 3 ≠ 1) ∧ (¬ (0 ≥ ρ 21)) ∧ (ρ 22 ≠ 3) ∧ (¬ (1 ≥ ρ 21)) ∧ (ρ 24 ≠ 3) ∧ (¬ (2 ≥ ρ 21)) ∧ (¬ (ρ 26 ≠ 3)) ∧ (¬ (3 ≥ ρ 21)) ∧ (ρ 27 ≠ 3) := ⟨by omega, by omega, by omega, by omega, by omega, by omega, by omega, by omega, by omega, by omega, by omega, by omega⟩
  obtain ⟨-, -, m2, -, -, -, m6, -, -, -, -, -, -, -, -, m15, m16, -, -, m19, m20, m21, m22, m23, m24, m25, m26, m27, -⟩ := hm
  have m2 : γ 0 71 0 (ρ 0) = ρ 3 := m2
  have m6 : γ 0 69 0 (ρ 0) = ρ 7 := m6
  have m15 : γ 1 15 0 77 = ρ 17 := m15
  have m16 : γ 1 15 0 90 = ρ 18 := m16
  have m19 : γ 1 107 0 (ρ 15) = ρ 20 := m19
  have m20 : γ 0 66 0 (ρ 7) = ρ 21 := m20
  have m21 : γ 0 70 0 (4 * ρ 0) = ρ 22 := m21
  have m22 : γ 1 105 0 (4 * ρ 15) = ρ 23 := m22
  have m23 : γ 0 70 0 (4 * ρ 0 + 1) = ρ 24 := m23
  have m24 : γ 1 105 0 (4 * ρ 15 + 1) = ρ 25 := m24
  have m25 : γ 0 70 0 (4 * ρ 0 + 2) = ρ 26 := m25
  have m26 : γ 0 70 0 (4 * ρ 0 + 3) = ρ 27 := m26
  have m27 : γ 1 105 0 (4 * ρ 15 + 3) = ρ 28 := m27
  obtain ⟨⟨⟨⟨⟨-, c2⟩, c3⟩, c4⟩, c5⟩, -⟩ := hc
  have c2 : γ 2 = rUp (γ 1) 102 0 0 (ρ 23) := c2
  have c3 : γ 3 = rUp (γ 2) 102 0 1 (ρ 25) := c3
  have c4 : γ 4 = rUp (γ 3) 102 0 2 (ρ 20) := c4
  have c5 : γ 5 = rUp (γ 4) 102 0 3 (ρ 28) := c5
  obtain ⟨l0, -⟩ := hl
  have l0 : sn57 [ρ 7, ρ 0, ρ 2, ρ 19, ρ 29, ρ 30, ρ 31, ρ 10, ρ 17] (γ 5) 0 0 (γ 6) := hS57 _ _ _ _ _ l0
  show jn75 [ρ 0, ρ 1, ρ 2, ρ 3, ρ 4, ρ 5, ρ 6, ρ 7, ρ 8, ρ 9, ρ 10, ρ 11, ρ 12, ρ 13, ρ 14] (γ 0) 0 [ρ 0, ρ 1, ρ 2, ρ 3, ρ 4, ρ 5, ρ 6, ρ 7, ρ 8, ρ 9, ρ 10, ρ 11, ρ 12, ρ 13, ρ 14, ρ 15 + 1, ρ 16, ρ 36, ρ 18, ρ 32] (γ 6)
  have hD : en75 (γ 0) (0, [ρ 0, ρ 15], γ 1) = .inl (0, [ρ 0, ρ 15 + 1], γ 6) := by
    unfold en75
    refine (if_pos (show (0 : Nat) = 0 by decide)).trans ?_
    refine (zLet_eq (show _ = γ 1 from rfl)).trans ?_
    refine (zLet_eq (show _ = ρ 0 from rfl)).trans ?_
    refine (zLet_eq (show _ = ρ 15 from rfl)).trans ?_
    refine (zLet_eq m2).trans ?_
    refine (zLet_eq m6).trans ?_
    refine (zLet_eq m15).trans ?_
    refine (zLet_eq m16).trans ?_
    refine (if_neg w_0).trans ?_
    refine (if_neg w_1).trans ?_
    refine (if_pos w_2).trans ?_
    refine (if_pos w_3).trans ?_
    refine (zLet_eq m19).trans ?_
    refine (zLet_eq m20).trans ?_
    refine (if_neg w_4).trans ?_
    refine (zLet_eq m21).trans ?_
    refine (if_pos w_5).trans ?_
    refine (zLet_eq m22).trans ?_
    refine (zLet_eq c2.symm).trans ?_
    refine (if_neg w_6).trans ?_
    refine (zLet_eq m23).trans ?_
    refine (if_pos w_7).trans ?_
    refine (zLet_eq m24).trans ?_
    refine (zLet_eq c3.symm).trans ?_
    refine (if_neg w_8).trans ?_
    refine (zLet_eq m25).trans ?_
    refine (if_neg w_9).trans ?_
    refine (zLet_eq c4.symm).trans ?_
    refine (if_neg w_10).trans ?_
    refine (zLet_eq m26).trans ?_
    refine (if_pos w_11).trans ?_
    refine (zLet_eq m27).trans ?_
    refine (zLet_eq c5.symm).trans ?_
    refine (zLet_eq (show fn57 [ρ 7, ρ 0] (γ 5) = (0, 0, γ 6) from l0.symm)).trans ?_
    refine (zLet_eq (show _ = γ 6 from rfl)).trans ?_
    rfl
  exact zGoo_ato hJ hD
theorem vn75a0_10 {S : Nat → zSpc} (hS57 : ∀ x g o v gz, S 57 x g o v gz → sn57 x g o v gz) (hS73 : ∀ x g o v gz, S 73 x g o v gz → sn73 x g o v gz) {a : List Int} {g : rHp} : ∀ (ρ : Nat → Int) (γ : Nat → rHp), jn75 a g 0 (zAg (zNA a75_ 0) ρ) (γ 1) → zO 15 S a g q75a0_10 ρ γ → zGl (fun i vs g1 => jn75 a g i vs g1) (sn75 a g) q75a0_10 ρ γ := by
  intro ρ γ hJ h
  obtain ⟨ha, hg, hr, hf, hm, hc, hl⟩ := h
  have ha : a = [ρ 0, ρ 1, ρ 2, ρ 3, ρ 4, ρ 5, ρ 6, ρ 7, ρ 8, ρ 9, ρ 10, ρ 11, ρ 12, ρ 13, ρ 14] := ha
  subst ha
  subst hg
  have hJ : jn75 [ρ 0, ρ 1, ρ 2, ρ 3, ρ 4, ρ 5, ρ 6, ρ 7, ρ 8, ρ 9, ρ 10, ρ 11, ρ 12, ρ 13, ρ 14] (γ 0) 0 [ρ 0, ρ 1, ρ 2, ρ 3, ρ 4, ρ 5, ρ 6, ρ 7, ρ 8, ρ 9, ρ 10, ρ 11, ρ 12, ρ 13, ρ 14, ρ 15, ρ 16, ρ 17, ρ 18, ρ 19] (γ 1) := hJ
  obtain ⟨-, -, -, r3, -, -, -, -, -, -, -, -, -, -, -, -, -, r17, -, -, -, r21, r22, -, r24, -, r26, r27, -⟩ := hr
  have r3 : (2 : Int) ≤ ρ 3 ∧ ρ 3 ≤ 2 := r3
  have r17 : (0 : Int) ≤ ρ 17 ∧ ρ 17 ≤ 0 := r17
  have r21 : (4 : Int) ≤ ρ 21 ∧ ρ 21 ≤ 4 := r21
  have r22 : (0 : Int) ≤ ρ 22 ∧ ρ 22 ≤ 2 := r22
  have r24 : (0 : Int) ≤ ρ 24 ∧ ρ 24 ≤ 2 := r24
  have r26 : (3 : Int) ≤ ρ 26 ∧ ρ 26 ≤ 3 := r26
  have r27 : (3 : Int) ≤ ρ 27 ∧ ρ 27 ≤ 3 := r27
  obtain ⟨-, -, -, f3, -⟩ := hf
  have f3 : (0 : Int) ≤ ρ 18 + -ρ 15 + (-1) := f3
  obtain ⟨w_0, w_1, w_2, w_3, w_4, w_5, w_6, w_7, w_8, w_9, w_10, w_11⟩ : (¬ (ρ 15 ≥ ρ 18)) ∧ (¬ (ρ 17 ≠ 0)) ∧ (ρ 3 ≤ 2) ∧ (ρ 3 ≠ 1) ∧ (¬ (0 ≥ ρ 21)) ∧ (ρ 22 ≠ 3) ∧ (¬ (1 ≥ ρ 21)) ∧ (ρ 24 ≠ 3) ∧ (¬ (2 ≥ ρ 21)) ∧ (¬ (ρ 26 ≠ 3)) ∧ (¬ (3 ≥ ρ 21)) ∧ (¬ (ρ 27 ≠ 3)) := ⟨by omega, by omega, by omega, by omega, by omega, by omega, by omega, by omega, by omega, by omega, by omega, by omega⟩
  obtain ⟨-, -, m2, -, -, -, m6, -, -, -, -, -, -, -, -, m15, m16, -, -, m19, m20, m21, m22, m23, m24, m25, m26, -⟩ := hm
  have m2 : γ 0 71 0 (ρ 0) = ρ 3 := m2
  have m6 : γ 0 69 0 (ρ 0) = ρ 7 := m6
  have m15 : γ 1 15 0 77 = ρ 17 := m15
  have m16 : γ 1 15 0 90 = ρ 18 := m16
  have m19 : γ 1 107 0 (ρ 15) = ρ 20 := m19
  have m20 : γ 0 66 0 (ρ 7) = ρ 21 := m20
  have m21 : γ 0 70 0 (4 * ρ 0) = ρ 22 := m21
  have m22 : γ 1 105 0 (4 * ρ 15) = ρ 23 := m22
  have m23 : γ 0 70 0 (4 * ρ 0 + 1) = ρ 24 := m23
  have m24 : γ 1 105 0 (4 * ρ 15 + 1) = ρ 25 := m24
  have m25 : γ 0 70 0 (4 * ρ 0 + 2) = ρ 26 := m25
  have m26 : γ 0 70 0 (4 * ρ 0 + 3) = ρ 27 := m26
  obtain ⟨⟨⟨⟨⟨-, c2⟩, c3⟩, c4⟩, c5⟩, -⟩ := hc
  have c2 : γ 2 = rUp (γ 1) 102 0 0 (ρ 23) := c2
  have c3 : γ 3 = rUp (γ 2) 102 0 1 (ρ 25) := c3
  have c4 : γ 4 = rUp (γ 3) 102 0 2 (ρ 20) := c4
  have c5 : γ 5 = rUp (γ 4) 102 0 3 (ρ 20) := c5
  obtain ⟨l0, -⟩ := hl
  have l0 : sn57 [ρ 7, ρ 0, ρ 2, ρ 19, ρ 28, ρ 29, ρ 30, ρ 10, ρ 17] (γ 5) 0 0 (γ 6) := hS57 _ _ _ _ _ l0
  show jn75 [ρ 0, ρ 1, ρ 2, ρ 3, ρ 4, ρ 5, ρ 6, ρ 7, ρ 8, ρ 9, ρ 10, ρ 11, ρ 12, ρ 13, ρ 14] (γ 0) 0 [ρ 0, ρ 1, ρ 2, ρ 3, ρ 4, ρ 5, ρ 6, ρ 7, ρ 8, ρ 9, ρ 10, ρ 11, ρ 12, ρ 13, ρ 14, ρ 15 + 1, ρ 16, ρ 35, ρ 18, ρ 31] (γ 6)
  have hD : en75 (γ 0) (0, [ρ 0, ρ 15], γ 1) = .inl (0, [ρ 0, ρ 15 + 1], γ 6) := by
    unfold en75
    refine (if_pos (show (0 : Nat) = 0 by decide)).trans ?_
    refine (zLet_eq (show _ = γ 1 from rfl)).trans ?_
    refine (zLet_eq (show _ = ρ 0 from rfl)).trans ?_
    refine (zLet_eq (show _ = ρ 15 from rfl)).trans ?_
    refine (zLet_eq m2).trans ?_
    refine (zLet_eq m6).trans ?_
    refine (zLet_eq m15).trans ?_
    refine (zLet_eq m16).trans ?_
    refine (if_neg w_0).trans ?_
    refine (if_neg w_1).trans ?_
    refine (if_pos w_2).trans ?_
    refine (if_pos w_3).trans ?_
    refine (zLet_eq m19).trans ?_
    refine (zLet_eq m20).trans ?_
    refine (if_neg w_4).trans ?_
    refine (zLet_eq m21).trans ?_
    refine (if_pos w_5).trans ?_
    refine (zLet_eq m22).trans ?_
    refine (zLet_eq c2.symm).trans ?_
    refine (if_neg w_6).trans ?_
    refine (zLet_eq m23).trans ?_
    refine (if_pos w_7).trans ?_
    refine (zLet_eq m24).trans ?_
    refine (zLet_eq c3.symm).trans ?_
    refine (if_neg w_8).trans ?_
    refine (zLet_eq m25).trans ?_
    refine (if_neg w_9).trans ?_
    refine (zLet_eq c4.symm).trans ?_
    refine (if_neg w_10).trans ?_
    refine (zLet_eq m26).trans ?_
    refine (if_neg w_11).trans ?_
    refine (zLet_eq c5.symm).trans ?_
    refine (zLet_eq (show fn57 [ρ 7, ρ 0] (γ 5) = (0, 0, γ 6) from l0.symm)).trans ?_
    refine (zLet_eq (show _ = γ 6 from rfl)).trans ?_
    rfl
  exact zGoo_ato hJ hD
theorem vn75a0_11 {S : Nat → zSpc} (hS57 : ∀ x g o v gz, S 57 x g o v gz → sn57 x g o v gz) (hS73 : ∀ x g o v gz, S 73 x g o v gz → sn73 x g o v gz) {a : List Int} {g : rHp} : ∀ (ρ : Nat → Int) (γ : Nat → rHp), jn75 a g 0 (zAg (zNA a75_ 0) ρ) (γ 1) → zO 15 S a g q75a0_11 ρ γ → zGl (fun i vs g1 => jn75 a g i vs g1) (sn75 a g) q75a0_11 ρ γ := by
  intro ρ γ hJ h
  obtain ⟨ha, hg, hr, hf, hm, hc, hl⟩ := h
  have ha : a = [ρ 0, ρ 1, ρ 2, ρ 3, ρ 4, ρ 5, ρ 6, ρ 7, ρ 8, ρ 9, ρ 10, ρ 11, ρ 12, ρ 13, ρ 14] := ha
  subst ha
  subst hg
  have hJ : jn75 [ρ 0, ρ 1, ρ 2, ρ 3, ρ 4, ρ 5, ρ 6, ρ 7, ρ 8, ρ 9, ρ 10, ρ 11, ρ 12, ρ 13, ρ 14] (γ 0) 0 [ρ 0, ρ 1, ρ 2, ρ 3, ρ 4, ρ 5, ρ 6, ρ 7, ρ 8, ρ 9, ρ 10, ρ 11, ρ 12, ρ 13, ρ 14, ρ 15, ρ 16, ρ 17, ρ 18, ρ 19] (γ 1) := hJ
  obtain ⟨-, -, -, r3, -, -, -, -, -, -, -, -, -, -, -, -, -, r17, -, -, -, r21, r22, -, r24, -⟩ := hr
  have r3 : (2 : Int) ≤ ρ 3 ∧ ρ 3 ≤ 2 := r3
  have r17 : (0 : Int) ≤ ρ 17 ∧ ρ 17 ≤ 0 := r17
  have r21 : (2 : Int) ≤ ρ 21 ∧ ρ 21 ≤ 2 := r21
  have r22 : (0 : Int) ≤ ρ 22 ∧ ρ 22 ≤ 2 := r22
  have r24 : (3 : Int) ≤ ρ 24 ∧ ρ 24 ≤ 3 := r24
  obtain ⟨-, -, -, f3, -⟩ := hf
  have f3 : (0 : Int) ≤ ρ 18 + -ρ 15 + (-1) := f3
  obtain ⟨w_0, w_1, w_2, w_3, w_4, w_5, w_6, w_7, w_8⟩ : (¬ (ρ 15 ≥ ρ 18)) ∧ (¬ (ρ 17 ≠ 0)) ∧ (ρ 3 ≤ 2) ∧ (ρ 3 ≠ 1) ∧ (¬ (0 ≥ ρ 21)) ∧ (ρ 22 ≠ 3) ∧ (¬ (1 ≥ ρ 21)) ∧ (¬ (ρ 24 ≠ 3)) ∧ (2 ≥ ρ 21) := ⟨by omega, by omega, by omega, by omega, by omega, by omega, by omega, by omega, by omega⟩
  obtain ⟨-, -, m2, -, -, -, m6, -, -, -, -, -, -, -, -, m15, m16, -, -, m19, m20, m21, m22, m23, m24, m25, -⟩ := hm
  have m2 : γ 0 71 0 (ρ 0) = ρ 3 := m2
  have m6 : γ 0 69 0 (ρ 0) = ρ 7 := m6
  have m15 : γ 1 15 0 77 = ρ 17 := m15
  have m16 : γ 1 15 0 90 = ρ 18 := m16
  have m19 : γ 1 107 0 (ρ 15) = ρ 20 := m19
  have m20 : γ 0 66 0 (ρ 7) = ρ 21 := m20
  have m21 : γ 0 70 0 (4 * ρ 0) = ρ 22 := m21
  have m22 : γ 1 105 0 (4 * ρ 15) = ρ 23 := m22
  have m23 : γ 0 70 0 (4 * ρ 0 + 1) = ρ 24 := m23
  have m24 : γ 1 105 0 (4 * ρ 15 + 2) = ρ 25 := m24
  have m25 : γ 1 105 0 (4 * ρ 15 + 3) = ρ 26 := m25
  obtain ⟨⟨⟨⟨⟨-, c2⟩, c3⟩, c4⟩, c5⟩, -⟩ := hc
  have c2 : γ 2 = rUp (γ 1) 102 0 0 (ρ 23) := c2
  have c3 : γ 3 = rUp (γ 2) 102 0 1 (ρ 20) := c3
  have c4 : γ 4 = rUp (γ 3) 102 0 2 (ρ 25) := c4
  have c5 : γ 5 = rUp (γ 4) 102 0 3 (ρ 26) := c5
  obtain ⟨l0, -⟩ := hl
  have l0 : sn57 [ρ 7, ρ 0, ρ 2, ρ 19, ρ 27, ρ 28, ρ 29, ρ 10, ρ 17] (γ 5) 0 0 (γ 6) := hS57 _ _ _ _ _ l0
  show jn75 [ρ 0, ρ 1, ρ 2, ρ 3, ρ 4, ρ 5, ρ 6, ρ 7, ρ 8, ρ 9, ρ 10, ρ 11, ρ 12, ρ 13, ρ 14] (γ 0) 0 [ρ 0, ρ 1, ρ 2, ρ 3, ρ 4, ρ 5, ρ 6, ρ 7, ρ 8, ρ 9, ρ 10, ρ 11, ρ 12, ρ 13, ρ 14, ρ 15 + 1, ρ 16, ρ 34, ρ 18, ρ 30] (γ 6)
  have hD : en75 (γ 0) (0, [ρ 0, ρ 15], γ 1) = .inl (0, [ρ 0, ρ 15 + 1], γ 6) := by
    unfold en75
    refine (if_pos (show (0 : Nat) = 0 by decide)).trans ?_
    refine (zLet_eq (show _ = γ 1 from rfl)).trans ?_
    refine (zLet_eq (show _ = ρ 0 from rfl)).trans ?_
    refine (zLet_eq (show _ = ρ 15 from rfl)).trans ?_
    refine (zLet_eq m2).trans ?_
    refine (zLet_eq m6).trans ?_
    refine (zLet_eq m15).trans ?_
    refine (zLet_eq m16).trans ?_
    refine (if_neg w_0).trans ?_
    refine (if_neg w_1).trans ?_
    refine (if_pos w_2).trans ?_
    refine (if_pos w_3).trans ?_
    refine (zLet_eq m19).trans ?_
    refine (zLet_eq m20).trans ?_
    refine (if_neg w_4).trans ?_
    refine (zLet_eq m21).trans ?_
    refine (if_pos w_5).trans ?_
    refine (zLet_eq m22).trans ?_
    refine (zLet_eq c2.symm).trans ?_
    refine (if_neg w_6).trans ?_
    refine (zLet_eq m23).trans ?_
    refine (if_neg w_7).trans ?_
    refine (zLet_eq c3.symm).trans ?_
    refine (if_pos w_8).trans ?_
    refine (zLet_eq m24).trans ?_
    refine (zLet_eq c4.symm).trans ?_
    refine (zLet_eq m25).trans ?_
    refine (zLet_eq c5.symm).trans ?_
    refine (zLet_eq (show fn57 [ρ 7, ρ 0] (γ 5) = (0, 0, γ 6) from l0.symm)).trans ?_
    refine (zLet_eq (show _ = γ 6 from rfl)).trans ?_
    rfl
  exact zGoo_ato hJ hD
theorem vn75a0_12 {S : Nat → zSpc} (hS57 : ∀ x g o v gz, S 57 x g o v gz → sn57 x g o v gz) (hS73 : ∀ x g o v gz, S 73 x g o v gz → sn73 x g o v gz) {a : List Int} {g : rHp} : ∀ (ρ : Nat → Int) (γ : Nat → rHp), jn75 a g 0 (zAg (zNA a75_ 0) ρ) (γ 1) → zO 15 S a g q75a0_12 ρ γ → zGl (fun i vs g1 => jn75 a g i vs g1) (sn75 a g) q75a0_12 ρ γ := by
  intro ρ γ hJ h
  obtain ⟨ha, hg, hr, hf, hm, hc, hl⟩ := h
  have ha : a = [ρ 0, ρ 1, ρ 2, ρ 3, ρ 4, ρ 5, ρ 6, ρ 7, ρ 8, ρ 9, ρ 10, ρ 11, ρ 12, ρ 13, ρ 14] := ha
  subst ha
  subst hg
  have hJ : jn75 [ρ 0, ρ 1, ρ 2, ρ 3, ρ 4, ρ 5, ρ 6, ρ 7, ρ 8, ρ 9, ρ 10, ρ 11, ρ 12, ρ 13, ρ 14] (γ 0) 0 [ρ 0, ρ 1, ρ 2, ρ 3, ρ 4, ρ 5, ρ 6, ρ 7, ρ 8, ρ 9, ρ 10, ρ 11, ρ 12, ρ 13, ρ 14, ρ 15, ρ 16, ρ 17, ρ 18, ρ 19] (γ 1) := hJ
  obtain ⟨-, -, -, r3, -, -, -, -, -, -, -, -, -, -, -, -, -, r17, -, -, -, r21, r22, -, r24, r25, -⟩ := hr
  have r3 : (2 : Int) ≤ ρ 3 ∧ ρ 3 ≤ 2 := r3
  have r17 : (0 : Int) ≤ ρ 17 ∧ ρ 17 ≤ 0 := r17
  have r21 : (3 : Int) ≤ ρ 21 ∧ ρ 21 ≤ 3 := r21
  have r22 : (0 : Int) ≤ ρ 22 ∧ ρ 22 ≤ 2 := r22
  have r24 : (3 : Int) ≤ ρ 24 ∧ ρ 24 ≤ 3 := r24
  have r25 : (0 : Int) ≤ ρ 25 ∧ ρ 25 ≤ 2 := r25
  obtain ⟨-, -, -, f3, -⟩ := hf
  have f3 : (0 : Int) ≤ ρ 18 + -ρ 15 + (-1) := f3
  obtain ⟨w_0, w_1, w_2, w_3, w_4, w_5, w_6, w_7, w_8, w_9, w_10⟩ : (¬ (ρ 15 ≥ ρ 18)) ∧ (¬ (ρ 17 ≠ 0)) ∧ (ρ 3 ≤ 2) ∧ (ρ 3 ≠ 1) ∧ (¬ (0 ≥ ρ 21)) ∧ (ρ 22 ≠ 3) ∧ (¬ (1 ≥ ρ 21)) ∧ (¬ (ρ 24 ≠ 3)) ∧ (¬ (2 ≥ ρ 21)) ∧ (ρ 25 ≠ 3) ∧ (3 ≥ ρ 21) := ⟨by omega, by omega, by omega, by omega, by omega, by omega, by omega, by omega, by omega, by omega, by omega⟩
  obtain ⟨-, -, m2, -, -, -, m6, -, -, -, -, -, -, -, -, m15, m16, -, -, m19, m20, m21, m22, m23, m24, m25, m26, -⟩ := hm
  have m2 : γ 0 71 0 (ρ 0) = ρ 3 := m2
  have m6 : γ 0 69 0 (ρ 0) = ρ 7 := m6
  have m15 : γ 1 15 0 77 = ρ 17 := m15
  have m16 : γ 1 15 0 90 = ρ 18 := m16
  have m19 : γ 1 107 0 (ρ 15) = ρ 20 := m19
  have m20 : γ 0 66 0 (ρ 7) = ρ 21 := m20
  have m21 : γ 0 70 0 (4 * ρ 0) = ρ 22 := m21
  have m22 : γ 1 105 0 (4 * ρ 15) = ρ 23 := m22
  have m23 : γ 0 70 0 (4 * ρ 0 + 1) = ρ 24 := m23
  have m24 : γ 0 70 0 (4 * ρ 0 + 2) = ρ 25 := m24
  have m25 : γ 1 105 0 (4 * ρ 15 + 2) = ρ 26 := m25
  have m26 : γ 1 105 0 (4 * ρ 15 + 3) = ρ 27 := m26
  obtain ⟨⟨⟨⟨⟨-, c2⟩, c3⟩, c4⟩, c5⟩, -⟩ := hc
  have c2 : γ 2 = rUp (γ 1) 102 0 0 (ρ 23) := c2
  have c3 : γ 3 = rUp (γ 2) 102 0 1 (ρ 20) := c3
  have c4 : γ 4 = rUp (γ 3) 102 0 2 (ρ 26) := c4
  have c5 : γ 5 = rUp (γ 4) 102 0 3 (ρ 27) := c5
  obtain ⟨l0, -⟩ := hl
  have l0 : sn57 [ρ 7, ρ 0, ρ 2, ρ 19, ρ 28, ρ 29, ρ 30, ρ 10, ρ 17] (γ 5) 0 0 (γ 6) := hS57 _ _ _ _ _ l0
  show jn75 [ρ 0, ρ 1, ρ 2, ρ 3, ρ 4, ρ 5, ρ 6, ρ 7, ρ 8, ρ 9, ρ 10, ρ 11, ρ 12, ρ 13, ρ 14] (γ 0) 0 [ρ 0, ρ 1, ρ 2, ρ 3, ρ 4, ρ 5, ρ 6, ρ 7, ρ 8, ρ 9, ρ 10, ρ 11, ρ 12, ρ 13, ρ 14, ρ 15 + 1, ρ 16, ρ 35, ρ 18, ρ 31] (γ 6)
  have hD : en75 (γ 0) (0, [ρ 0, ρ 15], γ 1) = .inl (0, [ρ 0, ρ 15 + 1], γ 6) := by
    unfold en75
    refine (if_pos (show (0 : Nat) = 0 by decide)).trans ?_
    refine (zLet_eq (show _ = γ 1 from rfl)).trans ?_
    refine (zLet_eq (show _ = ρ 0 from rfl)).trans ?_
    refine (zLet_eq (show _ = ρ 15 from rfl)).trans ?_
    refine (zLet_eq m2).trans ?_
    refine (zLet_eq m6).trans ?_
    refine (zLet_eq m15).trans ?_
    refine (zLet_eq m16).trans ?_
    refine (if_neg w_0).trans ?_
    refine (if_neg w_1).trans ?_
    refine (if_pos w_2).trans ?_
    refine (if_pos w_3).trans ?_
    refine (zLet_eq m19).trans ?_
    refine (zLet_eq m20).trans ?_
    refine (if_neg w_4).trans ?_
    refine (zLet_eq m21).trans ?_
    refine (if_pos w_5).trans ?_
    refine (zLet_eq m22).trans ?_
    refine (zLet_eq c2.symm).trans ?_
    refine (if_neg w_6).trans ?_
    refine (zLet_eq m23).trans ?_
    refine (if_neg w_7).trans ?_
    refine (zLet_eq c3.symm).trans ?_
    refine (if_neg w_8).trans ?_
    refine (zLet_eq m24).trans ?_
    refine (if_pos w_9).trans ?_
    refine (zLet_eq m25).trans ?_
    refine (zLet_eq c4.symm).trans ?_
    refine (if_pos w_10).trans ?_
    refine (zLet_eq m26).trans ?_
    refine (zLet_eq c5.symm).trans ?_
    refine (zLet_eq (show fn57 [ρ 7, ρ 0] (γ 5) = (0, 0, γ 6) from l0.symm)).trans ?_
    refine (zLet_eq (show _ = γ 6 from rfl)).trans ?_
    rfl
  exact zGoo_ato hJ hD
theorem vn75a0_13 {S : Nat → zSpc} (hS57 : ∀ x g o v gz, S 57 x g o v gz → sn57 x g o v gz) (hS73 : ∀ x g o v gz, S 73 x g o v gz → sn73 x g o v gz) {a : List Int} {g : rHp} : ∀ (ρ : Nat → Int) (γ : Nat → rHp), jn75 a g 0 (zAg (zNA a75_ 0) ρ) (γ 1) → zO 15 S a g q75a0_13 ρ γ → zGl (fun i vs g1 => jn75 a g i vs g1) (sn75 a g) q75a0_13 ρ γ := by
  intro ρ γ hJ h
  obtain ⟨ha, hg, hr, hf, hm, hc, hl⟩ := h
  have ha : a = [ρ 0, ρ 1, ρ 2, ρ 3, ρ 4, ρ 5, ρ 6, ρ 7, ρ 8, ρ 9, ρ 10, ρ 11, ρ 12, ρ 13, ρ 14] := ha
  subst ha
  subst hg
  have hJ : jn75 [ρ 0, ρ 1, ρ 2, ρ 3, ρ 4, ρ 5, ρ 6, ρ 7, ρ 8, ρ 9, ρ 10, ρ 11, ρ 12, ρ 13, ρ 14] (γ 0) 0 [ρ 0, ρ 1, ρ 2, ρ 3, ρ 4, ρ 5, ρ 6, ρ 7, ρ 8, ρ 9, ρ 10, ρ 11, ρ 12, ρ 13, ρ 14, ρ 15, ρ 16, ρ 17, ρ 18, ρ 19] (γ 1) := hJ
  obtain ⟨-, -, -, r3, -, -, -, -, -, -, -, -, -, -, -, -, -, r17, -, -, -, r21, r22, -, r24, r25, -, r27, -⟩ := hr
  have r3 : (2 : Int) ≤ ρ 3 ∧ ρ 3 ≤ 2 := r3
  have r17 : (0 : Int) ≤ ρ 17 ∧ ρ 17 ≤ 0 := r17
  have r21 : (4 : Int) ≤ ρ 21 ∧ ρ 21 ≤ 4 := r21
  have r22 : (0 : Int) ≤ ρ 22 ∧ ρ 22 ≤ 2 := r22
  have r24 : (3 : Int) ≤ ρ 24 ∧ ρ 24 ≤ 3 := r24
  have r25 : (0 : Int) ≤ ρ 25 ∧ ρ 25 ≤ 2 := r25
  have r27 : (0 : Int) ≤ ρ 27 ∧ ρ 27 ≤ 2 := r27
  obtain ⟨-, -, -, f3, -⟩ := hf
  have f3 : (0 : Int) ≤ ρ 18 + -ρ 15 + (-1) := f3
  obtain ⟨w_0, w_1, w_2, w_3, w_4, w_5, w_6, w_7, w_8, w_9, w_10, w_11⟩ : (¬ (ρ 15 ≥ ρ 18)) ∧ (¬ (ρ 17 ≠ 0)) ∧ (ρ 3 ≤ 2) ∧ (ρ 3 ≠ 1) ∧ (¬ (0 ≥ ρ 21)) ∧ (ρ 22 ≠ 3) ∧ (¬ (1 ≥ ρ 21)) ∧ (¬ (ρ 24 ≠ 3)) ∧ (¬ (2 ≥ ρ 21)) ∧ (ρ 25 ≠ 3) ∧ (¬ (3 ≥ ρ 21)) ∧ (ρ 27 ≠ 3) := ⟨by omega, by omega, by omega, by omega, by omega, by omega, by omega, by omega, by omega, by omega, by omega, by omega⟩
  obtain ⟨-, -, m2, -, -, -, m6, -, -, -, -, -, -, -, -, m15, m16, -, -, m19, m20, m21, m22, m23, m24, m25, m26, m27, -⟩ := hm
  have m2 : γ 0 71 0 (ρ 0) = ρ 3 := m2
  have m6 : γ 0 69 0 (ρ 0) = ρ 7 := m6
  have m15 : γ 1 15 0 77 = ρ 17 := m15
  have m16 : γ 1 15 0 90 = ρ 18 := m16
  have m19 : γ 1 107 0 (ρ 15) = ρ 20 := m19
  have m20 : γ 0 66 0 (ρ 7) = ρ 21 := m20
  have m21 : γ 0 70 0 (4 * ρ 0) = ρ 22 := m21
  have m22 : γ 1 105 0 (4 * ρ 15) = ρ 23 := m22
  have m23 : γ 0 70 0 (4 * ρ 0 + 1) = ρ 24 := m23
  have m24 : γ 0 70 0 (4 * ρ 0 + 2) = ρ 25 := m24
  have m25 : γ 1 105 0 (4 * ρ 15 + 2) = ρ 26 := m25
  have m26 : γ 0 70 0 (4 * ρ 0 + 3) = ρ 27 := m26
  have m27 : γ 1 105 0 (4 * ρ 15 + 3) = ρ 28 := m27
  obtain ⟨⟨⟨⟨⟨-, c2⟩, c3⟩, c4⟩, c5⟩, -⟩ := hc
  have c2 : γ 2 = rUp (γ 1) 102 0 0 (ρ 23) := c2
  have c3 : γ 3 = rUp (γ 2) 102 0 1 (ρ 20) := c3
  have c4 : γ 4 = rUp (γ 3) 102 0 2 (ρ 26) := c4
  have c5 : γ 5 = rUp (γ 4) 102 0 3 (ρ 28) := c5
  obtain ⟨l0, -⟩ := hl
  have l0 : sn57 [ρ 7, ρ 0, ρ 2, ρ 19, ρ 29, ρ 30, ρ 31, ρ 10, ρ 17] (γ 5) 0 0 (γ 6) := hS57 _ _ _ _ _ l0
  show jn75 [ρ 0, ρ 1, ρ 2, ρ 3, ρ 4, ρ 5, ρ 6, ρ 7, ρ 8, ρ 9, ρ 10, ρ 11, ρ 12, ρ 13, ρ 14] (γ 0) 0 [ρ 0, ρ 1, ρ 2, ρ 3, ρ 4, ρ 5, ρ 6, ρ 7, ρ 8, ρ 9, ρ 10, ρ 11, ρ 12, ρ 13, ρ 14, ρ 15 + 1, ρ 16, ρ 36, ρ 18, ρ 32] (γ 6)
  have hD : en75 (γ 0) (0, [ρ 0, ρ 15], γ 1) = .inl (0, [ρ 0, ρ 15 + 1], γ 6) := by
    unfold en75
    refine (if_pos (show (0 : Nat) = 0 by decide)).trans ?_
    refine (zLet_eq (show _ = γ 1 from rfl)).trans ?_
    refine (zLet_eq (show _ = ρ 0 from rfl)).trans ?_
    refine (zLet_eq (show _ = ρ 15 from rfl)).trans ?_
    refine (zLet_eq m2).trans ?_
    refine (zLet_eq m6).trans ?_
    refine (zLet_eq m15).trans ?_
    refine (zLet_eq m16).trans ?_
    refine (if_neg w_0).trans ?_
    refine (if_neg w_1).trans ?_
    refine (if_pos w_2).trans ?_
    refine (if_pos w_3).trans ?_
    refine (zLet_eq m19).trans ?_
    refine (zLet_eq m20).trans ?_
    refine (if_neg w_4).trans ?_
    refine (zLet_eq m21).trans ?_
    refine (if_pos w_5).trans ?_
    refine (zLet_eq m22).trans ?_
    refine (zLet_eq c2.symm).trans ?_
    refine (if_neg w_6).trans ?_
    refine (zLet_eq m23).trans ?_
    refine (if_neg w_7).trans ?_
    refine (zLet_eq c3.symm).trans ?_
    refine (if_neg w_8).trans ?_
    refine (zLet_eq m24).trans ?_
    refine (if_pos w_9).trans ?_
    refine (zLet_eq m25).trans ?_
    refine (zLet_eq c4.symm).trans ?_
    refine (if_neg w_10).trans ?_
    refine (zLet_eq m26).trans ?_
    refine (if_pos w_11).trans ?_
    refine (zLet_eq m27).trans ?_
    refine (zLet_eq c5.symm).trans ?_
    refine (zLet_eq (show fn57 [ρ 7, ρ 0] (γ 5) = (0, 0, γ 6) from l0.symm)).trans ?_
    refine (zLet_eq (show _ = γ 6 from rfl)).trans ?_
    rfl
  exact zGoo_ato hJ hD
theorem vn75a0_14 {S : Nat → zSpc} (hS57 : ∀ x g o v gz, S 57 x g o v gz → sn57 x g o v gz) (hS73 : ∀ x g o v gz, S 73 x g o v gz → sn73 x g o v gz) {a : List Int} {g : rHp} : ∀ (ρ : Nat → Int) (γ : Nat → rHp), jn75 a g 0 (zAg (zNA a75_ 0) ρ) (γ 1) → zO 15 S a g q75a0_14 ρ γ → zGl (fun i vs g1 => jn75 a g i vs g1) (sn75 a g) q75a0_14 ρ γ := by
  intro ρ γ hJ h
  obtain ⟨ha, hg, hr, hf, hm, hc, hl⟩ := h
  have ha : a = [ρ 0, ρ 1, ρ 2, ρ 3, ρ 4, ρ 5, ρ 6, ρ 7, ρ 8, ρ 9, ρ 10, ρ 11, ρ 12, ρ 13, ρ 14] := ha
  subst ha
  subst hg
  have hJ : jn75 [ρ 0, ρ 1, ρ 2, ρ 3, ρ 4, ρ 5, ρ 6, ρ 7, ρ 8, ρ 9, ρ 10, ρ 11, ρ 12, ρ 13, ρ 14] (γ 0) 0 [ρ 0, ρ 1, ρ 2, ρ 3, ρ 4, ρ 5, ρ 6, ρ 7, ρ 8, ρ 9, ρ 10, ρ 11, ρ 12, ρ 13, ρ 14, ρ 15, ρ 16, ρ 17, ρ 18, ρ 19] (γ 1) := hJ
  obtain ⟨-, -, -, r3, -, -, -, -, -, -, -, -, -, -, -, -, -, r17, -, -, -, r21, r22, -, r24, r25, -, r27, -⟩ := hr
  have r3 : (2 : Int) ≤ ρ 3 ∧ ρ 3 ≤ 2 := r3
  have r17 : (0 : Int) ≤ ρ 17 ∧ ρ 17 ≤ 0 := r17
  have r21 : (4 : Int) ≤ ρ 21 ∧ ρ 21 ≤ 4 := r21
  have r22 : (0 : Int) ≤ ρ 22 ∧ ρ 22 ≤ 2 := r22
  have r24 : (3 : Int) ≤ ρ 24 ∧ ρ 24 ≤ 3 := r24
  have r25 : (0 : Int) ≤ ρ 25 ∧ ρ 25 ≤ 2 := r25
  have r27 : (3 : Int) ≤ ρ 27 ∧ ρ 27 ≤ 3 := r27
  obtain ⟨-, -, -, f3, -⟩ := hf
  have f3 : (0 : Int) ≤ ρ 18 + -ρ 15 + (-1) := f3
  obtain ⟨w_0, w_1, w_2, w_3, w_4, w_5, w_6, w_7, w_8, w_9, w_10, w_11⟩ : (¬ (ρ 15 ≥ ρ 18)) ∧ (¬ (ρ 17 ≠ 0)) ∧ (ρ 3 ≤ 2) ∧ (ρ 3 ≠ 1) ∧ (¬ (0 ≥ ρ 21)) ∧ (ρ 22 ≠ 3) ∧ (¬ (1 ≥ ρ 21)) ∧ (¬ (ρ 24 ≠ 3)) ∧ (¬ (2 ≥ ρ 21)) ∧ (ρ 25 ≠ 3) ∧ (¬ (3 ≥ ρ 21)) ∧ (¬ (ρ 27 ≠ 3)) := ⟨by omega, by omega, by omega, by omega, by omega, by omega, by omega, by omega, by omega, by omega, by omega, by omega⟩
  obtain ⟨-, -, m2, -, -, -, m6, -, -, -, -, -, -, -, -, m15, m16, -, -, m19, m20, m21, m22, m23, m24, m25, m26, -⟩ := hm
  have m2 : γ 0 71 0 (ρ 0) = ρ 3 := m2
  have m6 : γ 0 69 0 (ρ 0) = ρ 7 := m6
  have m15 : γ 1 15 0 77 = ρ 17 := m15
  have m16 : γ 1 15 0 90 = ρ 18 := m16
  have m19 : γ 1 107 0 (ρ 15) = ρ 20 := m19
  have m20 : γ 0 66 0 (ρ 7) = ρ 21 := m20
  have m21 : γ 0 70 0 (4 * ρ 0) = ρ 22 := m21
  have m22 : γ 1 105 0 (4 * ρ 15) = ρ 23 := m22
  have m23 : γ 0 70 0 (4 * ρ 0 + 1) = ρ 24 := m23
  have m24 : γ 0 70 0 (4 * ρ 0 + 2) = ρ 25 := m24
  have m25 : γ 1 105 0 (4 * ρ 15 + 2) = ρ 26 := m25
  have m26 : γ 0 70 0 (4 * ρ 0 + 3) = ρ 27 := m26
  obtain ⟨⟨⟨⟨⟨-, c2⟩, c3⟩, c4⟩, c5⟩, -⟩ := hc
  have c2 : γ 2 = rUp (γ 1) 102 0 0 (ρ 23) := c2
  have c3 : γ 3 = rUp (γ 2) 102 0 1 (ρ 20) := c3
  have c4 : γ 4 = rUp (γ 3) 102 0 2 (ρ 26) := c4
  have c5 : γ 5 = rUp (γ 4) 102 0 3 (ρ 20) := c5
  obtain ⟨l0, -⟩ := hl
  have l0 : sn57 [ρ 7, ρ 0, ρ 2, ρ 19, ρ 28, ρ 29, ρ 30, ρ 10, ρ 17] (γ 5) 0 0 (γ 6) := hS57 _ _ _ _ _ l0
  show jn75 [ρ 0, ρ 1, ρ 2, ρ 3, ρ 4, ρ 5, ρ 6, ρ 7, ρ 8, ρ 9, ρ 10, ρ 11, ρ 12, ρ 13, ρ 14] (γ 0) 0 [ρ 0, ρ 1, ρ 2, ρ 3, ρ 4, ρ 5, ρ 6, ρ 7, ρ 8, ρ 9, ρ 10, ρ 11, ρ 12, ρ 13, ρ 14, ρ 15 + 1, ρ 16, ρ 35, ρ 18, ρ 31] (γ 6)
  have hD : en75 (γ 0) (0, [ρ 0, ρ 15], γ 1) = .inl (0, [ρ 0, ρ 15 + 1], γ 6) := by
    unfold en75
    refine (if_pos (show (0 : Nat) = 0 by decide)).trans ?_
    refine (zLet_eq (show _ = γ 1 from rfl)).trans ?_
    refine (zLet_eq (show _ = ρ 0 from rfl)).trans ?_
    refine (zLet_eq (show _ = ρ 15 from rfl)).trans ?_
    refine (zLet_eq m2).trans ?_
    refine (zLet_eq m6).trans ?_
    refine (zLet_eq m15).trans ?_
    refine (zLet_eq m16).trans ?_
    refine (if_neg w_0).trans ?_
    refine (if_neg w_1).trans ?_
    refine (if_pos w_2).trans ?_
    refine (if_pos w_3).trans ?_
    refine (zLet_eq m19).trans ?_
    refine (zLet_eq m20).trans ?_
    refine (if_neg w_4).trans ?_
    refine (zLet_eq m21).trans ?_
    refine (if_pos w_5).trans ?_
    refine (zLet_eq m22).trans ?_
    refine (zLet_eq c2.symm).trans ?_
    refine (if_neg w_6).trans ?_
    refine (zLet_eq m23).trans ?_
    refine (if_neg w_7).trans ?_
    refine (zLet_eq c3.symm).trans ?_
    refine (if_neg w_8).trans ?_
    refine (zLet_eq m24).trans ?_
    refine (if_pos w_9).trans ?_
    refine (zLet_eq m25).trans ?_
    refine (zLet_eq c4.symm).trans ?_
    refine (if_neg w_10).trans ?_
    refine (zLet_eq m26).trans ?_
    refine (if_neg w_11).trans ?_
    refine (zLet_eq c5.symm).trans ?_
    refine (zLet_eq (show fn57 [ρ 7, ρ 0] (γ 5) = (0, 0, γ 6) from l0.symm)).trans ?_
    refine (zLet_eq (show _ = γ 6 from rfl)).trans ?_
    rfl
  exact zGoo_ato hJ hD
theorem vn75a0_15 {S : Nat → zSpc} (hS57 : ∀ x g o v gz, S 57 x g o v gz → sn57 x g o v gz) (hS73 : ∀ x g o v gz, S 73 x g o v gz → sn73 x g o v gz) {a : List Int} {g : rHp} : ∀ (ρ : Nat → Int) (γ : Nat → rHp), jn75 a g 0 (zAg (zNA a75_ 0) ρ) (γ 1) → zO 15 S a g q75a0_15 ρ γ → zGl (fun i vs g1 => jn75 a g i vs g1) (sn75 a g) q75a0_15 ρ γ := by
  intro ρ γ hJ h
  obtain ⟨ha, hg, hr, hf, hm, hc, hl⟩ := h
  have ha : a = [ρ 0, ρ 1, ρ 2, ρ 3, ρ 4, ρ 5, ρ 6, ρ 7, ρ 8, ρ 9, ρ 10, ρ 11, ρ 12, ρ 13, ρ 14] := ha
  subst ha
  subst hg
  have hJ : jn75 [ρ 0, ρ 1, ρ 2, ρ 3, ρ 4, ρ 5, ρ 6, ρ 7, ρ 8, ρ 9, ρ 10, ρ 11, ρ 12, ρ 13, ρ 14] (γ 0) 0 [ρ 0, ρ 1, ρ 2, ρ 3, ρ 4, ρ 5, ρ 6, ρ 7, ρ 8, ρ 9, ρ 10, ρ 11, ρ 12, ρ 13, ρ 14, ρ 15, ρ 16, ρ 17, ρ 18, ρ 19] (γ 1) := hJ
  obtain ⟨-, -, -, r3, -, -, -, -, -, -, -, -, -, -, -, -, -, r17, -, -, -, r21, r22, -, r24, r25, -⟩ := hr
  have r3 : (2 : Int) ≤ ρ 3 ∧ ρ 3 ≤ 2 := r3
  have r17 : (0 : Int) ≤ ρ 17 ∧ ρ 17 ≤ 0 := r17
  have r21 : (3 : Int) ≤ ρ 21 ∧ ρ 21 ≤ 3 := r21
  have r22 : (0 : Int) ≤ ρ 22 ∧ ρ 22 ≤ 2 := r22
  have r24 : (3 : Int) ≤ ρ 24 ∧ ρ 24 ≤ 3 := r24
  have r25 : (3 : Int) ≤ ρ 25 ∧ ρ 25 ≤ 3 := r25
  obtain ⟨-, -, -, f3, -⟩ := hf
  have f3 : (0 : Int) ≤ ρ 18 + -ρ 15 + (-1) := f3
  obtain ⟨w_0, w_1, w_2, w_3, w_4, w_5, w_6, w_7, w_8, w_9, w_10⟩ : (¬ (ρ 15 ≥ ρ 18)) ∧ (¬ (ρ 17 ≠ 0)) ∧ (ρ 3 ≤ 2) ∧ (ρ 3 ≠ 1) ∧ (¬ (0 ≥ ρ 21)) ∧ (ρ 22 ≠ 3) ∧ (¬ (1 ≥ ρ 21)) ∧ (¬ (ρ 24 ≠ 3)) ∧ (¬ (2 ≥ ρ 21)) ∧ (¬ (ρ 25 ≠ 3)) ∧ (3 ≥ ρ 21) := ⟨by omega, by omega, by omega, by omega, by omega, by omega, by omega, by omega, by omega, by omega, by omega⟩
  obtain ⟨-, -, m2, -, -, -, m6, -, -, -, -, -, -, -, -, m15, m16, -, -, m19, m20, m21, m22, m23, m24, m25, -⟩ := hm
  have m2 : γ 0 71 0 (ρ 0) = ρ 3 := m2
  have m6 : γ 0 69 0 (ρ 0) = ρ 7 := m6
  have m15 : γ 1 15 0 77 = ρ 17 := m15
  have m16 : γ 1 15 0 90 = ρ 18 := m16
  have m19 : γ 1 107 0 (ρ 15) = ρ 20 := m19
  have m20 : γ 0 66 0 (ρ 7) = ρ 21 := m20
  have m21 : γ 0 70 0 (4 * ρ 0) = ρ 22 := m21
  have m22 : γ 1 105 0 (4 * ρ 15) = ρ 23 := m22
  have m23 : γ 0 70 0 (4 * ρ 0 + 1) = ρ 24 := m23
  have m24 : γ 0 70 0 (4 * ρ 0 + 2) = ρ 25 := m24
  have m25 : γ 1 105 0 (4 * ρ 15 + 3) = ρ 26 := m25
  obtain ⟨⟨⟨⟨⟨-, c2⟩, c3⟩, c4⟩, c5⟩, -⟩ := hc
  have c2 : γ 2 = rUp (γ 1) 102 0 0 (ρ 23) := c2
  have c3 : γ 3 = rUp (γ 2) 102 0 1 (ρ 20) := c3
  have c4 : γ 4 = rUp (γ 3) 102 0 2 (ρ 20) := c4
  have c5 : γ 5 = rUp (γ 4) 102 0 3 (ρ 26) := c5
  obtain ⟨l0, -⟩ := hl
  have l0 : sn57 [ρ 7, ρ 0, ρ 2, ρ 19, ρ 27, ρ 28, ρ 29, ρ 10, ρ 17] (γ 5) 0 0 (γ 6) := hS57 _ _ _ _ _ l0
  show jn75 [ρ 0, ρ 1, ρ 2, ρ 3, ρ 4, ρ 5, ρ 6, ρ 7, ρ 8, ρ 9, ρ 10, ρ 11, ρ 12, ρ 13, ρ 14] (γ 0) 0 [ρ 0, ρ 1, ρ 2, ρ 3, ρ 4, ρ 5, ρ 6, ρ 7, ρ 8, ρ 9, ρ 10, ρ 11, ρ 12, ρ 13, ρ 14, ρ 15 + 1, ρ 16, ρ 34, ρ 18, ρ 30] (γ 6)
  have hD : en75 (γ 0) (0, [ρ 0, ρ 15], γ 1) = .inl (0, [ρ 0, ρ 15 + 1], γ 6) := by
    unfold en75
    refine (if_pos (show (0 : Nat) = 0 by decide)).trans ?_
    refine (zLet_eq (show _ = γ 1 from rfl)).trans ?_
    refine (zLet_eq (show _ = ρ 0 from rfl)).trans ?_
    refine (zLet_eq (show _ = ρ 15 from rfl)).trans ?_
    refine (zLet_eq m2).trans ?_
    refine (zLet_eq m6).trans ?_
    refine (zLet_eq m15).trans ?_
    refine (zLet_eq m16).trans ?_
    refine (if_neg w_0).trans ?_
    refine (if_neg w_1).trans ?_
    refine (if_pos w_2).trans ?_
    refine (if_pos w_3).trans ?_
    refine (zLet_eq m19).trans ?_
    refine (zLet_eq m20).trans ?_
    refine (if_neg w_4).trans ?_
    refine (zLet_eq m21).trans ?_
    refine (if_pos w_5).trans ?_
    refine (zLet_eq m22).trans ?_
    refine (zLet_eq c2.symm).trans ?_
    refine (if_neg w_6).trans ?_
    refine (zLet_eq m23).trans ?_
    refine (if_neg w_7).trans ?_
    refine (zLet_eq c3.symm).trans ?_
    refine (if_neg w_8).trans ?_
    refine (zLet_eq m24).trans ?_
    refine (if_neg w_9).trans ?_
    refine (zLet_eq c4.symm).trans ?_
    refine (if_pos w_10).trans ?_
    refine (zLet_eq m25).trans ?_
    refine (zLet_eq c5.symm).trans ?_
    refine (zLet_eq (show fn57 [ρ 7, ρ 0] (γ 5) = (0, 0, γ 6) from l0.symm)).trans ?_
    refine (zLet_eq (show _ = γ 6 from rfl)).trans ?_
    rfl
  exact zGoo_ato hJ hD
theorem vn75a0_16 {S : Nat → zSpc} (hS57 : ∀ x g o v gz, S 57 x g o v gz → sn57 x g o v gz) (hS73 : ∀ x g o v gz, S 73 x g o v gz → sn73 x g o v gz) {a : List Int} {g : rHp} : ∀ (ρ : Nat → Int) (γ : Nat → rHp), jn75 a g 0 (zAg (zNA a75_ 0) ρ) (γ 1) → zO 15 S a g q75a0_16 ρ γ → zGl (fun i vs g1 => jn75 a g i vs g1) (sn75 a g) q75a0_16 ρ γ := by
  intro ρ γ hJ h
  obtain ⟨ha, hg, hr, hf, hm, hc, hl⟩ := h
  have ha : a = [ρ 0, ρ 1, ρ 2, ρ 3, ρ 4, ρ 5, ρ 6, ρ 7, ρ 8, ρ 9, ρ 10, ρ 11, ρ 12, ρ 13, ρ 14] := ha
  subst ha
  subst hg
  have hJ : jn75 [ρ 0, ρ 1, ρ 2, ρ 3, ρ 4, ρ 5, ρ 6, ρ 7, ρ 8, ρ 9, ρ 10, ρ 11, ρ 12, ρ 13, ρ 14] (γ 0) 0 [ρ 0, ρ 1, ρ 2, ρ 3, ρ 4, ρ 5, ρ 6, ρ 7, ρ 8, ρ 9, ρ 10, ρ 11, ρ 12, ρ 13, ρ 14, ρ 15, ρ 16, ρ 17, ρ 18, ρ 19] (γ 1) := hJ
  obtain ⟨-, -, -, r3, -, -, -, -, -, -, -, -, -, -, -, -, -, r17, -, -, -, r21, r22, -, r24, r25, r26, -⟩ := hr
  have r3 : (2 : Int) ≤ ρ 3 ∧ ρ 3 ≤ 2 := r3
  have r17 : (0 : Int) ≤ ρ 17 ∧ ρ 17 ≤ 0 := r17
  have r21 : (4 : Int) ≤ ρ 21 ∧ ρ 21 ≤ 4 := r21
  have r22 : (0 : Int) ≤ ρ 22 ∧ ρ 22 ≤ 2 := r22
  have r24 : (3 : Int) ≤ ρ 24 ∧ ρ 24 ≤ 3 := r24
  have r25 : (3 : Int) ≤ ρ 25 ∧ ρ 25 ≤ 3 := r25
  have r26 : (0 : Int) ≤ ρ 26 ∧ ρ 26 ≤ 2 := r26
  obtain ⟨-, -, -, f3, -⟩ := hf
  have f3 : (0 : Int) ≤ ρ 18 + -ρ 15 + (-1) := f3
  obtain ⟨w_0, w_1, w_2, w_3, w_4, w_5, w_6, w_7, w_8, w_9, w_10, w_11⟩ : (¬ (ρ 15 ≥ ρ 18)) ∧ (¬ (ρ 17 ≠ 0)) ∧ (ρ 3 ≤ 2) ∧ (ρ 3 ≠ 1) ∧ (¬ (0 ≥ ρ 21)) ∧ (ρ 22 ≠ 3) ∧ (¬ (1 ≥ ρ 21)) ∧ (¬ (ρ 24 ≠ 3)) ∧ (¬ (2 ≥ ρ 21)) ∧ (¬ (ρ 25 ≠ 3)) ∧ (¬ (3 ≥ ρ 21)) ∧ (ρ 26 ≠ 3) := ⟨by omega, by omega, by omega, by omega, by omega, by omega, by omega, by omega, by omega, by omega, by omega, by omega⟩
  obtain ⟨-, -, m2, -, -, -, m6, -, -, -, -, -, -, -, -, m15, m16, -, -, m19, m20, m21, m22, m23, m24, m25, m26, -⟩ := hm
  have m2 : γ 0 71 0 (ρ 0) = ρ 3 := m2
  have m6 : γ 0 69 0 (ρ 0) = ρ 7 := m6
  have m15 : γ 1 15 0 77 = ρ 17 := m15
  have m16 : γ 1 15 0 90 = ρ 18 := m16
  have m19 : γ 1 107 0 (ρ 15) = ρ 20 := m19
  have m20 : γ 0 66 0 (ρ 7) = ρ 21 := m20
  have m21 : γ 0 70 0 (4 * ρ 0) = ρ 22 := m21
  have m22 : γ 1 105 0 (4 * ρ 15) = ρ 23 := m22
  have m23 : γ 0 70 0 (4 * ρ 0 + 1) = ρ 24 := m23
  have m24 : γ 0 70 0 (4 * ρ 0 + 2) = ρ 25 := m24
  have m25 : γ 0 70 0 (4 * ρ 0 + 3) = ρ 26 := m25
  have m26 : γ 1 105 0 (4 * ρ 15 + 3) = ρ 27 := m26
  obtain ⟨⟨⟨⟨⟨-, c2⟩, c3⟩, c4⟩, c5⟩, -⟩ := hc
  have c2 : γ 2 = rUp (γ 1) 102 0 0 (ρ 23) := c2
  have c3 : γ 3 = rUp (γ 2) 102 0 1 (ρ 20) := c3
  have c4 : γ 4 = rUp (γ 3) 102 0 2 (ρ 20) := c4
  have c5 : γ 5 = rUp (γ 4) 102 0 3 (ρ 27) := c5
  obtain ⟨l0, -⟩ := hl
  have l0 : sn57 [ρ 7, ρ 0, ρ 2, ρ 19, ρ 28, ρ 29, ρ 30, ρ 10, ρ 17] (γ 5) 0 0 (γ 6) := hS57 _ _ _ _ _ l0
  show jn75 [ρ 0, ρ 1, ρ 2, ρ 3, ρ 4, ρ 5, ρ 6, ρ 7, ρ 8, ρ 9, ρ 10, ρ 11, ρ 12, ρ 13, ρ 14] (γ 0) 0 [ρ 0, ρ 1, ρ 2, ρ 3, ρ 4, ρ 5, ρ 6, ρ 7, ρ 8, ρ 9, ρ 10, ρ 11, ρ 12, ρ 13, ρ 14, ρ 15 + 1, ρ 16, ρ 35, ρ 18, ρ 31] (γ 6)
  have hD : en75 (γ 0) (0, [ρ 0, ρ 15], γ 1) = .inl (0, [ρ 0, ρ 15 + 1], γ 6) := by
    unfold en75
    refine (if_pos (show (0 : Nat) = 0 by decide)).trans ?_
    refine (zLet_eq (show _ = γ 1 from rfl)).trans ?_
    refine (zLet_eq (show _ = ρ 0 from rfl)).trans ?_
    refine (zLet_eq (show _ = ρ 15 from rfl)).trans ?_
    refine (zLet_eq m2).trans ?_
    refine (zLet_eq m6).trans ?_
    refine (zLet_eq m15).trans ?_
    refine (zLet_eq m16).trans ?_
    refine (if_neg w_0).trans ?_
    refine (if_neg w_1).trans ?_
    refine (if_pos w_2).trans ?_
    refine (if_pos w_3).trans ?_
    refine (zLet_eq m19).trans ?_
    refine (zLet_eq m20).trans ?_
    refine (if_neg w_4).trans ?_
    refine (zLet_eq m21).trans ?_
    refine (if_pos w_5).trans ?_
    refine (zLet_eq m22).trans ?_
    refine (zLet_eq c2.symm).trans ?_
    refine (if_neg w_6).trans ?_
    refine (zLet_eq m23).trans ?_
    refine (if_neg w_7).trans ?_
    refine (zLet_eq c3.symm).trans ?_
    refine (if_neg w_8).trans ?_
    refine (zLet_eq m24).trans ?_
    refine (if_neg w_9).trans ?_
    refine (zLet_eq c4.symm).trans ?_
    refine (if_neg w_10).trans ?_
    refine (zLet_eq m25).trans ?_
    refine (if_pos w_11).trans ?_
    refine (zLet_eq m26).trans ?_
    refine (zLet_eq c5.symm).trans ?_
    refine (zLet_eq (show fn57 [ρ 7, ρ 0] (γ 5) = (0, 0, γ 6) from l0.symm)).trans ?_
    refine (zLet_eq (show _ = γ 6 from rfl)).trans ?_
    rfl
  exact zGoo_ato hJ hD
theorem vn75a0_17 {S : Nat → zSpc} (hS57 : ∀ x g o v gz, S 57 x g o v gz → sn57 x g o v gz) (hS73 : ∀ x g o v gz, S 73 x g o v gz → sn73 x g o v gz) {a : List Int} {g : rHp} : ∀ (ρ : Nat → Int) (γ : Nat → rHp), jn75 a g 0 (zAg (zNA a75_ 0) ρ) (γ 1) → zO 15 S a g q75a0_17 ρ γ → zGl (fun i vs g1 => jn75 a g i vs g1) (sn75 a g) q75a0_17 ρ γ := by
  intro ρ γ hJ h
  obtain ⟨ha, hg, hr, hf, hm, hc, hl⟩ := h
  have ha : a = [ρ 0, ρ 1, ρ 2, ρ 3, ρ 4, ρ 5, ρ 6, ρ 7, ρ 8, ρ 9, ρ 10, ρ 11, ρ 12, ρ 13, ρ 14] := ha
  subst ha
  subst hg
  have hJ : jn75 [ρ 0, ρ 1, ρ 2, ρ 3, ρ 4, ρ 5, ρ 6, ρ 7, ρ 8, ρ 9, ρ 10, ρ 11, ρ 12, ρ 13, ρ 14] (γ 0) 0 [ρ 0, ρ 1, ρ 2, ρ 3, ρ 4, ρ 5, ρ 6, ρ 7, ρ 8, ρ 9, ρ 10, ρ 11, ρ 12, ρ 13, ρ 14, ρ 15, ρ 16, ρ 17, ρ 18, ρ 19] (γ 1) := hJ
  obtain ⟨-, -, -, r3, -, -, -, -, -, -, -, -, -, -, -, -, -, r17, -, -, -, r21, r22, -, r24, r25, r26, -⟩ := hr
  have r3 : (2 : Int) ≤ ρ 3 ∧ ρ 3 ≤ 2 := r3
  have r17 : (0 : Int) ≤ ρ 17 ∧ ρ 17 ≤ 0 := r17
  have r21 : (4 : Int) ≤ ρ 21 ∧ ρ 21 ≤ 4 := r21
  have r22 : (0 : Int) ≤ ρ 22 ∧ ρ 22 ≤ 2 := r22
  have r24 : (3 : Int) ≤ ρ 24 ∧ ρ 24 ≤ 3 := r24
  have r25 : (3 : Int) ≤ ρ 25 ∧ ρ 25 ≤ 3 := r25
  have r26 : (3 : Int) ≤ ρ 26 ∧ ρ 26 ≤ 3 := r26
  obtain ⟨-, -, -, f3, -⟩ := hf
  have f3 : (0 : Int) ≤ ρ 18 + -ρ 15 + (-1) := f3
  obtain ⟨w_0, w_1, w_2, w_3, w_4, w_5, w_6, w_7, w_8, w_9, w_10, w_11⟩ : (¬ (ρ 15 ≥ ρ 18)) ∧ (¬ (ρ 17 ≠ 0)) ∧ (ρ 3 ≤ 2) ∧ (ρ 3 ≠ 1) ∧ (¬ (0 ≥ ρ 21)) ∧ (ρ 22 ≠ 3) ∧ (¬ (1 ≥ ρ 21)) ∧ (¬ (ρ 24 ≠ 3)) ∧ (¬ (2 ≥ ρ 21)) ∧ (¬ (ρ 25 ≠ 3)) ∧ (¬ (3 ≥ ρ 21)) ∧ (¬ (ρ 26 ≠ 3)) := ⟨by omega, by omega, by omega, by omega, by omega, by omega, by omega, by omega, by omega, by omega, by omega, by omega⟩
  obtain ⟨-, -, m2, -, -, -, m6, -, -, -, -, -, -, -, -, m15, m16, -, -, m19, m20, m21, m22, m23, m24, m25, -⟩ := hm
  have m2 : γ 0 71 0 (ρ 0) = ρ 3 := m2
  have m6 : γ 0 69 0 (ρ 0) = ρ 7 := m6
  have m15 : γ 1 15 0 77 = ρ 17 := m15
  have m16 : γ 1 15 0 90 = ρ 18 := m16
  have m19 : γ 1 107 0 (ρ 15) = ρ 20 := m19
  have m20 : γ 0 66 0 (ρ 7) = ρ 21 := m20
  have m21 : γ 0 70 0 (4 * ρ 0) = ρ 22 := m21
  have m22 : γ 1 105 0 (4 * ρ 15) = ρ 23 := m22
  have m23 : γ 0 70 0 (4 * ρ 0 + 1) = ρ 24 := m23
  have m24 : γ 0 70 0 (4 * ρ 0 + 2) = ρ 25 := m24
  have m25 : γ 0 70 0 (4 * ρ 0 + 3) = ρ 26 := m25
  obtain ⟨⟨⟨⟨⟨-, c2⟩, c3⟩, c4⟩, c5⟩, -⟩ := hc
  have c2 : γ 2 = rUp (γ 1) 102 0 0 (ρ 23) := c2
  have c3 : γ 3 = rUp (γ 2) 102 0 1 (ρ 20) := c3
  have c4 : γ 4 = rUp (γ 3) 102 0 2 (ρ 20) := c4
  have c5 : γ 5 = rUp (γ 4) 102 0 3 (ρ 20) := c5
  obtain ⟨l0, -⟩ := hl
  have l0 : sn57 [ρ 7, ρ 0, ρ 2, ρ 19, ρ 27, ρ 28, ρ 29, ρ 10, ρ 17] (γ 5) 0 0 (γ 6) := hS57 _ _ _ _ _ l0
  show jn75 [ρ 0, ρ 1, ρ 2, ρ 3, ρ 4, ρ 5, ρ 6, ρ 7, ρ 8, ρ 9, ρ 10, ρ 11, ρ 12, ρ 13, ρ 14] (γ 0) 0 [ρ 0, ρ 1, ρ 2, ρ 3, ρ 4, ρ 5, ρ 6, ρ 7, ρ 8, ρ 9, ρ 10, ρ 11, ρ 12, ρ 13, ρ 14, ρ 15 + 1, ρ 16, ρ 34, ρ 18, ρ 30] (γ 6)
  have hD : en75 (γ 0) (0, [ρ 0, ρ 15], γ 1) = .inl (0, [ρ 0, ρ 15 + 1], γ 6) := by
    unfold en75
    refine (if_pos (show (0 : Nat) = 0 by decide)).trans ?_
    refine (zLet_eq (show _ = γ 1 from rfl)).trans ?_
    refine (zLet_eq (show _ = ρ 0 from rfl)).trans ?_
    refine (zLet_eq (show _ = ρ 15 from rfl)).trans ?_
    refine (zLet_eq m2).trans ?_
    refine (zLet_eq m6).trans ?_
    refine (zLet_eq m15).trans ?_
    refine (zLet_eq m16).trans ?_
    refine (if_neg w_0).trans ?_
    refine (if_neg w_1).trans ?_
    refine (if_pos w_2).trans ?_
    refine (if_pos w_3).trans ?_
    refine (zLet_eq m19).trans ?_
    refine (zLet_eq m20).trans ?_
    refine (if_neg w_4).trans ?_
    refine (zLet_eq m21).trans ?_
    refine (if_pos w_5).trans ?_
    refine (zLet_eq m22).trans ?_
    refine (zLet_eq c2.symm).trans ?_
    refine (if_neg w_6).trans ?_
    refine (zLet_eq m23).trans ?_
    refine (if_neg w_7).trans ?_
    refine (zLet_eq c3.symm).trans ?_
    refine (if_neg w_8).trans ?_
    refine (zLet_eq m24).trans ?_
    refine (if_neg w_9).trans ?_
    refine (zLet_eq c4.symm).trans ?_
    refine (if_neg w_10).trans ?_
    refine (zLet_eq m25).trans ?_
    refine (if_neg w_11).trans ?_
    refine (zLet_eq c5.symm).trans ?_
    refine (zLet_eq (show fn57 [ρ 7, ρ 0] (γ 5) = (0, 0, γ 6) from l0.symm)).trans ?_
    refine (zLet_eq (show _ = γ 6 from rfl)).trans ?_
    rfl
  exact zGoo_ato hJ hD
theorem vn75a0_18 {S : Nat → zSpc} (hS57 : ∀ x g o v gz, S 57 x g o v gz → sn57 x g o v gz) (hS73 : ∀ x g o v gz, S 73 x g o v gz → sn73 x g o v gz) {a : List Int} {g : rHp} : ∀ (ρ : Nat → Int) (γ : Nat → rHp), jn75 a g 0 (zAg (zNA a75_ 0) ρ) (γ 1) → zO 15 S a g q75a0_18 ρ γ → zGl (fun i vs g1 => jn75 a g i vs g1) (sn75 a g) q75a0_18 ρ γ := by
  intro ρ γ hJ h
  obtain ⟨ha, hg, hr, hf, hm, hc, hl⟩ := h
  have ha : a = [ρ 0, ρ 1, ρ 2, ρ 3, ρ 4, ρ 5, ρ 6, ρ 7, ρ 8, ρ 9, ρ 10, ρ 11, ρ 12, ρ 13, ρ 14] := ha
  subst ha
  subst hg
  have hJ : jn75 [ρ 0, ρ 1, ρ 2, ρ 3, ρ 4, ρ 5, ρ 6, ρ 7, ρ 8, ρ 9, ρ 10, ρ 11, ρ 12, ρ 13, ρ 14] (γ 0) 0 [ρ 0, ρ 1, ρ 2, ρ 3, ρ 4, ρ 5, ρ 6, ρ 7, ρ 8, ρ 9, ρ 10, ρ 11, ρ 12, ρ 13, ρ 14, ρ 15, ρ 16, ρ 17, ρ 18, ρ 19] (γ 1) := hJ
  obtain ⟨-, -, -, r3, -, -, -, -, -, -, -, -, -, -, -, -, -, r17, -, -, -, r21, r22, -⟩ := hr
  have r3 : (2 : Int) ≤ ρ 3 ∧ ρ 3 ≤ 2 := r3
  have r17 : (0 : Int) ≤ ρ 17 ∧ ρ 17 ≤ 0 := r17
  have r21 : (1 : Int) ≤ ρ 21 ∧ ρ 21 ≤ 1 := r21
  have r22 : (3 : Int) ≤ ρ 22 ∧ ρ 22 ≤ 3 := r22
  obtain ⟨-, -, -, f3, -⟩ := hf
  have f3 : (0 : Int) ≤ ρ 18 + -ρ 15 + (-1) := f3
  obtain ⟨w_0, w_1, w_2, w_3, w_4, w_5, w_6⟩ : (¬ (ρ 15 ≥ ρ 18)) ∧ (¬ (ρ 17 ≠ 0)) ∧ (ρ 3 ≤ 2) ∧ (ρ 3 ≠ 1) ∧ (¬ (0 ≥ ρ 21)) ∧ (¬ (ρ 22 ≠ 3)) ∧ (1 ≥ ρ 21) := ⟨by omega, by omega, by omega, by omega, by omega, by omega, by omega⟩
  obtain ⟨-, -, m2, -, -, -, m6, -, -, -, -, -, -, -, -, m15, m16, -, -, m19, m20, m21, m22, m23, m24, -⟩ := hm
  have m2 : γ 0 71 0 (ρ 0) = ρ 3 := m2
  have m6 : γ 0 69 0 (ρ 0) = ρ 7 := m6
  have m15 : γ 1 15 0 77 = ρ 17 := m15
  have m16 : γ 1 15 0 90 = ρ 18 := m16
  have m19 : γ 1 107 0 (ρ 15) = ρ 20 := m19
  have m20 : γ 0 66 0 (ρ 7) = ρ 21 := m20
  have m21 : γ 0 70 0 (4 * ρ 0) = ρ 22 := m21
  have m22 : γ 1 105 0 (4 * ρ 15 + 1) = ρ 23 := m22
  have m23 : γ 1 105 0 (4 * ρ 15 + 2) = ρ 24 := m23
  have m24 : γ 1 105 0 (4 * ρ 15 + 3) = ρ 25 := m24
  obtain ⟨⟨⟨⟨⟨-, c2⟩, c3⟩, c4⟩, c5⟩, -⟩ := hc
  have c2 : γ 2 = rUp (γ 1) 102 0 0 (ρ 20) := c2
  have c3 : γ 3 = rUp (γ 2) 102 0 1 (ρ 23) := c3
  have c4 : γ 4 = rUp (γ 3) 102 0 2 (ρ 24) := c4
  have c5 : γ 5 = rUp (γ 4) 102 0 3 (ρ 25) := c5
  obtain ⟨l0, -⟩ := hl
  have l0 : sn57 [ρ 7, ρ 0, ρ 2, ρ 19, ρ 26, ρ 27, ρ 28, ρ 10, ρ 17] (γ 5) 0 0 (γ 6) := hS57 _ _ _ _ _ l0
  show jn75 [ρ 0, ρ 1, ρ 2, ρ 3, ρ 4, ρ 5, ρ 6, ρ 7, ρ 8, ρ 9, ρ 10, ρ 11, ρ 12, ρ 13, ρ 14] (γ 0) 0 [ρ 0, ρ 1, ρ 2, ρ 3, ρ 4, ρ 5, ρ 6, ρ 7, ρ 8, ρ 9, ρ 10, ρ 11, ρ 12, ρ 13, ρ 14, ρ 15 + 1, ρ 16, ρ 33, ρ 18, ρ 29] (γ 6)
  have hD : en75 (γ 0) (0, [ρ 0, ρ 15], γ 1) = .inl (0, [ρ 0, ρ 15 + 1], γ 6) := by
    unfold en75
    refine (if_pos (show (0 : Nat) = 0 by decide)).trans ?_
    refine (zLet_eq (show _ = γ 1 from rfl)).trans ?_
    refine (zLet_eq (show _ = ρ 0 from rfl)).trans ?_
    refine (zLet_eq (show _ = ρ 15 from rfl)).trans ?_
    refine (zLet_eq m2).trans ?_
    refine (zLet_eq m6).trans ?_
    refine (zLet_eq m15).trans ?_
    refine (zLet_eq m16).trans ?_
    refine (if_neg w_0).trans ?_
    refine (if_neg w_1).trans ?_
    refine (if_pos w_2).trans ?_
    refine (if_pos w_3).trans ?_
    refine (zLet_eq m19).trans ?_
    refine (zLet_eq m20).trans ?_
    refine (if_neg w_4).trans ?_
    refine (zLet_eq m21).trans ?_
    refine (if_neg w_5).trans ?_
    refine (zLet_eq c2.symm).trans ?_
    refine (if_pos w_6).trans ?_
    refine (zLet_eq m22).trans ?_
    refine (zLet_eq c3.symm).trans ?_
    refine (zLet_eq m23).trans ?_
    refine (zLet_eq c4.symm).trans ?_
    refine (zLet_eq m24).trans ?_
    refine (zLet_eq c5.symm).trans ?_
    refine (zLet_eq (show fn57 [ρ 7, ρ 0] (γ 5) = (0, 0, γ 6) from l0.symm)).trans ?_
    refine (zLet_eq (show _ = γ 6 from rfl)).trans ?_
    rfl
  exact zGoo_ato hJ hD
theorem vn75a0_19 {S : Nat → zSpc} (hS57 : ∀ x g o v gz, S 57 x g o v gz → sn57 x g o v gz) (hS73 : ∀ x g o v gz, S 73 x g o v gz → sn73 x g o v gz) {a : List Int} {g : rHp} : ∀ (ρ : Nat → Int) (γ : Nat → rHp), jn75 a g 0 (zAg (zNA a75_ 0) ρ) (γ 1) → zO 15 S a g q75a0_19 ρ γ → zGl (fun i vs g1 => jn75 a g i vs g1) (sn75 a g) q75a0_19 ρ γ := by
  intro ρ γ hJ h
  obtain ⟨ha, hg, hr, hf, hm, hc, hl⟩ := h
  have ha : a = [ρ 0, ρ 1, ρ 2, ρ 3, ρ 4, ρ 5, ρ 6, ρ 7, ρ 8, ρ 9, ρ 10, ρ 11, ρ 12, ρ 13, ρ 14] := ha
  subst ha
  subst hg
  have hJ : jn75 [ρ 0, ρ 1, ρ 2, ρ 3, ρ 4, ρ 5, ρ 6, ρ 7, ρ 8, ρ 9, ρ 10, ρ 11, ρ 12, ρ 13, ρ 14] (γ 0) 0 [ρ 0, ρ 1, ρ 2, ρ 3, ρ 4, ρ 5, ρ 6, ρ 7, ρ 8, ρ 9, ρ 10, ρ 11, ρ 12, ρ 13, ρ 14, ρ 15, ρ 16, ρ 17, ρ 18, ρ 19] (γ 1) := hJ
  obtain ⟨-, -, -, r3, -, -, -, -, -, -, -, -, -, -, -, -, -, r17, -, -, -, r21, r22, r23, -⟩ := hr
  have r3 : (2 : Int) ≤ ρ 3 ∧ ρ 3 ≤ 2 := r3
  have r17 : (0 : Int) ≤ ρ 17 ∧ ρ 17 ≤ 0 := r17
  have r21 : (2 : Int) ≤ ρ 21 ∧ ρ 21 ≤ 2 := r21
  have r22 : (3 : Int) ≤ ρ 22 ∧ ρ 22 ≤ 3 := r22
  have r23 : (0 : Int) ≤ ρ 23 ∧ ρ 23 ≤ 2 := r23
  obtain ⟨-, -, -, f3, -⟩ := hf
  have f3 : (0 : Int) ≤ ρ 18 + -ρ 15 + (-1) := f3
  obtain ⟨w_0, w_1, w_2, w_3, w_4, w_5, w_6, w_7, w_8⟩ : (¬ (ρ 15 ≥ ρ 18)) ∧ (¬ (ρ 17 ≠ 0)) ∧ (ρ 3 ≤ 2) ∧ (ρ 3 ≠ 1) ∧ (¬ (0 ≥ ρ 21)) ∧ (¬ (ρ 22 ≠ 3)) ∧ (¬ (1 ≥ ρ 21)) ∧ (ρ 23 ≠ 3) ∧ (2 ≥ ρ 21) := ⟨by omega, by omega, by omega, by omega, by omega, by omega, by omega, by omega, by omega⟩
  obtain ⟨-, -, m2, -, -, -, m6, -, -, -, -, -, -, -, -, m15, m16, -, -, m19, m20, m21, m22, m23, m24, m25, -⟩ := hm
  have m2 : γ 0 71 0 (ρ 0) = ρ 3 := m2
  have m6 : γ 0 69 0 (ρ 0) = ρ 7 := m6
  have m15 : γ 1 15 0 77 = ρ 17 := m15
  have m16 : γ 1 15 0 90 = ρ 18 := m16
  have m19 : γ 1 107 0 (ρ 15) = ρ 20 := m19
  have m20 : γ 0 66 0 (ρ 7) = ρ 21 := m20
  have m21 : γ 0 70 0 (4 * ρ 0) = ρ 22 := m21
  have m22 : γ 0 70 0 (4 * ρ 0 + 1) = ρ 23 := m22
  have m23 : γ 1 105 0 (4 * ρ 15 + 1) = ρ 24 := m23
  have m24 : γ 1 105 0 (4 * ρ 15 + 2) = ρ 25 := m24
  have m25 : γ 1 105 0 (4 * ρ 15 + 3) = ρ 26 := m25
  obtain ⟨⟨⟨⟨⟨-, c2⟩, c3⟩, c4⟩, c5⟩, -⟩ := hc
  have c2 : γ 2 = rUp (γ 1) 102 0 0 (ρ 20) := c2
  have c3 : γ 3 = rUp (γ 2) 102 0 1 (ρ 24) := c3
  have c4 : γ 4 = rUp (γ 3) 102 0 2 (ρ 25) := c4
  have c5 : γ 5 = rUp (γ 4) 102 0 3 (ρ 26) := c5
  obtain ⟨l0, -⟩ := hl
  have l0 : sn57 [ρ 7, ρ 0, ρ 2, ρ 19, ρ 27, ρ 28, ρ 29, ρ 10, ρ 17] (γ 5) 0 0 (γ 6) := hS57 _ _ _ _ _ l0
  show jn75 [ρ 0, ρ 1, ρ 2, ρ 3, ρ 4, ρ 5, ρ 6, ρ 7, ρ 8, ρ 9, ρ 10, ρ 11, ρ 12, ρ 13, ρ 14] (γ 0) 0 [ρ 0, ρ 1, ρ 2, ρ 3, ρ 4, ρ 5, ρ 6, ρ 7, ρ 8, ρ 9, ρ 10, ρ 11, ρ 12, ρ 13, ρ 14, ρ 15 + 1, ρ 16, ρ 34, ρ 18, ρ 30] (γ 6)
  have hD : en75 (γ 0) (0, [ρ 0, ρ 15], γ 1) = .inl (0, [ρ 0, ρ 15 + 1], γ 6) := by
    unfold en75
    refine (if_pos (show (0 : Nat) = 0 by decide)).trans ?_
    refine (zLet_eq (show _ = γ 1 from rfl)).trans ?_
    refine (zLet_eq (show _ = ρ 0 from rfl)).trans ?_
    refine (zLet_eq (show _ = ρ 15 from rfl)).trans ?_
    refine (zLet_eq m2).trans ?_
    refine (zLet_eq m6).trans ?_
    refine (zLet_eq m15).trans ?_
    refine (zLet_eq m16).trans ?_
    refine (if_neg w_0).trans ?_
    refine (if_neg w_1).trans ?_
    refine (if_pos w_2).trans ?_
    refine (if_pos w_3).trans ?_
    refine (zLet_eq m19).trans ?_
    refine (zLet_eq m20).trans ?_
    refine (if_neg w_4).trans ?_
    refine (zLet_eq m21).trans ?_
    refine (if_neg w_5).trans ?_
    refine (zLet_eq c2.symm).trans ?_
    refine (if_neg w_6).trans ?_
    refine (zLet_eq m22).trans ?_
    refine (if_pos w_7).trans ?_
    refine (zLet_eq m23).trans ?_
    refine (zLet_eq c3.symm).trans ?_
    refine (if_pos w_8).trans ?_
    refine (zLet_eq m24).trans ?_
    refine (zLet_eq c4.symm).trans ?_
    refine (zLet_eq m25).trans ?_
    refine (zLet_eq c5.symm).trans ?_
    refine (zLet_eq (show fn57 [ρ 7, ρ 0] (γ 5) = (0, 0, γ 6) from l0.symm)).trans ?_
    refine (zLet_eq (show _ = γ 6 from rfl)).trans ?_
    rfl
  exact zGoo_ato hJ hD
theorem vn75a0_20 {S : Nat → zSpc} (hS57 : ∀ x g o v gz, S 57 x g o v gz → sn57 x g o v gz) (hS73 : ∀ x g o v gz, S 73 x g o v gz → sn73 x g o v gz) {a : List Int} {g : rHp} : ∀ (ρ : Nat → Int) (γ : Nat → rHp), jn75 a g 0 (zAg (zNA a75_ 0) ρ) (γ 1) → zO 15 S a g q75a0_20 ρ γ → zGl (fun i vs g1 => jn75 a g i vs g1) (sn75 a g) q75a0_20 ρ γ := by
  intro ρ γ hJ h
  obtain ⟨ha, hg, hr, hf, hm, hc, hl⟩ := h
  have ha : a = [ρ 0, ρ 1, ρ 2, ρ 3, ρ 4, ρ 5, ρ 6, ρ 7, ρ 8, ρ 9, ρ 10, ρ 11, ρ 12, ρ 13, ρ 14] := ha
  subst ha
  subst hg
  have hJ : jn75 [ρ 0, ρ 1, ρ 2, ρ 3, ρ 4, ρ 5, ρ 6, ρ 7, ρ 8, ρ 9, ρ 10, ρ 11, ρ 12, ρ 13, ρ 14] (γ 0) 0 [ρ 0, ρ 1, ρ 2, ρ 3, ρ 4, ρ 5, ρ 6, ρ 7, ρ 8, ρ 9, ρ 10, ρ 11, ρ 12, ρ 13, ρ 14, ρ 15, ρ 16, ρ 17, ρ 18, ρ 19] (γ 1) := hJ
  obtain ⟨-, -, -, r3, -, -, -, -, -, -, -, -, -, -, -, -, -, r17, -, -, -, r21, r22, r23, -, r25, -⟩ := hr
  have r3 : (2 : Int) ≤ ρ 3 ∧ ρ 3 ≤ 2 := r3
  have r17 : (0 : Int) ≤ ρ 17 ∧ ρ 17 ≤ 0 := r17
  have r21 : (3 : Int) ≤ ρ 21 ∧ ρ 21 ≤ 3 := r21
  have r22 : (3 : Int) ≤ ρ 22 ∧ ρ 22 ≤ 3 := r22
  have r23 : (0 : Int) ≤ ρ 23 ∧ ρ 23 ≤ 2 := r23
  have r25 : (0 : Int) ≤ ρ 25 ∧ ρ 25 ≤ 2 := r25
  obtain ⟨-, -, -, f3, -⟩ := hf
  have f3 : (0 : Int) ≤ ρ 18 + -ρ 15 + (-1) := f3
  obtain ⟨w_0, w_1, w_2, w_3, w_4, w_5, w_6, w_7, w_8, w_9, w_10⟩ : (¬ (ρ 15 ≥ ρ 18)) ∧ (¬ (ρ 17 ≠ 0)) ∧ (ρ 3 ≤ 2) ∧ (ρ 3 ≠ 1) ∧ (¬ (0 ≥ ρ 21)) ∧ (¬ (ρ 22 ≠ 3)) ∧ (¬ (1 ≥ ρ 21)) ∧ (ρ 23 ≠ 3) ∧ (¬ (2 ≥ ρ 21)) ∧ (ρ 25 ≠ 3) ∧ (3 ≥ ρ 21) := ⟨by omega, by omega, by omega, by omega, by omega, by omega, by omega, by omega, by omega, by omega, by omega⟩
  obtain ⟨-, -, m2, -, -, -, m6, -, -, -, -, -, -, -, -, m15, m16, -, -, m19, m20, m21, m22, m23, m24, m25, m26, -⟩ := hm
  have m2 : γ 0 71 0 (ρ 0) = ρ 3 := m2
  have m6 : γ 0 69 0 (ρ 0) = ρ 7 := m6
  have m15 : γ 1 15 0 77 = ρ 17 := m15
  have m16 : γ 1 15 0 90 = ρ 18 := m16
  have m19 : γ 1 107 0 (ρ 15) = ρ 20 := m19
  have m20 : γ 0 66 0 (ρ 7) = ρ 21 := m20
  have m21 : γ 0 70 0 (4 * ρ 0) = ρ 22 := m21
  have m22 : γ 0 70 0 (4 * ρ 0 + 1) = ρ 23 := m22
  have m23 : γ 1 105 0 (4 * ρ 15 + 1) = ρ 24 := m23
  have m24 : γ 0 70 0 (4 * ρ 0 + 2) = ρ 25 := m24
  have m25 : γ 1 105 0 (4 * ρ 15 + 2) = ρ 26 := m25
  have m26 : γ 1 105 0 (4 * ρ 15 + 3) = ρ 27 := m26
  obtain ⟨⟨⟨⟨⟨-, c2⟩, c3⟩, c4⟩, c5⟩, -⟩ := hc
  have c2 : γ 2 = rUp (γ 1) 102 0 0 (ρ 20) := c2
  have c3 : γ 3 = rUp (γ 2) 102 0 1 (ρ 24) := c3
  have c4 : γ 4 = rUp (γ 3) 102 0 2 (ρ 26) := c4
  have c5 : γ 5 = rUp (γ 4) 102 0 3 (ρ 27) := c5
  obtain ⟨l0, -⟩ := hl
  have l0 : sn57 [ρ 7, ρ 0, ρ 2, ρ 19, ρ 28, ρ 29, ρ 30, ρ 10, ρ 17] (γ 5) 0 0 (γ 6) := hS57 _ _ _ _ _ l0
  show jn75 [ρ 0, ρ 1, ρ 2, ρ 3, ρ 4, ρ 5, ρ 6, ρ 7, ρ 8, ρ 9, ρ 10, ρ 11, ρ 12, ρ 13, ρ 14] (γ 0) 0 [ρ 0, ρ 1, ρ 2, ρ 3, ρ 4, ρ 5, ρ 6, ρ 7, ρ 8, ρ 9, ρ 10, ρ 11, ρ 12, ρ 13, ρ 14, ρ 15 + 1, ρ 16, ρ 35, ρ 18, ρ 31] (γ 6)
  have hD : en75 (γ 0) (0, [ρ 0, ρ 15], γ 1) = .inl (0, [ρ 0, ρ 15 + 1], γ 6) := by
    unfold en75
    refine (if_pos (show (0 : Nat) = 0 by decide)).trans ?_
    refine (zLet_eq (show _ = γ 1 from rfl)).trans ?_
    refine (zLet_eq (show _ = ρ 0 from rfl)).trans ?_
    refine (zLet_eq (show _ = ρ 15 from rfl)).trans ?_
    refine (zLet_eq m2).trans ?_
    refine (zLet_eq m6).trans ?_
    refine (zLet_eq m15).trans ?_
    refine (zLet_eq m16).trans ?_
    refine (if_neg w_0).trans ?_
    refine (if_neg w_1).trans ?_
    refine (if_pos w_2).trans ?_
    refine (if_pos w_3).trans ?_
    refine (zLet_eq m19).trans ?_
    refine (zLet_eq m20).trans ?_
    refine (if_neg w_4).trans ?_
    refine (zLet_eq m21).trans ?_
    refine (if_neg w_5).trans ?_
    refine (zLet_eq c2.symm).trans ?_
    refine (if_neg w_6).trans ?_
    refine (zLet_eq m22).trans ?_
    refine (if_pos w_7).trans ?_
    refine (zLet_eq m23).trans ?_
    refine (zLet_eq c3.symm).trans ?_
    refine (if_neg w_8).trans ?_
    refine (zLet_eq m24).trans ?_
    refine (if_pos w_9).trans ?_
    refine (zLet_eq m25).trans ?_
    refine (zLet_eq c4.symm).trans ?_
    refine (if_pos w_10).trans ?_
    refine (zLet_eq m26).trans ?_
    refine (zLet_eq c5.symm).trans ?_
    refine (zLet_eq (show fn57 [ρ 7, ρ 0] (γ 5) = (0, 0, γ 6) from l0.symm)).trans ?_
    refine (zLet_eq (show _ = γ 6 from rfl)).trans ?_
    rfl
  exact zGoo_ato hJ hD
theorem vn75a0_21 {S : Nat → zSpc} (hS57 : ∀ x g o v gz, S 57 x g o v gz → sn57 x g o v gz) (hS73 : ∀ x g o v gz, S 73 x g o v gz → sn73 x g o v gz) {a : List Int} {g : rHp} : ∀ (ρ : Nat → Int) (γ : Nat → rHp), jn75 a g 0 (zAg (zNA a75_ 0) ρ) (γ 1) → zO 15 S a g q75a0_21 ρ γ → zGl (fun i vs g1 => jn75 a g i vs g1) (sn75 a g) q75a0_21 ρ γ := by
  intro ρ γ hJ h
  obtain ⟨ha, hg, hr, hf, hm, hc, hl⟩ := h
  have ha : a = [ρ 0, ρ 1, ρ 2, ρ 3, ρ 4, ρ 5, ρ 6, ρ 7, ρ 8, ρ 9, ρ 10, ρ 11, ρ 12, ρ 13, ρ 14] := ha
  subst ha
  subst hg
  have hJ : jn75 [ρ 0, ρ 1, ρ 2, ρ 3, ρ 4, ρ 5, ρ 6, ρ 7, ρ 8, ρ 9, ρ 10, ρ 11, ρ 12, ρ 13, ρ 14] (γ 0) 0 [ρ 0, ρ 1, ρ 2, ρ 3, ρ 4, ρ 5, ρ 6, ρ 7, ρ 8, ρ 9, ρ 10, ρ 11, ρ 12, ρ 13, ρ 14, ρ 15, ρ 16, ρ 17, ρ 18, ρ 19] (γ 1) := hJ
  obtain ⟨-, -, -, r3, -, -, -, -, -, -, -, -, -, -, -, -, -, r17, -, -, -, r21, r22, r23, -, r25, -, r27, -⟩ := hr
  have r3 : (2 : Int) ≤ ρ 3 ∧ ρ 3 ≤ 2 := r3
  have r17 : (0 : Int) ≤ ρ 17 ∧ ρ 17 ≤ 0 := r17
  have r21 : (4 : Int) ≤ ρ 21 ∧ ρ 21 ≤ 4 := r21
  have r22 : (3 : Int) ≤ ρ 22 ∧ ρ 22 ≤ 3 := r22
  have r23 : (0 : Int) ≤ ρ 23 ∧ ρ 23 ≤ 2 := r23
  have r25 : (0 : Int) ≤ ρ 25 ∧ ρ 25 ≤ 2 := r25
  have r27 : (0 : Int) ≤ ρ 27 ∧ ρ 27 ≤ 2 := r27
  obtain ⟨-, -, -, f3, -⟩ := hf
  have f3 : (0 : Int) ≤ ρ 18 + -ρ 15 + (-1) := f3
  obtain ⟨w_0, w_1, w_2, w_3, w_4, w_5, w_6, w_7, w_8, w_9, w_10, w_11⟩ : (¬ (ρ 15 ≥ ρ 18)) ∧ (¬ (ρ 17 ≠ 0)) ∧ (ρ 3 ≤ 2) ∧ (ρ 3 ≠ 1) ∧ (¬ (0 ≥ ρ 21)) ∧ (¬ (ρ 22 ≠ 3)) ∧ (¬ (1 ≥ ρ 21)) ∧ (ρ 23 ≠ 3) ∧ (¬ (2 ≥ ρ 21)) ∧ (ρ 25 ≠ 3) ∧ (¬ (3 ≥ ρ 21)) ∧ (ρ 27 ≠ 3) := ⟨by omega, by omega, by omega, by omega, by omega, by omega, by omega, by omega, by omega, by omega, by omega, by omega⟩
  obtain ⟨-, -, m2, -, -, -, m6, -, -, -, -, -, -, -, -, m15, m16, -, -, m19, m20, m21, m22, m23, m24, m25, m26, m27, -⟩ := hm
  have m2 : γ 0 71 0 (ρ 0) = ρ 3 := m2
  have m6 : γ 0 69 0 (ρ 0) = ρ 7 := m6
  have m15 : γ 1 15 0 77 = ρ 17 := m15
  have m16 : γ 1 15 0 90 = ρ 18 := m16
  have m19 : γ 1 107 0 (ρ 15) = ρ 20 := m19
  have m20 : γ 0 66 0 (ρ 7) = ρ 21 := m20
  have m21 : γ 0 70 0 (4 * ρ 0) = ρ 22 := m21
  have m22 : γ 0 70 0 (4 * ρ 0 + 1) = ρ 23 := m22
  have m23 : γ 1 105 0 (4 * ρ 15 + 1) = ρ 24 := m23
  have m24 : γ 0 70 0 (4 * ρ 0 + 2) = ρ 25 := m24
  have m25 : γ 1 105 0 (4 * ρ 15 + 2) = ρ 26 := m25
  have m26 : γ 0 70 0 (4 * ρ 0 + 3) = ρ 27 := m26
  have m27 : γ 1 105 0 (4 * ρ 15 + 3) = ρ 28 := m27
  obtain ⟨⟨⟨⟨⟨-, c2⟩, c3⟩, c4⟩, c5⟩, -⟩ := hc
  have c2 : γ 2 = rUp (γ 1) 102 0 0 (ρ 20) := c2
  have c3 : γ 3 = rUp (γ 2) 102 0 1 (ρ 24) := c3
  have c4 : γ 4 = rUp (γ 3) 102 0 2 (ρ 26) := c4
  have c5 : γ 5 = rUp (γ 4) 102 0 3 (ρ 28) := c5
  obtain ⟨l0, -⟩ := hl
  have l0 : sn57 [ρ 7, ρ 0, ρ 2, ρ 19, ρ 29, ρ 30, ρ 31, ρ 10, ρ 17] (γ 5) 0 0 (γ 6) := hS57 _ _ _ _ _ l0
  show jn75 [ρ 0, ρ 1, ρ 2, ρ 3, ρ 4, ρ 5, ρ 6, ρ 7, ρ 8, ρ 9, ρ 10, ρ 11, ρ 12, ρ 13, ρ 14] (γ 0) 0 [ρ 0, ρ 1, ρ 2, ρ 3, ρ 4, ρ 5, ρ 6, ρ 7, ρ 8, ρ 9, ρ 10, ρ 11, ρ 12, ρ 13, ρ 14, ρ 15 + 1, ρ 16, ρ 36, ρ 18, ρ 32] (γ 6)
  have hD : en75 (γ 0) (0, [ρ 0, ρ 15], γ 1) = .inl (0, [ρ 0, ρ 15 + 1], γ 6) := by
    unfold en75
    refine (if_pos (show (0 : Nat) = 0 by decide)).trans ?_
    refine (zLet_eq (show _ = γ 1 from rfl)).trans ?_
    refine (zLet_eq (show _ = ρ 0 from rfl)).trans ?_
    refine (zLet_eq (show _ = ρ 15 from rfl)).trans ?_
    refine (zLet_eq m2).trans ?_
    refine (zLet_eq m6).trans ?_
    refine (zLet_eq m15).trans ?_
    refine (zLet_eq m16).trans ?_
    refine (if_neg w_0).trans ?_
    refine (if_neg w_1).trans ?_
    refine (if_pos w_2).trans ?_
    refine (if_pos w_3).trans ?_
    refine (zLet_eq m19).trans ?_
    refine (zLet_eq m20).trans ?_
    refine (if_neg w_4).trans ?_
    refine (zLet_eq m21).trans ?_
    refine (if_neg w_5).trans ?_
    refine (zLet_eq c2.symm).trans ?_
    refine (if_neg w_6).trans ?_
    refine (zLet_eq m22).trans ?_
    refine (if_pos w_7).trans ?_
    refine (zLet_eq m23).trans ?_
    refine (zLet_eq c3.symm).trans ?_
    refine (if_neg w_8).trans ?_
    refine (zLet_eq m24).trans ?_
    refine (if_pos w_9).trans ?_
    refine (zLet_eq m25).trans ?_
    refine (zLet_eq c4.symm).trans ?_
    refine (if_neg w_10).trans ?_
    refine (zLet_eq m26).trans ?_
    refine (if_pos w_11).trans ?_
    refine (zLet_eq m27).trans ?_
    refine (zLet_eq c5.symm).trans ?_
    refine (zLet_eq (show fn57 [ρ 7, ρ 0] (γ 5) = (0, 0, γ 6) from l0.symm)).trans ?_
    refine (zLet_eq (show _ = γ 6 from rfl)).trans ?_
    rfl
  exact zGoo_ato hJ hD
theorem vn75a0_22 {S : Nat → zSpc} (hS57 : ∀ x g o v gz, S 57 x g o v gz → sn57 x g o v gz) (hS73 : ∀ x g o v gz, S 73 x g o v gz → sn73 x g o v gz) {a : List Int} {g : rHp} : ∀ (ρ : Nat → Int) (γ : Nat → rHp), jn75 a g 0 (zAg (zNA a75_ 0) ρ) (γ 1) → zO 15 S a g q75a0_22 ρ γ → zGl (fun i vs g1 => jn75 a g i vs g1) (sn75 a g) q75a0_22 ρ γ := by
  intro ρ γ hJ h
  obtain ⟨ha, hg, hr, hf, hm, hc, hl⟩ := h
  have ha : a = [ρ 0, ρ 1, ρ 2, ρ 3, ρ 4, ρ 5, ρ 6, ρ 7, ρ 8, ρ 9, ρ 10, ρ 11, ρ 12, ρ 13, ρ 14] := ha
  subst ha
  subst hg
  have hJ : jn75 [ρ 0, ρ 1, ρ 2, ρ 3, ρ 4, ρ 5, ρ 6, ρ 7, ρ 8, ρ 9, ρ 10, ρ 11, ρ 12, ρ 13, ρ 14] (γ 0) 0 [ρ 0, ρ 1, ρ 2, ρ 3, ρ 4, ρ 5, ρ 6, ρ 7, ρ 8, ρ 9, ρ 10, ρ 11, ρ 12, ρ 13, ρ 14, ρ 15, ρ 16, ρ 17, ρ 18, ρ 19] (γ 1) := hJ
  obtain ⟨-, -, -, r3, -, -, -, -, -, -, -, -, -, -, -, -, -, r17, -, -, -, r21, r22, r23, -, r25, -, r27, -⟩ := hr
  have r3 : (2 : Int) ≤ ρ 3 ∧ ρ 3 ≤ 2 := r3
  have r17 : (0 : Int) ≤ ρ 17 ∧ ρ 17 ≤ 0 := r17
  have r21 : (4 : Int) ≤ ρ 21 ∧ ρ 21 ≤ 4 := r21
  have r22 : (3 : Int) ≤ ρ 22 ∧ ρ 22 ≤ 3 := r22
  have r23 : (0 : Int) ≤ ρ 23 ∧ ρ 23 ≤ 2 := r23
  have r25 : (0 : Int) ≤ ρ 25 ∧ ρ 25 ≤ 2 := r25
  have r27 : (3 : Int) ≤ ρ 27 ∧ ρ 27 ≤ 3 := r27
  obtain ⟨-, -, -, f3, -⟩ := hf
  have f3 : (0 : Int) ≤ ρ 18 + -ρ 15 + (-1) := f3
  obtain ⟨w_0, w_1, w_2, w_3, w_4, w_5, w_6, w_7, w_8, w_9, w_10, w_11⟩ : (¬ (ρ 15 ≥ ρ 18)) ∧ (¬ (ρ 17 ≠ 0)) ∧ (ρ 3 ≤ 2) ∧ (ρ 3 ≠ 1) ∧ (¬ (0 ≥ ρ 21)) ∧ (¬ (ρ 22 ≠ 3)) ∧ (¬ (1 ≥ ρ 21)) ∧ (ρ 23 ≠ 3) ∧ (¬ (2 ≥ ρ 21)) ∧ (ρ 25 ≠ 3) ∧ (¬ (3 ≥ ρ 21)) ∧ (¬ (ρ 27 ≠ 3)) := ⟨by omega, by omega, by omega, by omega, by omega, by omega, by omega, by omega, by omega, by omega, by omega, by omega⟩
  obtain ⟨-, -, m2, -, -, -, m6, -, -, -, -, -, -, -, -, m15, m16, -, -, m19, m20, m21, m22, m23, m24, m25, m26, -⟩ := hm
  have m2 : γ 0 71 0 (ρ 0) = ρ 3 := m2
  have m6 : γ 0 69 0 (ρ 0) = ρ 7 := m6
  have m15 : γ 1 15 0 77 = ρ 17 := m15
  have m16 : γ 1 15 0 90 = ρ 18 := m16
  have m19 : γ 1 107 0 (ρ 15) = ρ 20 := m19
  have m20 : γ 0 66 0 (ρ 7) = ρ 21 := m20
  have m21 : γ 0 70 0 (4 * ρ 0) = ρ 22 := m21
  have m22 : γ 0 70 0 (4 * ρ 0 + 1) = ρ 23 := m22
  have m23 : γ 1 105 0 (4 * ρ 15 + 1) = ρ 24 := m23
  have m24 : γ 0 70 0 (4 * ρ 0 + 2) = ρ 25 := m24
  have m25 : γ 1 105 0 (4 * ρ 15 + 2) = ρ 26 := m25
  have m26 : γ 0 70 0 (4 * ρ 0 + 3) = ρ 27 := m26
  obtain ⟨⟨⟨⟨⟨-, c2⟩, c3⟩, c4⟩, c5⟩, -⟩ := hc
  have c2 : γ 2 = rUp (γ 1) 102 0 0 (ρ 20) := c2
  have c3 : γ 3 = rUp (γ 2) 102 0 1 (ρ 24) := c3
  have c4 : γ 4 = rUp (γ 3) 102 0 2 (ρ 26) := c4
  have c5 : γ 5 = rUp (γ 4) 102 0 3 (ρ 20) := c5
  obtain ⟨l0, -⟩ := hl
  have l0 : sn57 [ρ 7, ρ 0, ρ 2, ρ 19, ρ 28, ρ 29, ρ 30, ρ 10, ρ 17] (γ 5) 0 0 (γ 6) := hS57 _ _ _ _ _ l0
  show jn75 [ρ 0, ρ 1, ρ 2, ρ 3, ρ 4, ρ 5, ρ 6, ρ 7, ρ 8, ρ 9, ρ 10, ρ 11, ρ 12, ρ 13, ρ 14] (γ 0) 0 [ρ 0, ρ 1, ρ 2, ρ 3, ρ 4, ρ 5, ρ 6, ρ 7, ρ 8, ρ 9, ρ 10, ρ 11, ρ 12, ρ 13, ρ 14, ρ 15 + 1, ρ 16, ρ 35, ρ 18, ρ 31] (γ 6)
  have hD : en75 (γ 0) (0, [ρ 0, ρ 15], γ 1) = .inl (0, [ρ 0, ρ 15 + 1], γ 6) := by
    unfold en75
    refine (if_pos (show (0 : Nat) = 0 by decide)).trans ?_
    refine (zLet_eq (show _ = γ 1 from rfl)).trans ?_
    refine (zLet_eq (show _ = ρ 0 from rfl)).trans ?_
    refine (zLet_eq (show _ = ρ 15 from rfl)).trans ?_
    refine (zLet_eq m2).trans ?_
    refine (zLet_eq m6).trans ?_
    refine (zLet_eq m15).trans ?_
    refine (zLet_eq m16).trans ?_
    refine (if_neg w_0).trans ?_
    refine (if_neg w_1).trans ?_
    refine (if_pos w_2).trans ?_
    refine (if_pos w_3).trans ?_
    refine (zLet_eq m19).trans ?_
    refine (zLet_eq m20).trans ?_
    refine (if_neg w_4).trans ?_
    refine (zLet_eq m21).trans ?_
    refine (if_neg w_5).trans ?_
    refine (zLet_eq c2.symm).trans ?_
    refine (if_neg w_6).trans ?_
    refine (zLet_eq m22).trans ?_
    refine (if_pos w_7).trans ?_
    refine (zLet_eq m23).trans ?_
    refine (zLet_eq c3.symm).trans ?_
    refine (if_neg w_8).trans ?_
    refine (zLet_eq m24).trans ?_
    refine (if_pos w_9).trans ?_
    refine (zLet_eq m25).trans ?_
    refine (zLet_eq c4.symm).trans ?_
    refine (if_neg w_10).trans ?_
    refine (zLet_eq m26).trans ?_
    refine (if_neg w_11).trans ?_
    refine (zLet_eq c5.symm).trans ?_
    refine (zLet_eq (show fn57 [ρ 7, ρ 0] (γ 5) = (0, 0, γ 6) from l0.symm)).trans ?_
    refine (zLet_eq (show _ = γ 6 from rfl)).trans ?_
    rfl
  exact zGoo_ato hJ hD
theorem vn75a0_23 {S : Nat → zSpc} (hS57 : ∀ x g o v gz, S 57 x g o v gz → sn57 x g o v gz) (hS73 : ∀ x g o v gz, S 73 x g o v gz → sn73 x g o v gz) {a : List Int} {g : rHp} : ∀ (ρ : Nat → Int) (γ : Nat → rHp), jn75 a g 0 (zAg (zNA a75_ 0) ρ) (γ 1) → zO 15 S a g q75a0_23 ρ γ → zGl (fun i vs g1 => jn75 a g i vs g1) (sn75 a g) q75a0_23 ρ γ := by
  intro ρ γ hJ h
  obtain ⟨ha, hg, hr, hf, hm, hc, hl⟩ := h
  have ha : a = [ρ 0, ρ 1, ρ 2, ρ 3, ρ 4, ρ 5, ρ 6, ρ 7, ρ 8, ρ 9, ρ 10, ρ 11, ρ 12, ρ 13, ρ 14] := ha
  subst ha
  subst hg
  have hJ : jn75 [ρ 0, ρ 1, ρ 2, ρ 3, ρ 4, ρ 5, ρ 6, ρ 7, ρ 8, ρ 9, ρ 10, ρ 11, ρ 12, ρ 13, ρ 14] (γ 0) 0 [ρ 0, ρ 1, ρ 2, ρ 3, ρ 4, ρ 5, ρ 6, ρ 7, ρ 8, ρ 9, ρ 10, ρ 11, ρ 12, ρ 13, ρ 14, ρ 15, ρ 16, ρ 17, ρ 18, ρ 19] (γ 1) := hJ
  obtain ⟨-, -, -, r3, -, -, -, -, -, -, -, -, -, -, -, -, -, r17, -, -, -, r21, r22, r23, -, r25, -⟩ := hr
  have r3 : (2 : Int) ≤ ρ 3 ∧ ρ 3 ≤ 2 := r3
  have r17 : (0 : Int) ≤ ρ 17 ∧ ρ 17 ≤ 0 := r17
  have r21 : (3 : Int) ≤ ρ 21 ∧ ρ 21 ≤ 3 := r21
  have r22 : (3 : Int) ≤ ρ 22 ∧ ρ 22 ≤ 3 := r22
  have r23 : (0 : Int) ≤ ρ 23 ∧ ρ 23 ≤ 2 := r23
  have r25 : (3 : Int) ≤ ρ 25 ∧ ρ 25 ≤ 3 := r25
  obtain ⟨-, -, -, f3, -⟩ := hf
  have f3 : (0 : Int) ≤ ρ 18 + -ρ 15 + (-1) := f3
  obtain ⟨w_0, w_1, w_2, w_3, w_4, w_5, w_6, w_7, w_8, w_9, w_10⟩ : (¬ (ρ 15 ≥ ρ 18)) ∧ (¬ (ρ 17 ≠ 0)) ∧ (ρ 3 ≤ 2) ∧ (ρ 3 ≠ 1) ∧ (¬ (0 ≥ ρ 21)) ∧ (¬ (ρ 22 ≠ 3)) ∧ (¬ (1 ≥ ρ 21)) ∧ (ρ 23 ≠ 3) ∧ (¬ (2 ≥ ρ 21)) ∧ (¬ (ρ 25 ≠ 3)) ∧ (3 ≥ ρ 21) := ⟨by omega, by omega, by omega, by omega, by omega, by omega, by omega, by omega, by omega, by omega, by omega⟩
  obtain ⟨-, -, m2, -, -, -, m6, -, -, -, -, -, -, -, -, m15, m16, -, -, m19, m20, m21, m22, m23, m24, m25, -⟩ := hm
  have m2 : γ 0 71 0 (ρ 0) = ρ 3 := m2
  have m6 : γ 0 69 0 (ρ 0) = ρ 7 := m6
  have m15 : γ 1 15 0 77 = ρ 17 := m15
  have m16 : γ 1 15 0 90 = ρ 18 := m16
  have m19 : γ 1 107 0 (ρ 15) = ρ 20 := m19
  have m20 : γ 0 66 0 (ρ 7) = ρ 21 := m20
  have m21 : γ 0 70 0 (4 * ρ 0) = ρ 22 := m21
  have m22 : γ 0 70 0 (4 * ρ 0 + 1) = ρ 23 := m22
  have m23 : γ 1 105 0 (4 * ρ 15 + 1) = ρ 24 := m23
  have m24 : γ 0 70 0 (4 * ρ 0 + 2) = ρ 25 := m24
  have m25 : γ 1 105 0 (4 * ρ 15 + 3) = ρ 26 := m25
  obtain ⟨⟨⟨⟨⟨-, c2⟩, c3⟩, c4⟩, c5⟩, -⟩ := hc
  have c2 : γ 2 = rUp (γ 1) 102 0 0 (ρ 20) := c2
  have c3 : γ 3 = rUp (γ 2) 102 0 1 (ρ 24) := c3
  have c4 : γ 4 = rUp (γ 3) 102 0 2 (ρ 20) := c4
  have c5 : γ 5 = rUp (γ 4) 102 0 3 (ρ 26) := c5
  obtain ⟨l0, -⟩ := hl
  have l0 : sn57 [ρ 7, ρ 0, ρ 2, ρ 19, ρ 27, ρ 28, ρ 29, ρ 10, ρ 17] (γ 5) 0 0 (γ 6) := hS57 _ _ _ _ _ l0
  show jn75 [ρ 0, ρ 1, ρ 2, ρ 3, ρ 4, ρ 5, ρ 6, ρ 7, ρ 8, ρ 9, ρ 10, ρ 11, ρ 12, ρ 13, ρ 14] (γ 0) 0 [ρ 0, ρ 1, ρ 2, ρ 3, ρ 4, ρ 5, ρ 6, ρ 7, ρ 8, ρ 9, ρ 10, ρ 11, ρ 12, ρ 13, ρ 14, ρ 15 + 1, ρ 16, ρ 34, ρ 18, ρ 30] (γ 6)
  have hD : en75 (γ 0) (0, [ρ 0, ρ 15], γ 1) = .inl (0, [ρ 0, ρ 15 + 1], γ 6) := by
    unfold en75
    refine (if_pos (show (0 : Nat) = 0 by decide)).trans ?_
    refine (zLet_eq (show _ = γ 1 from rfl)).trans ?_
    refine (zLet_eq (show _ = ρ 0 from rfl)).trans ?_
    refine (zLet_eq (show _ = ρ 15 from rfl)).trans ?_
    refine (zLet_eq m2).trans ?_
    refine (zLet_eq m6).trans ?_
    refine (zLet_eq m15).trans ?_
    refine (zLet_eq m16).trans ?_
    refine (if_neg w_0).trans ?_
    refine (if_neg w_1).trans ?_
    refine (if_pos w_2).trans ?_
    refine (if_pos w_3).trans ?_
    refine (zLet_eq m19).trans ?_
    refine (zLet_eq m20).trans ?_
    refine (if_neg w_4).trans ?_
    refine (zLet_eq m21).trans ?_
    refine (if_neg w_5).trans ?_
    refine (zLet_eq c2.symm).trans ?_
    refine (if_neg w_6).trans ?_
    refine (zLet_eq m22).trans ?_
    refine (if_pos w_7).trans ?_
    refine (zLet_eq m23).trans ?_
    refine (zLet_eq c3.symm).trans ?_
    refine (if_neg w_8).trans ?_
    refine (zLet_eq m24).trans ?_
    refine (if_neg w_9).trans ?_
    refine (zLet_eq c4.symm).trans ?_
    refine (if_pos w_10).trans ?_
    refine (zLet_eq m25).trans ?_
    refine (zLet_eq c5.symm).trans ?_
    refine (zLet_eq (show fn57 [ρ 7, ρ 0] (γ 5) = (0, 0, γ 6) from l0.symm)).trans ?_
    refine (zLet_eq (show _ = γ 6 from rfl)).trans ?_
    rfl
  exact zGoo_ato hJ hD
theorem vn75a0_24 {S : Nat → zSpc} (hS57 : ∀ x g o v gz, S 57 x g o v gz → sn57 x g o v gz) (hS73 : ∀ x g o v gz, S 73 x g o v gz → sn73 x g o v gz) {a : List Int} {g : rHp} : ∀ (ρ : Nat → Int) (γ : Nat → rHp), jn75 a g 0 (zAg (zNA a75_ 0) ρ) (γ 1) → zO 15 S a g q75a0_24 ρ γ → zGl (fun i vs g1 => jn75 a g i vs g1) (sn75 a g) q75a0_24 ρ γ := by
  intro ρ γ hJ h
  obtain ⟨ha, hg, hr, hf, hm, hc, hl⟩ := h
  have ha : a = [ρ 0, ρ 1, ρ 2, ρ 3, ρ 4, ρ 5, ρ 6, ρ 7, ρ 8, ρ 9, ρ 10, ρ 11, ρ 12, ρ 13, ρ 14] := ha
  subst ha
  subst hg
  have hJ : jn75 [ρ 0, ρ 1, ρ 2, ρ 3, ρ 4, ρ 5, ρ 6, ρ 7, ρ 8, ρ 9, ρ 10, ρ 11, ρ 12, ρ 13, ρ 14] (γ 0) 0 [ρ 0, ρ 1, ρ 2, ρ 3, ρ 4, ρ 5, ρ 6, ρ 7, ρ 8, ρ 9, ρ 10, ρ 11, ρ 12, ρ 13, ρ 14, ρ 15, ρ 16, ρ 17, ρ 18, ρ 19] (γ 1) := hJ
  obtain ⟨-, -, -, r3, -, -, -, -, -, -, -, -, -, -, -, -, -, r17, -, -, -, r21, r22, r23, -, r25, r26, -⟩ := hr
  have r3 : (2 : Int) ≤ ρ 3 ∧ ρ 3 ≤ 2 := r3
  have r17 : (0 : Int) ≤ ρ 17 ∧ ρ 17 ≤ 0 := r17
  have r21 : (4 : Int) ≤ ρ 21 ∧ ρ 21 ≤ 4 := r21
  have r22 : (3 : Int) ≤ ρ 22 ∧ ρ 22 ≤ 3 := r22
  have r23 : (0 : Int) ≤ ρ 23 ∧ ρ 23 ≤ 2 := r23
  have r25 : (3 : Int) ≤ ρ 25 ∧ ρ 25 ≤ 3 := r25
  have r26 : (0 : Int) ≤ ρ 26 ∧ ρ 26 ≤ 2 := r26
  obtain ⟨-, -, -, f3, -⟩ := hf
  have f3 : (0 : Int) ≤ ρ 18 + -ρ 15 + (-1) := f3
  obtain ⟨w_0, w_1, w_2, w_3, w_4, w_5, w_6, w_7, w_8, w_9, w_10, w_11⟩ : (¬ (ρ 15 ≥ ρ 18)) ∧ (¬ (ρ 17 ≠ 0)) ∧ (ρ 3 ≤ 2) ∧ (ρ 3 ≠ 1) ∧ (¬ (0 ≥ ρ 21)) ∧ (¬ (ρ 22 ≠ 3)) ∧ (¬ (1 ≥ ρ 21)) ∧ (ρ 23 ≠ 3) ∧ (¬ (2 ≥ ρ 21)) ∧ (¬ (ρ 25 ≠ 3)) ∧ (¬ (3 ≥ ρ 21)) ∧ (ρ 26 ≠ 3) := ⟨by omega, by omega, by omega, by omega, by omega, by omega, by omega, by omega, by omega, by omega, by omega, by omega⟩
  obtain ⟨-, -, m2, -, -, -, m6, -, -, -, -, -, -, -, -, m15, m16, -, -, m19, m20, m21, m22, m23, m24, m25, m26, -⟩ := hm
  have m2 : γ 0 71 0 (ρ 0) = ρ 3 := m2
  have m6 : γ 0 69 0 (ρ 0) = ρ 7 := m6
  have m15 : γ 1 15 0 77 = ρ 17 := m15
  have m16 : γ 1 15 0 90 = ρ 18 := m16
  have m19 : γ 1 107 0 (ρ 15) = ρ 20 := m19
  have m20 : γ 0 66 0 (ρ 7) = ρ 21 := m20
  have m21 : γ 0 70 0 (4 * ρ 0) = ρ 22 := m21
  have m22 : γ 0 70 0 (4 * ρ 0 + 1) = ρ 23 := m22
  have m23 : γ 1 105 0 (4 * ρ 15 + 1) = ρ 24 := m23
  have m24 : γ 0 70 0 (4 * ρ 0 + 2) = ρ 25 := m24
  have m25 : γ 0 70 0 (4 * ρ 0 + 3) = ρ 26 := m25
  have m26 : γ 1 105 0 (4 * ρ 15 + 3) = ρ 27 := m26
  obtain ⟨⟨⟨⟨⟨-, c2⟩, c3⟩, c4⟩, c5⟩, -⟩ := hc
  have c2 : γ 2 = rUp (γ 1) 102 0 0 (ρ 20) := c2
  have c3 : γ 3 = rUp (γ 2) 102 0 1 (ρ 24) := c3
  have c4 : γ 4 = rUp (γ 3) 102 0 2 (ρ 20) := c4
  have c5 : γ 5 = rUp (γ 4) 102 0 3 (ρ 27) := c5
  obtain ⟨l0, -⟩ := hl
  have l0 : sn57 [ρ 7, ρ 0, ρ 2, ρ 19, ρ 28, ρ 29, ρ 30, ρ 10, ρ 17] (γ 5) 0 0 (γ 6) := hS57 _ _ _ _ _ l0
  show jn75 [ρ 0, ρ 1, ρ 2, ρ 3, ρ 4, ρ 5, ρ 6, ρ 7, ρ 8, ρ 9, ρ 10, ρ 11, ρ 12, ρ 13, ρ 14] (γ 0) 0 [ρ 0, ρ 1, ρ 2, ρ 3, ρ 4, ρ 5, ρ 6, ρ 7, ρ 8, ρ 9, ρ 10, ρ 11, ρ 12, ρ 13, ρ 14, ρ 15 + 1, ρ 16, ρ 35, ρ 18, ρ 31] (γ 6)
  have hD : en75 (γ 0) (0, [ρ 0, ρ 15], γ 1) = .inl (0, [ρ 0, ρ 15 + 1], γ 6) := by
    unfold en75
    refine (if_pos (show (0 : Nat) = 0 by decide)).trans ?_
    refine (zLet_eq (show _ = γ 1 from rfl)).trans ?_
    refine (zLet_eq (show _ = ρ 0 from rfl)).trans ?_
    refine (zLet_eq (show _ = ρ 15 from rfl)).trans ?_
    refine (zLet_eq m2).trans ?_
    refine (zLet_eq m6).trans ?_
    refine (zLet_eq m15).trans ?_
    refine (zLet_eq m16).trans ?_
    refine (if_neg w_0).trans ?_
    refine (if_neg w_1).trans ?_
    refine (if_pos w_2).trans ?_
    refine (if_pos w_3).trans ?_
    refine (zLet_eq m19).trans ?_
    refine (zLet_eq m20).trans ?_
    refine (if_neg w_4).trans ?_
    refine (zLet_eq m21).trans ?_
    refine (if_neg w_5).trans ?_
    refine (zLet_eq c2.symm).trans ?_
    refine (if_neg w_6).trans ?_
    refine (zLet_eq m22).trans ?_
    refine (if_pos w_7).trans ?_
    refine (zLet_eq m23).trans ?_
    refine (zLet_eq c3.symm).trans ?_
    refine (if_neg w_8).trans ?_
    refine (zLet_eq m24).trans ?_
    refine (if_neg w_9).trans ?_
    refine (zLet_eq c4.symm).trans ?_
    refine (if_neg w_10).trans ?_
    refine (zLet_eq m25).trans ?_
    refine (if_pos w_11).trans ?_
    refine (zLet_eq m26).trans ?_
    refine (zLet_eq c5.symm).trans ?_
    refine (zLet_eq (show fn57 [ρ 7, ρ 0] (γ 5) = (0, 0, γ 6) from l0.symm)).trans ?_
    refine (zLet_eq (show _ = γ 6 from rfl)).trans ?_
    rfl
  exact zGoo_ato hJ hD
theorem vn75a0_25 {S : Nat → zSpc} (hS57 : ∀ x g o v gz, S 57 x g o v gz → sn57 x g o v gz) (hS73 : ∀ x g o v gz, S 73 x g o v gz → sn73 x g o v gz) {a : List Int} {g : rHp} : ∀ (ρ : Nat → Int) (γ : Nat → rHp), jn75 a g 0 (zAg (zNA a75_ 0) ρ) (γ 1) → zO 15 S a g q75a0_25 ρ γ → zGl (fun i vs g1 => jn75 a g i vs g1) (sn75 a g) q75a0_25 ρ γ := by
  intro ρ γ hJ h
  obtain ⟨ha, hg, hr, hf, hm, hc, hl⟩ := h
  have ha : a = [ρ 0, ρ 1, ρ 2, ρ 3, ρ 4, ρ 5, ρ 6, ρ 7, ρ 8, ρ 9, ρ 10, ρ 11, ρ 12, ρ 13, ρ 14] := ha
  subst ha
  subst hg
  have hJ : jn75 [ρ 0, ρ 1, ρ 2, ρ 3, ρ 4, ρ 5, ρ 6, ρ 7, ρ 8, ρ 9, ρ 10, ρ 11, ρ 12, ρ 13, ρ 14] (γ 0) 0 [ρ 0, ρ 1, ρ 2, ρ 3, ρ 4, ρ 5, ρ 6, ρ 7, ρ 8, ρ 9, ρ 10, ρ 11, ρ 12, ρ 13, ρ 14, ρ 15, ρ 16, ρ 17, ρ 18, ρ 19] (γ 1) := hJ
  obtain ⟨-, -, -, r3, -, -, -, -, -, -, -, -, -, -, -, -, -, r17, -, -, -, r21, r22, r23, -, r25, r26, -⟩ := hr
  have r3 : (2 : Int) ≤ ρ 3 ∧ ρ 3 ≤ 2 := r3
  have r17 : (0 : Int) ≤ ρ 17 ∧ ρ 17 ≤ 0 := r17
  have r21 : (4 : Int) ≤ ρ 21 ∧ ρ 21 ≤ 4 := r21
  have r22 : (3 : Int) ≤ ρ 22 ∧ ρ 22 ≤ 3 := r22
  have r23 : (0 : Int) ≤ ρ 23 ∧ ρ 23 ≤ 2 := r23
  have r25 : (3 : Int) ≤ ρ 25 ∧ ρ 25 ≤ 3 := r25
  have r26 : (3 : Int) ≤ ρ 26 ∧ ρ 26 ≤ 3 := r26
  obtain ⟨-, -, -, f3, -⟩ := hf
  have f3 : (0 : Int) ≤ ρ 18 + -ρ 15 + (-1) := f3
  obtain ⟨w_0, w_1, w_2, w_3, w_4, w_5, w_6, w_7, w_8, w_9, w_10, w_11⟩ : (¬ (ρ 15 ≥ ρ 18)) ∧ (¬ (ρ 17 ≠ 0)) ∧ (ρ 3 ≤ 2) ∧ (ρ 3 ≠ 1) ∧ (¬ (0 ≥ ρ 21)) ∧ (¬ (ρ 22 ≠ 3)) ∧ (¬ (1 ≥ ρ 21)) ∧ (ρ 23 ≠ 3) ∧ (¬ (2 ≥ ρ 21)) ∧ (¬ (ρ 25 ≠ 3)) ∧ (¬ (3 ≥ ρ 21)) ∧ (¬ (ρ 26 ≠ 3)) := ⟨by omega, by omega, by omega, by omega, by omega, by omega, by omega, by omega, by omega, by omega, by omega, by omega⟩
  obtain ⟨-, -, m2, -, -, -, m6, -, -, -, -, -, -, -, -, m15, m16, -, -, m19, m20, m21, m22, m23, m24, m25, -⟩ := hm
  have m2 : γ 0 71 0 (ρ 0) = ρ 3 := m2
  have m6 : γ 0 69 0 (ρ 0) = ρ 7 := m6
  have m15 : γ 1 15 0 77 = ρ 17 := m15
  have m16 : γ 1 15 0 90 = ρ 18 := m16
  have m19 : γ 1 107 0 (ρ 15) = ρ 20 := m19
  have m20 : γ 0 66 0 (ρ 7) = ρ 21 := m20
  have m21 : γ 0 70 0 (4 * ρ 0) = ρ 22 := m21
  have m22 : γ 0 70 0 (4 * ρ 0 + 1) = ρ 23 := m22
  have m23 : γ 1 105 0 (4 * ρ 15 + 1) = ρ 24 := m23
  have m24 : γ 0 70 0 (4 * ρ 0 + 2) = ρ 25 := m24
  have m25 : γ 0 70 0 (4 * ρ 0 + 3) = ρ 26 := m25
  obtain ⟨⟨⟨⟨⟨-, c2⟩, c3⟩, c4⟩, c5⟩, -⟩ := hc
  have c2 : γ 2 = rUp (γ 1) 102 0 0 (ρ 20) := c2
  have c3 : γ 3 = rUp (γ 2) 102 0 1 (ρ 24) := c3
  have c4 : γ 4 = rUp (γ 3) 102 0 2 (ρ 20) := c4
  have c5 : γ 5 = rUp (γ 4) 102 0 3 (ρ 20) := c5
  obtain ⟨l0, -⟩ := hl
  have l0 : sn57 [ρ 7, ρ 0, ρ 2, ρ 19, ρ 27, ρ 28, ρ 29, ρ 10, ρ 17] (γ 5) 0 0 (γ 6) := hS57 _ _ _ _ _ l0
  show jn75 [ρ 0, ρ 1, ρ 2, ρ 3, ρ 4, ρ 5, ρ 6, ρ 7, ρ 8, ρ 9, ρ 10, ρ 11, ρ 12, ρ 13, ρ 14] (γ 0) 0 [ρ 0, ρ 1, ρ 2, ρ 3, ρ 4, ρ 5, ρ 6, ρ 7, ρ 8, ρ 9, ρ 10, ρ 11, ρ 12, ρ 13, ρ 14, ρ 15 + 1, ρ 16, ρ 34, ρ 18, ρ 30] (γ 6)
  have hD : en75 (γ 0) (0, [ρ 0, ρ 15], γ 1) = .inl (0, [ρ 0, ρ 15 + 1], γ 6) := by
    unfold en75
    refine (if_pos (show (0 : Nat) = 0 by decide)).trans ?_
    refine (zLet_eq (show _ = γ 1 from rfl)).trans ?_
    refine (zLet_eq (show _ = ρ 0 from rfl)).trans ?_
    refine (zLet_eq (show _ = ρ 15 from rfl)).trans ?_
    refine (zLet_eq m2).trans ?_
    refine (zLet_eq m6).trans ?_
    refine (zLet_eq m15).trans ?_
    refine (zLet_eq m16).trans ?_
    refine (if_neg w_0).trans ?_
    refine (if_neg w_1).trans ?_
    refine (if_pos w_2).trans ?_
    refine (if_pos w_3).trans ?_
    refine (zLet_eq m19).trans ?_
    refine (zLet_eq m20).trans ?_
    refine (if_neg w_4).trans ?_
    refine (zLet_eq m21).trans ?_
    refine (if_neg w_5).trans ?_
    refine (zLet_eq c2.symm).trans ?_
    refine (if_neg w_6).trans ?_
    refine (zLet_eq m22).trans ?_
    refine (if_pos w_7).trans ?_
    refine (zLet_eq m23).trans ?_
    refine (zLet_eq c3.symm).trans ?_
    refine (if_neg w_8).trans ?_
    refine (zLet_eq m24).trans ?_
    refine (if_neg w_9).trans ?_
    refine (zLet_eq c4.symm).trans ?_
    refine (if_neg w_10).trans ?_
    refine (zLet_eq m25).trans ?_
    refine (if_neg w_11).trans ?_
    refine (zLet_eq c5.symm).trans ?_
    refine (zLet_eq (show fn57 [ρ 7, ρ 0] (γ 5) = (0, 0, γ 6) from l0.symm)).trans ?_
    refine (zLet_eq (show _ = γ 6 from rfl)).trans ?_
    rfl
  exact zGoo_ato hJ hD
theorem vn75a0_26 {S : Nat → zSpc} (hS57 : ∀ x g o v gz, S 57 x g o v gz → sn57 x g o v gz) (hS73 : ∀ x g o v gz, S 73 x g o v gz → sn73 x g o v gz) {a : List Int} {g : rHp} : ∀ (ρ : Nat → Int) (γ : Nat → rHp), jn75 a g 0 (zAg (zNA a75_ 0) ρ) (γ 1) → zO 15 S a g q75a0_26 ρ γ → zGl (fun i vs g1 => jn75 a g i vs g1) (sn75 a g) q75a0_26 ρ γ := by
  intro ρ γ hJ h
  obtain ⟨ha, hg, hr, hf, hm, hc, hl⟩ := h
  have ha : a = [ρ 0, ρ 1, ρ 2, ρ 3, ρ 4, ρ 5, ρ 6, ρ 7, ρ 8, ρ 9, ρ 10, ρ 11, ρ 12, ρ 13, ρ 14] := ha
  subst ha
  subst hg
  have hJ : jn75 [ρ 0, ρ 1, ρ 2, ρ 3, ρ 4, ρ 5, ρ 6, ρ 7, ρ 8, ρ 9, ρ 10, ρ 11, ρ 12, ρ 13, ρ 14] (γ 0) 0 [ρ 0, ρ 1, ρ 2, ρ 3, ρ 4, ρ 5, ρ 6, ρ 7, ρ 8, ρ 9, ρ 10, ρ 11, ρ 12, ρ 13, ρ 14, ρ 15, ρ 16, ρ 17, ρ 18, ρ 19] (γ 1) := hJ
  obtain ⟨-, -, -, r3, -, -, -, -, -, -, -, -, -, -, -, -, -, r17, -, -, -, r21, r22, r23, -⟩ := hr
  have r3 : (2 : Int) ≤ ρ 3 ∧ ρ 3 ≤ 2 := r3
  have r17 : (0 : Int) ≤ ρ 17 ∧ ρ 17 ≤ 0 := r17
  have r21 : (2 : Int) ≤ ρ 21 ∧ ρ 21 ≤ 2 := r21
  have r22 : (3 : Int) ≤ ρ 22 ∧ ρ 22 ≤ 3 := r22
  have r23 : (3 : Int) ≤ ρ 23 ∧ ρ 23 ≤ 3 := r23
  obtain ⟨-, -, -, f3, -⟩ := hf
  have f3 : (0 : Int) ≤ ρ 18 + -ρ 15 + (-1) := f3
  obtain ⟨w_0, w_1, w_2, w_3, w_4, w_5, w_6, w_7, w_8⟩ : (¬ (ρ 15 ≥ ρ 18)) ∧ (¬ (ρ 17 ≠ 0)) ∧ (ρ 3 ≤ 2) ∧ (ρ 3 ≠ 1) ∧ (¬ (0 ≥ ρ 21)) ∧ (¬ (ρ 22 ≠ 3)) ∧ (¬ (1 ≥ ρ 21)) ∧ (¬ (ρ 23 ≠ 3)) ∧ (2 ≥ ρ 21) := ⟨by omega, by omega, by omega, by omega, by omega, by omega, by omega, by omega, by omega⟩
  obtain ⟨-, -, m2, -, -, -, m6, -, -, -, -, -, -, -, -, m15, m16, -, -, m19, m20, m21, m22, m23, m24, -⟩ := hm
  have m2 : γ 0 71 0 (ρ 0) = ρ 3 := m2
  have m6 : γ 0 69 0 (ρ 0) = ρ 7 := m6
  have m15 : γ 1 15 0 77 = ρ 17 := m15
  have m16 : γ 1 15 0 90 = ρ 18 := m16
  have m19 : γ 1 107 0 (ρ 15) = ρ 20 := m19
  have m20 : γ 0 66 0 (ρ 7) = ρ 21 := m20
  have m21 : γ 0 70 0 (4 * ρ 0) = ρ 22 := m21
  have m22 : γ 0 70 0 (4 * ρ 0 + 1) = ρ 23 := m22
  have m23 : γ 1 105 0 (4 * ρ 15 + 2) = ρ 24 := m23
  have m24 : γ 1 105 0 (4 * ρ 15 + 3) = ρ 25 := m24
  obtain ⟨⟨⟨⟨⟨-, c2⟩, c3⟩, c4⟩, c5⟩, -⟩ := hc
  have c2 : γ 2 = rUp (γ 1) 102 0 0 (ρ 20) := c2
  have c3 : γ 3 = rUp (γ 2) 102 0 1 (ρ 20) := c3
  have c4 : γ 4 = rUp (γ 3) 102 0 2 (ρ 24) := c4
  have c5 : γ 5 = rUp (γ 4) 102 0 3 (ρ 25) := c5
  obtain ⟨l0, -⟩ := hl
  have l0 : sn57 [ρ 7, ρ 0, ρ 2, ρ 19, ρ 26, ρ 27, ρ 28, ρ 10, ρ 17] (γ 5) 0 0 (γ 6) := hS57 _ _ _ _ _ l0
  show jn75 [ρ 0, ρ 1, ρ 2, ρ 3, ρ 4, ρ 5, ρ 6, ρ 7, ρ 8, ρ 9, ρ 10, ρ 11, ρ 12, ρ 13, ρ 14] (γ 0) 0 [ρ 0, ρ 1, ρ 2, ρ 3, ρ 4, ρ 5, ρ 6, ρ 7, ρ 8, ρ 9, ρ 10, ρ 11, ρ 12, ρ 13, ρ 14, ρ 15 + 1, ρ 16, ρ 33, ρ 18, ρ 29] (γ 6)
  have hD : en75 (γ 0) (0, [ρ 0, ρ 15], γ 1) = .inl (0, [ρ 0, ρ 15 + 1], γ 6) := by
    unfold en75
    refine (if_pos (show (0 : Nat) = 0 by decide)).trans ?_
    refine (zLet_eq (show _ = γ 1 from rfl)).trans ?_
    refine (zLet_eq (show _ = ρ 0 from rfl)).trans ?_
    refine (zLet_eq (show _ = ρ 15 from rfl)).trans ?_
    refine (zLet_eq m2).trans ?_
    refine (zLet_eq m6).trans ?_
    refine (zLet_eq m15).trans ?_
    refine (zLet_eq m16).trans ?_
    refine (if_neg w_0).trans ?_
    refine (if_neg w_1).trans ?_
    refine (if_pos w_2).trans ?_
    refine (if_pos w_3).trans ?_
    refine (zLet_eq m19).trans ?_
    refine (zLet_eq m20).trans ?_
    refine (if_neg w_4).trans ?_
    refine (zLet_eq m21).trans ?_
    refine (if_neg w_5).trans ?_
    refine (zLet_eq c2.symm).trans ?_
    refine (if_neg w_6).trans ?_
    refine (zLet_eq m22).trans ?_
    refine (if_neg w_7).trans ?_
    refine (zLet_eq c3.symm).trans ?_
    refine (if_pos w_8).trans ?_
    refine (zLet_eq m23).trans ?_
    refine (zLet_eq c4.symm).trans ?_
    refine (zLet_eq m24).trans ?_
    refine (zLet_eq c5.symm).trans ?_
    refine (zLet_eq (show fn57 [ρ 7, ρ 0] (γ 5) = (0, 0, γ 6) from l0.symm)).trans ?_
    refine (zLet_eq (show _ = γ 6 from rfl)).trans ?_
    rfl
  exact zGoo_ato hJ hD
theorem vn75a0_27 {S : Nat → zSpc} (hS57 : ∀ x g o v gz, S 57 x g o v gz → sn57 x g o v gz) (hS73 : ∀ x g o v gz, S 73 x g o v gz → sn73 x g o v gz) {a : List Int} {g : rHp} : ∀ (ρ : Nat → Int) (γ : Nat → rHp), jn75 a g 0 (zAg (zNA a75_ 0) ρ) (γ 1) → zO 15 S a g q75a0_27 ρ γ → zGl (fun i vs g1 => jn75 a g i vs g1) (sn75 a g) q75a0_27 ρ γ := by
  intro ρ γ hJ h
  obtain ⟨ha, hg, hr, hf, hm, hc, hl⟩ := h
  have ha : a = [ρ 0, ρ 1, ρ 2, ρ 3, ρ 4, ρ 5, ρ 6, ρ 7, ρ 8, ρ 9, ρ 10, ρ 11, ρ 12, ρ 13, ρ 14] := ha
  subst ha
  subst hg
  have hJ : jn75 [ρ 0, ρ 1, ρ 2, ρ 3, ρ 4, ρ 5, ρ 6, ρ 7, ρ 8, ρ 9, ρ 10, ρ 11, ρ 12, ρ 13, ρ 14] (γ 0) 0 [ρ 0, ρ 1, ρ 2, ρ 3, ρ 4, ρ 5, ρ 6, ρ 7, ρ 8, ρ 9, ρ 10, ρ 11, ρ 12, ρ 13, ρ 14, ρ 15, ρ 16, ρ 17, ρ 18, ρ 19] (γ 1) := hJ
  obtain ⟨-, -, -, r3, -, -, -, -, -, -, -, -, -, -, -, -, -, r17, -, -, -, r21, r22, r23, r24, -⟩ := hr
  have r3 : (2 : Int) ≤ ρ 3 ∧ ρ 3 ≤ 2 := r3
  have r17 : (0 : Int) ≤ ρ 17 ∧ ρ 17 ≤ 0 := r17
  have r21 : (3 : Int) ≤ ρ 21 ∧ ρ 21 ≤ 3 := r21
  have r22 : (3 : Int) ≤ ρ 22 ∧ ρ 22 ≤ 3 := r22
  have r23 : (3 : Int) ≤ ρ 23 ∧ ρ 23 ≤ 3 := r23
  have r24 : (0 : Int) ≤ ρ 24 ∧ ρ 24 ≤ 2 := r24
  obtain ⟨-, -, -, f3, -⟩ := hf
  have f3 : (0 : Int) ≤ ρ 18 + -ρ 15 + (-1) := f3
  obtain ⟨w_0, w_1, w_2, w_3, w_4, w_5, w_6, w_7, w_8, w_9, w_10⟩ : (¬ (ρ 15 ≥ ρ 18)) ∧ (¬ (ρ 17 ≠ 0)) ∧ (ρ 3 ≤ 2) ∧ (ρ 3 ≠ 1) ∧ (¬ (0 ≥ ρ 21)) ∧ (¬ (ρ 22 ≠ 3)) ∧ (¬ (1 ≥ ρ 21)) ∧ (¬ (ρ 23 ≠ 3)) ∧ (¬ (2 ≥ ρ 21)) ∧ (ρ 24 ≠ 3) ∧ (3 ≥ ρ 21) := ⟨by omega, by omega, by omega, by omega, by omega, by omega, by omega, by omega, by omega, by omega, by omega⟩
  obtain ⟨-, -, m2, -, -, -, m6, -, -, -, -, -, -, -, -, m15, m16, -, -, m19, m20, m21, m22, m23, m24, m25, -⟩ := hm
  have m2 : γ 0 71 0 (ρ 0) = ρ 3 := m2
  have m6 : γ 0 69 0 (ρ 0) = ρ 7 := m6
  have m15 : γ 1 15 0 77 = ρ 17 := m15
  have m16 : γ 1 15 0 90 = ρ 18 := m16
  have m19 : γ 1 107 0 (ρ 15) = ρ 20 := m19
  have m20 : γ 0 66 0 (ρ 7) = ρ 21 := m20
  have m21 : γ 0 70 0 (4 * ρ 0) = ρ 22 := m21
  have m22 : γ 0 70 0 (4 * ρ 0 + 1) = ρ 23 := m22
  have m23 : γ 0 70 0 (4 * ρ 0 + 2) = ρ 24 := m23
  have m24 : γ 1 105 0 (4 * ρ 15 + 2) = ρ 25 := m24
  have m25 : γ 1 105 0 (4 * ρ 15 + 3) = ρ 26 := m25
  obtain ⟨⟨⟨⟨⟨-, c2⟩, c3⟩, c4⟩, c5⟩, -⟩ := hc
  have c2 : γ 2 = rUp (γ 1) 102 0 0 (ρ 20) := c2
  have c3 : γ 3 = rUp (γ 2) 102 0 1 (ρ 20) := c3
  have c4 : γ 4 = rUp (γ 3) 102 0 2 (ρ 25) := c4
  have c5 : γ 5 = rUp (γ 4) 102 0 3 (ρ 26) := c5
  obtain ⟨l0, -⟩ := hl
  have l0 : sn57 [ρ 7, ρ 0, ρ 2, ρ 19, ρ 27, ρ 28, ρ 29, ρ 10, ρ 17] (γ 5) 0 0 (γ 6) := hS57 _ _ _ _ _ l0
  show jn75 [ρ 0, ρ 1, ρ 2, ρ 3, ρ 4, ρ 5, ρ 6, ρ 7, ρ 8, ρ 9, ρ 10, ρ 11, ρ 12, ρ 13, ρ 14] (γ 0) 0 [ρ 0, ρ 1, ρ 2, ρ 3, ρ 4, ρ 5, ρ 6, ρ 7, ρ 8, ρ 9, ρ 10, ρ 11, ρ 12, ρ 13, ρ 14, ρ 15 + 1, ρ 16, ρ 34, ρ 18, ρ 30] (γ 6)
  have hD : en75 (γ 0) (0, [ρ 0, ρ 15], γ 1) = .inl (0, [ρ 0, ρ 15 + 1], γ 6) := by
    unfold en75
    refine (if_pos (show (0 : Nat) = 0 by decide)).trans ?_
    refine (zLet_eq (show _ = γ 1 from rfl)).trans ?_
    refine (zLet_eq (show _ = ρ 0 from rfl)).trans ?_
    refine (zLet_eq (show _ = ρ 15 from rfl)).trans ?_
    refine (zLet_eq m2).trans ?_
    refine (zLet_eq m6).trans ?_
    refine (zLet_eq m15).trans ?_
    refine (zLet_eq m16).trans ?_
    refine (if_neg w_0).trans ?_
    refine (if_neg w_1).trans ?_
    refine (if_pos w_2).trans ?_
    refine (if_pos w_3).trans ?_
    refine (zLet_eq m19).trans ?_
    refine (zLet_eq m20).trans ?_
    refine (if_neg w_4).trans ?_
    refine (zLet_eq m21).trans ?_
    refine (if_neg w_5).trans ?_
    refine (zLet_eq c2.symm).trans ?_
    refine (if_neg w_6).trans ?_
    refine (zLet_eq m22).trans ?_
    refine (if_neg w_7).trans ?_
    refine (zLet_eq c3.symm).trans ?_
    refine (if_neg w_8).trans ?_
    refine (zLet_eq m23).trans ?_
    refine (if_pos w_9).trans ?_
    refine (zLet_eq m24).trans ?_
    refine (zLet_eq c4.symm).trans ?_
    refine (if_pos w_10).trans ?_
    refine (zLet_eq m25).trans ?_
    refine (zLet_eq c5.symm).trans ?_
    refine (zLet_eq (show fn57 [ρ 7, ρ 0] (γ 5) = (0, 0, γ 6) from l0.symm)).trans ?_
    refine (zLet_eq (show _ = γ 6 from rfl)).trans ?_
    rfl
  exact zGoo_ato hJ hD
theorem vn75a0_28 {S : Nat → zSpc} (hS57 : ∀ x g o v gz, S 57 x g o v gz → sn57 x g o v gz) (hS73 : ∀ x g o v gz, S 73 x g o v gz → sn73 x g o v gz) {a : List Int} {g : rHp} : ∀ (ρ : Nat → Int) (γ : Nat → rHp), jn75 a g 0 (zAg (zNA a75_ 0) ρ) (γ 1) → zO 15 S a g q75a0_28 ρ γ → zGl (fun i vs g1 => jn75 a g i vs g1) (sn75 a g) q75a0_28 ρ γ := by
  intro ρ γ hJ h
  obtain ⟨ha, hg, hr, hf, hm, hc, hl⟩ := h
  have ha : a = [ρ 0, ρ 1, ρ 2, ρ 3, ρ 4, ρ 5, ρ 6, ρ 7, ρ 8, ρ 9, ρ 10, ρ 11, ρ 12, ρ 13, ρ 14] := ha
  subst ha
  subst hg
  have hJ : jn75 [ρ 0, ρ 1, ρ 2, ρ 3, ρ 4, ρ 5, ρ 6, ρ 7, ρ 8, ρ 9, ρ 10, ρ 11, ρ 12, ρ 13, ρ 14] (γ 0) 0 [ρ 0, ρ 1, ρ 2, ρ 3, ρ 4, ρ 5, ρ 6, ρ 7, ρ 8, ρ 9, ρ 10, ρ 11, ρ 12, ρ 13, ρ 14, ρ 15, ρ 16, ρ 17, ρ 18, ρ 19] (γ 1) := hJ
  obtain ⟨-, -, -, r3, -, -, -, -, -, -, -, -, -, -, -, -, -, r17, -, -, -, r21, r22, r23, r24, -, r26, -⟩ := hr
  have r3 : (2 : Int) ≤ ρ 3 ∧ ρ 3 ≤ 2 := r3
  have r17 : (0 : Int) ≤ ρ 17 ∧ ρ 17 ≤ 0 := r17
  have r21 : (4 : Int) ≤ ρ 21 ∧ ρ 21 ≤ 4 := r21
  have r22 : (3 : Int) ≤ ρ 22 ∧ ρ 22 ≤ 3 := r22
  have r23 : (3 : Int) ≤ ρ 23 ∧ ρ 23 ≤ 3 := r23
  have r24 : (0 : Int) ≤ ρ 24 ∧ ρ 24 ≤ 2 := r24
  have r26 : (0 : Int) ≤ ρ 26 ∧ ρ 26 ≤ 2 := r26
  obtain ⟨-, -, -, f3, -⟩ := hf
  have f3 : (0 : Int) ≤ ρ 18 + -ρ 15 + (-1) := f3
  obtain ⟨w_0, w_1, w_2, w_3, w_4, w_5, w_6, w_7, w_8, w_9, w_10, w_11⟩ : (¬ (ρ 15 ≥ ρ 18)) ∧ (¬ (ρ 17 ≠ 0)) ∧ (ρ 3 ≤ 2) ∧ (ρ 3 ≠ 1) ∧ (¬ (0 ≥ ρ 21)) ∧ (¬ (ρ 22 ≠ 3)) ∧ (¬ (1 ≥ ρ 21)) ∧ (¬ (ρ 23 ≠ 3)) ∧ (¬ (2 ≥ ρ 21)) ∧ (ρ 24 ≠ 3) ∧ (¬ (3 ≥ ρ 21)) ∧ (ρ 26 ≠ 3) := ⟨by omega, by omega, by omega, by omega, by omega, by omega, by omega, by omega, by omega, by omega, by omega, by omega⟩
  obtain ⟨-, -, m2, -, -, -, m6, -, -, -, -, -, -, -, -, m15, m16, -, -, m19, m20, m21, m22, m23, m24, m25, m26, -⟩ := hm
  have m2 : γ 0 71 0 (ρ 0) = ρ 3 := m2
  have m6 : γ 0 69 0 (ρ 0) = ρ 7 := m6
  have m15 : γ 1 15 0 77 = ρ 17 := m15
  have m16 : γ 1 15 0 90 = ρ 18 := m16
  have m19 : γ 1 107 0 (ρ 15) = ρ 20 := m19
  have m20 : γ 0 66 0 (ρ 7) = ρ 21 := m20
  have m21 : γ 0 70 0 (4 * ρ 0) = ρ 22 := m21
  have m22 : γ 0 70 0 (4 * ρ 0 + 1) = ρ 23 := m22
  have m23 : γ 0 70 0 (4 * ρ 0 + 2) = ρ 24 := m23
  have m24 : γ 1 105 0 (4 * ρ 15 + 2) = ρ 25 := m24
  have m25 : γ 0 70 0 (4 * ρ 0 + 3) = ρ 26 := m25
  have m26 : γ 1 105 0 (4 * ρ 15 + 3) = ρ 27 := m26
  obtain ⟨⟨⟨⟨⟨-, c2⟩, c3⟩, c4⟩, c5⟩, -⟩ := hc
  have c2 : γ 2 = rUp (γ 1) 102 0 0 (ρ 20) := c2
  have c3 : γ 3 = rUp (γ 2) 102 0 1 (ρ 20) := c3
  have c4 : γ 4 = rUp (γ 3) 102 0 2 (ρ 25) := c4
  have c5 : γ 5 = rUp (γ 4) 102 0 3 (ρ 27) := c5
  obtain ⟨l0, -⟩ := hl
  have l0 : sn57 [ρ 7, ρ 0, ρ 2, ρ 19, ρ 28, ρ 29, ρ 30, ρ 10, ρ 17] (γ 5) 0 0 (γ 6) := hS57 _ _ _ _ _ l0
  show jn75 [ρ 0, ρ 1, ρ 2, ρ 3, ρ 4, ρ 5, ρ 6, ρ 7, ρ 8, ρ 9, ρ 10, ρ 11, ρ 12, ρ 13, ρ 14] (γ 0) 0 [ρ 0, ρ 1, ρ 2, ρ 3, ρ 4, ρ 5, ρ 6, ρ 7, ρ 8, ρ 9, ρ 10, ρ 11, ρ 12, ρ 13, ρ 14, ρ 15 + 1, ρ 16, ρ 35, ρ 18, ρ 31] (γ 6)
  have hD : en75 (γ 0) (0, [ρ 0, ρ 15], γ 1) = .inl (0, [ρ 0, ρ 15 + 1], γ 6) := by
    unfold en75
    refine (if_pos (show (0 : Nat) = 0 by decide)).trans ?_
    refine (zLet_eq (show _ = γ 1 from rfl)).trans ?_
    refine (zLet_eq (show _ = ρ 0 from rfl)).trans ?_
    refine (zLet_eq (show _ = ρ 15 from rfl)).trans ?_
    refine (zLet_eq m2).trans ?_
    refine (zLet_eq m6).trans ?_
    refine (zLet_eq m15).trans ?_
    refine (zLet_eq m16).trans ?_
    refine (if_neg w_0).trans ?_
    refine (if_neg w_1).trans ?_
    refine (if_pos w_2).trans ?_
    refine (if_pos w_3).trans ?_
    refine (zLet_eq m19).trans ?_
    refine (zLet_eq m20).trans ?_
    refine (if_neg w_4).trans ?_
    refine (zLet_eq m21).trans ?_
    refine (if_neg w_5).trans ?_
    refine (zLet_eq c2.symm).trans ?_
    refine (if_neg w_6).trans ?_
    refine (zLet_eq m22).trans ?_
    refine (if_neg w_7).trans ?_
    refine (zLet_eq c3.symm).trans ?_
    refine (if_neg w_8).trans ?_
    refine (zLet_eq m23).trans ?_
    refine (if_pos w_9).trans ?_
    refine (zLet_eq m24).trans ?_
    refine (zLet_eq c4.symm).trans ?_
    refine (if_neg w_10).trans ?_
    refine (zLet_eq m25).trans ?_
    refine (if_pos w_11).trans ?_
    refine (zLet_eq m26).trans ?_
    refine (zLet_eq c5.symm).trans ?_
    refine (zLet_eq (show fn57 [ρ 7, ρ 0] (γ 5) = (0, 0, γ 6) from l0.symm)).trans ?_
    refine (zLet_eq (show _ = γ 6 from rfl)).trans ?_
    rfl
  exact zGoo_ato hJ hD
theorem vn75a0_29 {S : Nat → zSpc} (hS57 : ∀ x g o v gz, S 57 x g o v gz → sn57 x g o v gz) (hS73 : ∀ x g o v gz, S 73 x g o v gz → sn73 x g o v gz) {a : List Int} {g : rHp} : ∀ (ρ : Nat → Int) (γ : Nat → rHp), jn75 a g 0 (zAg (zNA a75_ 0) ρ) (γ 1) → zO 15 S a g q75a0_29 ρ γ → zGl (fun i vs g1 => jn75 a g i vs g1) (sn75 a g) q75a0_29 ρ γ := by
  intro ρ γ hJ h
  obtain ⟨ha, hg, hr, hf, hm, hc, hl⟩ := h
  have ha : a = [ρ 0, ρ 1, ρ 2, ρ 3, ρ 4, ρ 5, ρ 6, ρ 7, ρ 8, ρ 9, ρ 10, ρ 11, ρ 12, ρ 13, ρ 14] := ha
  subst ha
  subst hg
  have hJ : jn75 [ρ 0, ρ 1, ρ 2, ρ 3, ρ 4, ρ 5, ρ 6, ρ 7, ρ 8, ρ 9, ρ 10, ρ 11, ρ 12, ρ 13, ρ 14] (γ 0) 0 [ρ 0, ρ 1, ρ 2, ρ 3, ρ 4, ρ 5, ρ 6, ρ 7, ρ 8, ρ 9, ρ 10, ρ 11, ρ 12, ρ 13, ρ 14, ρ 15, ρ 16, ρ 17, ρ 18, ρ 19] (γ 1) := hJ
  obtain ⟨-, -, -, r3, -, -, -, -, -, -, -, -, -, -, -, -, -, r17, -, -, -, r21, r22, r23, r24, -, r26, -⟩ := hr
  have r3 : (2 : Int) ≤ ρ 3 ∧ ρ 3 ≤ 2 := r3
  have r17 : (0 : Int) ≤ ρ 17 ∧ ρ 17 ≤ 0 := r17
  have r21 : (4 : Int) ≤ ρ 21 ∧ ρ 21 ≤ 4 := r21
  have r22 : (3 : Int) ≤ ρ 22 ∧ ρ 22 ≤ 3 := r22
  have r23 : (3 : Int) ≤ ρ 23 ∧ ρ 23 ≤ 3 := r23
  have r24 : (0 : Int) ≤ ρ 24 ∧ ρ 24 ≤ 2 := r24
  have r26 : (3 : Int) ≤ ρ 26 ∧ ρ 26 ≤ 3 := r26
  obtain ⟨-, -, -, f3, -⟩ := hf
  have f3 : (0 : Int) ≤ ρ 18 + -ρ 15 + (-1) := f3
  obtain ⟨w_0, w_1, w_2, w_3, w_4, w_5, w_6, w_7, w_8, w_9, w_10, w_11⟩ : (¬ (ρ 15 ≥ ρ 18)) ∧ (¬ (ρ 17 ≠ 0)) ∧ (ρ 3 ≤ 2) ∧ (ρ 3 ≠ 1) ∧ (¬ (0 ≥ ρ 21)) ∧ (¬ (ρ 22 ≠ 3)) ∧ (¬ (1 ≥ ρ 21)) ∧ (¬ (ρ 23 ≠ 3)) ∧ (¬ (2 ≥ ρ 21)) ∧ (ρ 24 ≠ 3) ∧ (¬ (3 ≥ ρ 21)) ∧ (¬ (ρ 26 ≠ 3)) := ⟨by omega, by omega, by omega, by omega, by omega, by omega, by omega, by omega, by omega, by omega, by omega, by omega⟩
  obtain ⟨-, -, m2, -, -, -, m6, -, -, -, -, -, -, -, -, m15, m16, -, -, m19, m20, m21, m22, m23, m24, m25, -⟩ := hm
  have m2 : γ 0 71 0 (ρ 0) = ρ 3 := m2
  have m6 : γ 0 69 0 (ρ 0) = ρ 7 := m6
  have m15 : γ 1 15 0 77 = ρ 17 := m15
  have m16 : γ 1 15 0 90 = ρ 18 := m16
  have m19 : γ 1 107 0 (ρ 15) = ρ 20 := m19
  have m20 : γ 0 66 0 (ρ 7) = ρ 21 := m20
  have m21 : γ 0 70 0 (4 * ρ 0) = ρ 22 := m21
  have m22 : γ 0 70 0 (4 * ρ 0 + 1) = ρ 23 := m22
  have m23 : γ 0 70 0 (4 * ρ 0 + 2) = ρ 24 := m23
  have m24 : γ 1 105 0 (4 * ρ 15 + 2) = ρ 25 := m24
  have m25 : γ 0 70 0 (4 * ρ 0 + 3) = ρ 26 := m25
  obtain ⟨⟨⟨⟨⟨-, c2⟩, c3⟩, c4⟩, c5⟩, -⟩ := hc
  have c2 : γ 2 = rUp (γ 1) 102 0 0 (ρ 20) := c2
  have c3 : γ 3 = rUp (γ 2) 102 0 1 (ρ 20) := c3
  have c4 : γ 4 = rUp (γ 3) 102 0 2 (ρ 25) := c4
  have c5 : γ 5 = rUp (γ 4) 102 0 3 (ρ 20) := c5
  obtain ⟨l0, -⟩ := hl
  have l0 : sn57 [ρ 7, ρ 0, ρ 2, ρ 19, ρ 27, ρ 28, ρ 29, ρ 10, ρ 17] (γ 5) 0 0 (γ 6) := hS57 _ _ _ _ _ l0
  show jn75 [ρ 0, ρ 1, ρ 2, ρ 3, ρ 4, ρ 5, ρ 6, ρ 7, ρ 8, ρ 9, ρ 10, ρ 11, ρ 12, ρ 13, ρ 14] (γ 0) 0 [ρ 0, ρ 1, ρ 2, ρ 3, ρ 4, ρ 5, ρ 6, ρ 7, ρ 8, ρ 9, ρ 10, ρ 11, ρ 12, ρ 13, ρ 14, ρ 15 + 1, ρ 16, ρ 34, ρ 18, ρ 30] (γ 6)
  have hD : en75 (γ 0) (0, [ρ 0, ρ 15], γ 1) = .inl (0, [ρ 0, ρ 15 + 1], γ 6) := by
    unfold en75
    refine (if_pos (show (0 : Nat) = 0 by decide)).trans ?_
    refine (zLet_eq (show _ = γ 1 from rfl)).trans ?_
    refine (zLet_eq (show _ = ρ 0 from rfl)).trans ?_
    refine (zLet_eq (show _ = ρ 15 from rfl)).trans ?_
    refine (zLet_eq m2).trans ?_
    refine (zLet_eq m6).trans ?_
    refine (zLet_eq m15).trans ?_
    refine (zLet_eq m16).trans ?_
    refine (if_neg w_0).trans ?_
    refine (if_neg w_1).trans ?_
    refine (if_pos w_2).trans ?_
    refine (if_pos w_3).trans ?_
    refine (zLet_eq m19).trans ?_
    refine (zLet_eq m20).trans ?_
    refine (if_neg w_4).trans ?_
    refine (zLet_eq m21).trans ?_
    refine (if_neg w_5).trans ?_
    refine (zLet_eq c2.symm).trans ?_
    refine (if_neg w_6).trans ?_
    refine (zLet_eq m22).trans ?_
    refine (if_neg w_7).trans ?_
    refine (zLet_eq c3.symm).trans ?_
    refine (if_neg w_8).trans ?_
    refine (zLet_eq m23).trans ?_
    refine (if_pos w_9).trans ?_
    refine (zLet_eq m24).trans ?_
    refine (zLet_eq c4.symm).trans ?_
    refine (if_neg w_10).trans ?_
    refine (zLet_eq m25).trans ?_
    refine (if_neg w_11).trans ?_
    refine (zLet_eq c5.symm).trans ?_
    refine (zLet_eq (show fn57 [ρ 7, ρ 0] (γ 5) = (0, 0, γ 6) from l0.symm)).trans ?_
    refine (zLet_eq (show _ = γ 6 from rfl)).trans ?_
    rfl
  exact zGoo_ato hJ hD
theorem vn75a0_30 {S : Nat → zSpc} (hS57 : ∀ x g o v gz, S 57 x g o v gz → sn57 x g o v gz) (hS73 : ∀ x g o v gz, S 73 x g o v gz → sn73 x g o v gz) {a : List Int} {g : rHp} : ∀ (ρ : Nat → Int) (γ : Nat → rHp), jn75 a g 0 (zAg (zNA a75_ 0) ρ) (γ 1) → zO 15 S a g q75a0_30 ρ γ → zGl (fun i vs g1 => jn75 a g i vs g1) (sn75 a g) q75a0_30 ρ γ := by
  intro ρ γ hJ h
  obtain ⟨ha, hg, hr, hf, hm, hc, hl⟩ := h
  have ha : a = [ρ 0, ρ 1, ρ 2, ρ 3, ρ 4, ρ 5, ρ 6, ρ 7, ρ 8, ρ 9, ρ 10, ρ 11, ρ 12, ρ 13, ρ 14] := ha
  subst ha
  subst hg
  have hJ : jn75 [ρ 0, ρ 1, ρ 2, ρ 3, ρ 4, ρ 5, ρ 6, ρ 7, ρ 8, ρ 9, ρ 10, ρ 11, ρ 12, ρ 13, ρ 14] (γ 0) 0 [ρ 0, ρ 1, ρ 2, ρ 3, ρ 4, ρ 5, ρ 6, ρ 7, ρ 8, ρ 9, ρ 10, ρ 11, ρ 12, ρ 13, ρ 14, ρ 15, ρ 16, ρ 17, ρ 18, ρ 19] (γ 1) := hJ
  obtain ⟨-, -, -, r3, -, -, -, -, -, -, -, -, -, -, -, -, -, r17, -, -, -, r21, r22, r23, r24, -⟩ := hr
  have r3 : (2 : Int) ≤ ρ 3 ∧ ρ 3 ≤ 2 := r3
  have r17 : (0 : Int) ≤ ρ 17 ∧ ρ 17 ≤ 0 := r17
  have r21 : (3 : Int) ≤ ρ 21 ∧ ρ 21 ≤ 3 := r21
  have r22 : (3 : Int) ≤ ρ 22 ∧ ρ 22 ≤ 3 := r22
  have r23 : (3 : Int) ≤ ρ 23 ∧ ρ 23 ≤ 3 := r23
  have r24 : (3 : Int) ≤ ρ 24 ∧ ρ 24 ≤ 3 := r24
  obtain ⟨-, -, -, f3, -⟩ := hf
  have f3 : (0 : Int) ≤ ρ 18 + -ρ 15 + (-1) := f3
  obtain ⟨w_0, w_1, w_2, w_3, w_4, w_5, w_6, w_7, w_8, w_9, w_10⟩ : (¬ (ρ 15 ≥ ρ 18)) ∧ (¬ (ρ 17 ≠ 0)) ∧ (ρ 3 ≤ 2) ∧ (ρ 3 ≠ 1) ∧ (¬ (0 ≥ ρ 21)) ∧ (¬ (ρ 22 ≠ 3)) ∧ (¬ (1 ≥ ρ 21)) ∧ (¬ (ρ 23 ≠ 3)) ∧ (¬ (2 ≥ ρ 21)) ∧ (¬ (ρ 24 ≠ 3)) ∧ (3 ≥ ρ 21) := ⟨by omega, by omega, by omega, by omega, by omega, by omega, by omega, by omega, by omega, by omega, by omega⟩
  obtain ⟨-, -, m2, -, -, -, m6, -, -, -, -, -, -, -, -, m15, m16, -, -, m19, m20, m21, m22, m23, m24, -⟩ := hm
  have m2 : γ 0 71 0 (ρ 0) = ρ 3 := m2
  have m6 : γ 0 69 0 (ρ 0) = ρ 7 := m6
  have m15 : γ 1 15 0 77 = ρ 17 := m15
  have m16 : γ 1 15 0 90 = ρ 18 := m16
  have m19 : γ 1 107 0 (ρ 15) = ρ 20 := m19
  have m20 : γ 0 66 0 (ρ 7) = ρ 21 := m20
  have m21 : γ 0 70 0 (4 * ρ 0) = ρ 22 := m21
  have m22 : γ 0 70 0 (4 * ρ 0 + 1) = ρ 23 := m22
  have m23 : γ 0 70 0 (4 * ρ 0 + 2) = ρ 24 := m23
  have m24 : γ 1 105 0 (4 * ρ 15 + 3) = ρ 25 := m24
  obtain ⟨⟨⟨⟨⟨-, c2⟩, c3⟩, c4⟩, c5⟩, -⟩ := hc
  have c2 : γ 2 = rUp (γ 1) 102 0 0 (ρ 20) := c2
  have c3 : γ 3 = rUp (γ 2) 102 0 1 (ρ 20) := c3
  have c4 : γ 4 = rUp (γ 3) 102 0 2 (ρ 20) := c4
  have c5 : γ 5 = rUp (γ 4) 102 0 3 (ρ 25) := c5
  obtain ⟨l0, -⟩ := hl
  have l0 : sn57 [ρ 7, ρ 0, ρ 2, ρ 19, ρ 26, ρ 27, ρ 28, ρ 10, ρ 17] (γ 5) 0 0 (γ 6) := hS57 _ _ _ _ _ l0
  show jn75 [ρ 0, ρ 1, ρ 2, ρ 3, ρ 4, ρ 5, ρ 6, ρ 7, ρ 8, ρ 9, ρ 10, ρ 11, ρ 12, ρ 13, ρ 14] (γ 0) 0 [ρ 0, ρ 1, ρ 2, ρ 3, ρ 4, ρ 5, ρ 6, ρ 7, ρ 8, ρ 9, ρ 10, ρ 11, ρ 12, ρ 13, ρ 14, ρ 15 + 1, ρ 16, ρ 33, ρ 18, ρ 29] (γ 6)
  have hD : en75 (γ 0) (0, [ρ 0, ρ 15], γ 1) = .inl (0, [ρ 0, ρ 15 + 1], γ 6) := by
    unfold en75
    refine (if_pos (show (0 : Nat) = 0 by decide)).trans ?_
    refine (zLet_eq (show _ = γ 1 from rfl)).trans ?_
    refine (zLet_eq (show _ = ρ 0 from rfl)).trans ?_
    refine (zLet_eq (show _ = ρ 15 from rfl)).trans ?_
    refine (zLet_eq m2).trans ?_
    refine (zLet_eq m6).trans ?_
    refine (zLet_eq m15).trans ?_
    refine (zLet_eq m16).trans ?_
    refine (if_neg w_0).trans ?_
    refine (if_neg w_1).trans ?_
    refine (if_pos w_2).trans ?_
    refine (if_pos w_3).trans ?_
    refine (zLet_eq m19).trans ?_
    refine (zLet_eq m20).trans ?_
    refine (if_neg w_4).trans ?_
    refine (zLet_eq m21).trans ?_
    refine (if_neg w_5).trans ?_
    refine (zLet_eq c2.symm).trans ?_
    refine (if_neg w_6).trans ?_
    refine (zLet_eq m22).trans ?_
    refine (if_neg w_7).trans ?_
    refine (zLet_eq c3.symm).trans ?_
    refine (if_neg w_8).trans ?_
    refine (zLet_eq m23).trans ?_
    refine (if_neg w_9).trans ?_
    refine (zLet_eq c4.symm).trans ?_
    refine (if_pos w_10).trans ?_
    refine (zLet_eq m24).trans ?_
    refine (zLet_eq c5.symm).trans ?_
    refine (zLet_eq (show fn57 [ρ 7, ρ 0] (γ 5) = (0, 0, γ 6) from l0.symm)).trans ?_
    refine (zLet_eq (show _ = γ 6 from rfl)).trans ?_
    rfl
  exact zGoo_ato hJ hD
theorem vn75a0_31 {S : Nat → zSpc} (hS57 : ∀ x g o v gz, S 57 x g o v gz → sn57 x g o v gz) (hS73 : ∀ x g o v gz, S 73 x g o v gz → sn73 x g o v gz) {a : List Int} {g : rHp} : ∀ (ρ : Nat → Int) (γ : Nat → rHp), jn75 a g 0 (zAg (zNA a75_ 0) ρ) (γ 1) → zO 15 S a g q75a0_31 ρ γ → zGl (fun i vs g1 => jn75 a g i vs g1) (sn75 a g) q75a0_31 ρ γ := by
  intro ρ γ hJ h
  obtain ⟨ha, hg, hr, hf, hm, hc, hl⟩ := h
  have ha : a = [ρ 0, ρ 1, ρ 2, ρ 3, ρ 4, ρ 5, ρ 6, ρ 7, ρ 8, ρ 9, ρ 10, ρ 11, ρ 12, ρ 13, ρ 14] := ha
  subst ha
  subst hg
  have hJ : jn75 [ρ 0, ρ 1, ρ 2, ρ 3, ρ 4, ρ 5, ρ 6, ρ 7, ρ 8, ρ 9, ρ 10, ρ 11, ρ 12, ρ 13, ρ 14] (γ 0) 0 [ρ 0, ρ 1, ρ 2, ρ 3, ρ 4, ρ 5, ρ 6, ρ 7, ρ 8, ρ 9, ρ 10, ρ 11, ρ 12, ρ 13, ρ 14, ρ 15, ρ 16, ρ 17, ρ 18, ρ 19] (γ 1) := hJ
  obtain ⟨-, -, -, r3, -, -, -, -, -, -, -, -, -, -, -, -, -, r17, -, -, -, r21, r22, r23, r24, r25, -⟩ := hr
  have r3 : (2 : Int) ≤ ρ 3 ∧ ρ 3 ≤ 2 := r3
  have r17 : (0 : Int) ≤ ρ 17 ∧ ρ 17 ≤ 0 := r17
  have r21 : (4 : Int) ≤ ρ 21 ∧ ρ 21 ≤ 4 := r21
  have r22 : (3 : Int) ≤ ρ 22 ∧ ρ 22 ≤ 3 := r22
  have r23 : (3 : Int) ≤ ρ 23 ∧ ρ 23 ≤ 3 := r23
  have r24 : (3 : Int) ≤ ρ 24 ∧ ρ 24 ≤ 3 := r24
  have r25 : (0 : Int) ≤ ρ 25 ∧ ρ 25 ≤ 2 := r25
  obtain ⟨-, -, -, f3, -⟩ := hf
  have f3 : (0 : Int) ≤ ρ 18 + -ρ 15 + (-1) := f3
  obtain ⟨w_0, w_1, w_2, w_3, w_4, w_5, w_6, w_7, w_8, w_9, w_10, w_11⟩ : (¬ (ρ 15 ≥ ρ 18)) ∧ (¬ (ρ 17 ≠ 0)) ∧ (ρ 3 ≤ 2) ∧ (ρ 3 ≠ 1) ∧ (¬ (0 ≥ ρ 21)) ∧ (¬ (ρ 22 ≠ 3)) ∧ (¬ (1 ≥ ρ 21)) ∧ (¬ (ρ 23 ≠ 3)) ∧ (¬ (2 ≥ ρ 21)) ∧ (¬ (ρ 24 ≠ 3)) ∧ (¬ (3 ≥ ρ 21)) ∧ (ρ 25 ≠ 3) := ⟨by omega, by omega, by omega, by omega, by omega, by omega, by omega, by omega, by omega, by omega, by omega, by omega⟩
  obtain ⟨-, -, m2, -, -, -, m6, -, -, -, -, -, -, -, -, m15, m16, -, -, m19, m20, m21, m22, m23, m24, m25, -⟩ := hm
  have m2 : γ 0 71 0 (ρ 0) = ρ 3 := m2
  have m6 : γ 0 69 0 (ρ 0) = ρ 7 := m6
  have m15 : γ 1 15 0 77 = ρ 17 := m15
  have m16 : γ 1 15 0 90 = ρ 18 := m16
  have m19 : γ 1 107 0 (ρ 15) = ρ 20 := m19
  have m20 : γ 0 66 0 (ρ 7) = ρ 21 := m20
  have m21 : γ 0 70 0 (4 * ρ 0) = ρ 22 := m21
  have m22 : γ 0 70 0 (4 * ρ 0 + 1) = ρ 23 := m22
  have m23 : γ 0 70 0 (4 * ρ 0 + 2) = ρ 24 := m23
  have m24 : γ 0 70 0 (4 * ρ 0 + 3) = ρ 25 := m24
  have m25 : γ 1 105 0 (4 * ρ 15 + 3) = ρ 26 := m25
  obtain ⟨⟨⟨⟨⟨-, c2⟩, c3⟩, c4⟩, c5⟩, -⟩ := hc
  have c2 : γ 2 = rUp (γ 1) 102 0 0 (ρ 20) := c2
  have c3 : γ 3 = rUp (γ 2) 102 0 1 (ρ 20) := c3
  have c4 : γ 4 = rUp (γ 3) 102 0 2 (ρ 20) := c4
  have c5 : γ 5 = rUp (γ 4) 102 0 3 (ρ 26) := c5
  obtain ⟨l0, -⟩ := hl
  have l0 : sn57 [ρ 7, ρ 0, ρ 2, ρ 19, ρ 27, ρ 28, ρ 29, ρ 10, ρ 17] (γ 5) 0 0 (γ 6) := hS57 _ _ _ _ _ l0
  show jn75 [ρ 0, ρ 1, ρ 2, ρ 3, ρ 4, ρ 5, ρ 6, ρ 7, ρ 8, ρ 9, ρ 10, ρ 11, ρ 12, ρ 13, ρ 14] (γ 0) 0 [ρ 0, ρ 1, ρ 2, ρ 3, ρ 4, ρ 5, ρ 6, ρ 7, ρ 8, ρ 9, ρ 10, ρ 11, ρ 12, ρ 13, ρ 14, ρ 15 + 1, ρ 16, ρ 34, ρ 18, ρ 30] (γ 6)
  have hD : en75 (γ 0) (0, [ρ 0, ρ 15], γ 1) = .inl (0, [ρ 0, ρ 15 + 1], γ 6) := by
    unfold en75
    refine (if_pos (show (0 : Nat) = 0 by decide)).trans ?_
    refine (zLet_eq (show _ = γ 1 from rfl)).trans ?_
    refine (zLet_eq (show _ = ρ 0 from rfl)).trans ?_
    refine (zLet_eq (show _ = ρ 15 from rfl)).trans ?_
    refine (zLet_eq m2).trans ?_
    refine (zLet_eq m6).trans ?_
    refine (zLet_eq m15).trans ?_
    refine (zLet_eq m16).trans ?_
    refine (if_neg w_0).trans ?_
    refine (if_neg w_1).trans ?_
    refine (if_pos w_2).trans ?_
    refine (if_pos w_3).trans ?_
    refine (zLet_eq m19).trans ?_
    refine (zLet_eq m20).trans ?_
    refine (if_neg w_4).trans ?_
    refine (zLet_eq m21).trans ?_
    refine (if_neg w_5).trans ?_
    refine (zLet_eq c2.symm).trans ?_
    refine (if_neg w_6).trans ?_
    refine (zLet_eq m22).trans ?_
    refine (if_neg w_7).trans ?_
    refine (zLet_eq c3.symm).trans ?_
    refine (if_neg w_8).trans ?_
    refine (zLet_eq m23).trans ?_
    refine (if_neg w_9).trans ?_
    refine (zLet_eq c4.symm).trans ?_
    refine (if_neg w_10).trans ?_
    refine (zLet_eq m24).trans ?_
    refine (if_pos w_11).trans ?_
    refine (zLet_eq m25).trans ?_
    refine (zLet_eq c5.symm).trans ?_
    refine (zLet_eq (show fn57 [ρ 7, ρ 0] (γ 5) = (0, 0, γ 6) from l0.symm)).trans ?_
    refine (zLet_eq (show _ = γ 6 from rfl)).trans ?_
    rfl
  exact zGoo_ato hJ hD
theorem vn75a0_32 {S : Nat → zSpc} (hS57 : ∀ x g o v gz, S 57 x g o v gz → sn57 x g o v gz) (hS73 : ∀ x g o v gz, S 73 x g o v gz → sn73 x g o v gz) {a : List Int} {g : rHp} : ∀ (ρ : Nat → Int) (γ : Nat → rHp), jn75 a g 0 (zAg (zNA a75_ 0) ρ) (γ 1) → zO 15 S a g q75a0_32 ρ γ → zGl (fun i vs g1 => jn75 a g i vs g1) (sn75 a g) q75a0_32 ρ γ := by
  intro ρ γ hJ h
  obtain ⟨ha, hg, hr, hf, hm, hc, hl⟩ := h
  have ha : a = [ρ 0, ρ 1, ρ 2, ρ 3, ρ 4, ρ 5, ρ 6, ρ 7, ρ 8, ρ 9, ρ 10, ρ 11, ρ 12, ρ 13, ρ 14] := ha
  subst ha
  subst hg
  have hJ : jn75 [ρ 0, ρ 1, ρ 2, ρ 3, ρ 4, ρ 5, ρ 6, ρ 7, ρ 8, ρ 9, ρ 10, ρ 11, ρ 12, ρ 13, ρ 14] (γ 0) 0 [ρ 0, ρ 1, ρ 2, ρ 3, ρ 4, ρ 5, ρ 6, ρ 7, ρ 8, ρ 9, ρ 10, ρ 11, ρ 12, ρ 13, ρ 14, ρ 15, ρ 16, ρ 17, ρ 18, ρ 19] (γ 1) := hJ
  obtain ⟨-, -, -, r3, -, -, -, -, -, -, -, -, -, -, -, -, -, r17, -, -, -, r21, r22, r23, r24, r25, -⟩ := hr
  have r3 : (2 : Int) ≤ ρ 3 ∧ ρ 3 ≤ 2 := r3
  have r17 : (0 : Int) ≤ ρ 17 ∧ ρ 17 ≤ 0 := r17
  have r21 : (4 : Int) ≤ ρ 21 ∧ ρ 21 ≤ 4 := r21
  have r22 : (3 : Int) ≤ ρ 22 ∧ ρ 22 ≤ 3 := r22
  have r23 : (3 : Int) ≤ ρ 23 ∧ ρ 23 ≤ 3 := r23
  have r24 : (3 : Int) ≤ ρ 24 ∧ ρ 24 ≤ 3 := r24
  have r25 : (3 : Int) ≤ ρ 25 ∧ ρ 25 ≤ 3 := r25
  obtain ⟨-, -, -, f3, -⟩ := hf
  have f3 : (0 : Int) ≤ ρ 18 + -ρ 15 + (-1) := f3
  obtain ⟨w_0, w_1, w_2, w_3, w_4, w_5, w_6, w_7, w_8, w_9, w_10, w_11⟩ : (¬ (ρ 15 ≥ ρ 18)) ∧ (¬ (ρ 17 ≠ 0)) ∧ (ρ 3 ≤ 2) ∧ (ρ 3 ≠ 1) ∧ (¬ (0 ≥ ρ 21)) ∧ (¬ (ρ 22 ≠ 3)) ∧ (¬ (1 ≥ ρ 21)) ∧ (¬ (ρ 23 ≠ 3)) ∧ (¬ (2 ≥ ρ 21)) ∧ (¬ (ρ 24 ≠ 3)) ∧ (¬ (3 ≥ ρ 21)) ∧ (¬ (ρ 25 ≠ 3)) := ⟨by omega, by omega, by omega, by omega, by omega, by omega, by omega, by omega, by omega, by omega, by omega, by omega⟩
  obtain ⟨-, -, m2, -, -, -, m6, -, -, -, -, -, -, -, -, m15, m16, -, -, m19, m20, m21, m22, m23, m24, -⟩ := hm
  have m2 : γ 0 71 0 (ρ 0) = ρ 3 := m2
  have m6 : γ 0 69 0 (ρ 0) = ρ 7 := m6
  have m15 : γ 1 15 0 77 = ρ 17 := m15
  have m16 : γ 1 15 0 90 = ρ 18 := m16
  have m19 : γ 1 107 0 (ρ 15) = ρ 20 := m19
  have m20 : γ 0 66 0 (ρ 7) = ρ 21 := m20
  have m21 : γ 0 70 0 (4 * ρ 0) = ρ 22 := m21
  have m22 : γ 0 70 0 (4 * ρ 0 + 1) = ρ 23 := m22
  have m23 : γ 0 70 0 (4 * ρ 0 + 2) = ρ 24 := m23
  have m24 : γ 0 70 0 (4 * ρ 0 + 3) = ρ 25 := m24
  obtain ⟨⟨⟨⟨⟨-, c2⟩, c3⟩, c4⟩, c5⟩, -⟩ := hc
  have c2 : γ 2 = rUp (γ 1) 102 0 0 (ρ 20) := c2
  have c3 : γ 3 = rUp (γ 2) 102 0 1 (ρ 20) := c3
  have c4 : γ 4 = rUp (γ 3) 102 0 2 (ρ 20) := c4
  have c5 : γ 5 = rUp (γ 4) 102 0 3 (ρ 20) := c5
  obtain ⟨l0, -⟩ := hl
  have l0 : sn57 [ρ 7, ρ 0, ρ 2, ρ 19, ρ 26, ρ 27, ρ 28, ρ 10, ρ 17] (γ 5) 0 0 (γ 6) := hS57 _ _ _ _ _ l0
  show jn75 [ρ 0, ρ 1, ρ 2, ρ 3, ρ 4, ρ 5, ρ 6, ρ 7, ρ 8, ρ 9, ρ 10, ρ 11, ρ 12, ρ 13, ρ 14] (γ 0) 0 [ρ 0, ρ 1, ρ 2, ρ 3, ρ 4, ρ 5, ρ 6, ρ 7, ρ 8, ρ 9, ρ 10, ρ 11, ρ 12, ρ 13, ρ 14, ρ 15 + 1, ρ 16, ρ 33, ρ 18, ρ 29] (γ 6)
  have hD : en75 (γ 0) (0, [ρ 0, ρ 15], γ 1) = .inl (0, [ρ 0, ρ 15 + 1], γ 6) := by
    unfold en75
    refine (if_pos (show (0 : Nat) = 0 by decide)).trans ?_
    refine (zLet_eq (show _ = γ 1 from rfl)).trans ?_
    refine (zLet_eq (show _ = ρ 0 from rfl)).trans ?_
    refine (zLet_eq (show _ = ρ 15 from rfl)).trans ?_
    refine (zLet_eq m2).trans ?_
    refine (zLet_eq m6).trans ?_
    refine (zLet_eq m15).trans ?_
    refine (zLet_eq m16).trans ?_
    refine (if_neg w_0).trans ?_
    refine (if_neg w_1).trans ?_
    refine (if_pos w_2).trans ?_
    refine (if_pos w_3).trans ?_
    refine (zLet_eq m19).trans ?_
    refine (zLet_eq m20).trans ?_
    refine (if_neg w_4).trans ?_
    refine (zLet_eq m21).trans ?_
    refine (if_neg w_5).trans ?_
    refine (zLet_eq c2.symm).trans ?_
    refine (if_neg w_6).trans ?_
    refine (zLet_eq m22).trans ?_
    refine (if_neg w_7).trans ?_
    refine (zLet_eq c3.symm).trans ?_
    refine (if_neg w_8).trans ?_
    refine (zLet_eq m23).trans ?_
    refine (if_neg w_9).trans ?_
    refine (zLet_eq c4.symm).trans ?_
    refine (if_neg w_10).trans ?_
    refine (zLet_eq m24).trans ?_
    refine (if_neg w_11).trans ?_
    refine (zLet_eq c5.symm).trans ?_
    refine (zLet_eq (show fn57 [ρ 7, ρ 0] (γ 5) = (0, 0, γ 6) from l0.symm)).trans ?_
    refine (zLet_eq (show _ = γ 6 from rfl)).trans ?_
    rfl
  exact zGoo_ato hJ hD
theorem vn75a0_33 {S : Nat → zSpc} (hS57 : ∀ x g o v gz, S 57 x g o v gz → sn57 x g o v gz) (hS73 : ∀ x g o v gz, S 73 x g o v gz → sn73 x g o v gz) {a : List Int} {g : rHp} : ∀ (ρ : Nat → Int) (γ : Nat → rHp), jn75 a g 0 (zAg (zNA a75_ 0) ρ) (γ 1) → zO 15 S a g q75a0_33 ρ γ → zGl (fun i vs g1 => jn75 a g i vs g1) (sn75 a g) q75a0_33 ρ γ := by
  intro ρ γ hJ h
  obtain ⟨ha, hg, hr, hf, hm, hc, hl⟩ := h
  have ha : a = [ρ 0, ρ 1, ρ 2, ρ 3, ρ 4, ρ 5, ρ 6, ρ 7, ρ 8, ρ 9, ρ 10, ρ 11, ρ 12, ρ 13, ρ 14] := ha
  subst ha
  subst hg
  have hJ : jn75 [ρ 0, ρ 1, ρ 2, ρ 3, ρ 4, ρ 5, ρ 6, ρ 7, ρ 8, ρ 9, ρ 10, ρ 11, ρ 12, ρ 13, ρ 14] (γ 0) 0 [ρ 0, ρ 1, ρ 2, ρ 3, ρ 4, ρ 5, ρ 6, ρ 7, ρ 8, ρ 9, ρ 10, ρ 11, ρ 12, ρ 13, ρ 14, ρ 15, ρ 16, ρ 17, ρ 18, ρ 19] (γ 1) := hJ
  obtain ⟨-, -, -, r3, -, -, -, -, -, -, -, -, -, -, -, -, -, r17, -, -, -, r21, -⟩ := hr
  have r3 : (1 : Int) ≤ ρ 3 ∧ ρ 3 ≤ 1 := r3
  have r17 : (0 : Int) ≤ ρ 17 ∧ ρ 17 ≤ 0 := r17
  have r21 : (0 : Int) ≤ ρ 21 ∧ ρ 21 ≤ 0 := r21
  obtain ⟨-, -, -, f3, -⟩ := hf
  have f3 : (0 : Int) ≤ ρ 18 + -ρ 15 + (-1) := f3
  obtain ⟨w_0, w_1, w_2, w_3, w_4⟩ : (¬ (ρ 15 ≥ ρ 18)) ∧ (¬ (ρ 17 ≠ 0)) ∧ (ρ 3 ≤ 2) ∧ (¬ (ρ 3 ≠ 1)) ∧ (0 ≥ ρ 21) := ⟨by omega, by omega, by omega, by omega, by omega⟩
  obtain ⟨-, -, m2, -, -, -, m6, -, -, -, -, -, -, -, -, m15, m16, -, -, m19, m20, m21, m22, m23, m24, -⟩ := hm
  have m2 : γ 0 71 0 (ρ 0) = ρ 3 := m2
  have m6 : γ 0 69 0 (ρ 0) = ρ 7 := m6
  have m15 : γ 1 15 0 77 = ρ 17 := m15
  have m16 : γ 1 15 0 90 = ρ 18 := m16
  have m19 : γ 1 106 0 (ρ 15) = ρ 20 := m19
  have m20 : γ 0 66 0 (ρ 7) = ρ 21 := m20
  have m21 : γ 1 105 0 (4 * ρ 15) = ρ 22 := m21
  have m22 : γ 1 105 0 (4 * ρ 15 + 1) = ρ 23 := m22
  have m23 : γ 1 105 0 (4 * ρ 15 + 2) = ρ 24 := m23
  have m24 : γ 1 105 0 (4 * ρ 15 + 3) = ρ 25 := m24
  obtain ⟨⟨⟨⟨⟨-, c2⟩, c3⟩, c4⟩, c5⟩, -⟩ := hc
  have c2 : γ 2 = rUp (γ 1) 102 0 0 (ρ 22) := c2
  have c3 : γ 3 = rUp (γ 2) 102 0 1 (ρ 23) := c3
  have c4 : γ 4 = rUp (γ 3) 102 0 2 (ρ 24) := c4
  have c5 : γ 5 = rUp (γ 4) 102 0 3 (ρ 25) := c5
  obtain ⟨l0, -⟩ := hl
  have l0 : sn57 [ρ 7, ρ 0, ρ 2, ρ 19, ρ 26, ρ 27, ρ 28, ρ 10, ρ 17] (γ 5) 0 0 (γ 6) := hS57 _ _ _ _ _ l0
  show jn75 [ρ 0, ρ 1, ρ 2, ρ 3, ρ 4, ρ 5, ρ 6, ρ 7, ρ 8, ρ 9, ρ 10, ρ 11, ρ 12, ρ 13, ρ 14] (γ 0) 0 [ρ 0, ρ 1, ρ 2, ρ 3, ρ 4, ρ 5, ρ 6, ρ 7, ρ 8, ρ 9, ρ 10, ρ 11, ρ 12, ρ 13, ρ 14, ρ 15 + 1, ρ 16, ρ 33, ρ 18, ρ 29] (γ 6)
  have hD : en75 (γ 0) (0, [ρ 0, ρ 15], γ 1) = .inl (0, [ρ 0, ρ 15 + 1], γ 6) := by
    unfold en75
    refine (if_pos (show (0 : Nat) = 0 by decide)).trans ?_
    refine (zLet_eq (show _ = γ 1 from rfl)).trans ?_
    refine (zLet_eq (show _ = ρ 0 from rfl)).trans ?_
    refine (zLet_eq (show _ = ρ 15 from rfl)).trans ?_
    refine (zLet_eq m2).trans ?_
    refine (zLet_eq m6).trans ?_
    refine (zLet_eq m15).trans ?_
    refine (zLet_eq m16).trans ?_
    refine (if_neg w_0).trans ?_
    refine (if_neg w_1).trans ?_
    refine (if_pos w_2).trans ?_
    refine (if_neg w_3).trans ?_
    refine (zLet_eq m19).trans ?_
    refine (zLet_eq m20).trans ?_
    refine (if_pos w_4).trans ?_
    refine (zLet_eq m21).trans ?_
    refine (zLet_eq c2.symm).trans ?_
    refine (zLet_eq m22).trans ?_
    refine (zLet_eq c3.symm).trans ?_
    refine (zLet_eq m23).trans ?_
    refine (zLet_eq c4.symm).trans ?_
    refine (zLet_eq m24).trans ?_
    refine (zLet_eq c5.symm).trans ?_
    refine (zLet_eq (show fn57 [ρ 7, ρ 0] (γ 5) = (0, 0, γ 6) from l0.symm)).trans ?_
    refine (zLet_eq (show _ = γ 6 from rfl)).trans ?_
    rfl
  exact zGoo_ato hJ hD
theorem vn75a0_34 {S : Nat → zSpc} (hS57 : ∀ x g o v gz, S 57 x g o v gz → sn57 x g o v gz) (hS73 : ∀ x g o v gz, S 73 x g o v gz → sn73 x g o v gz) {a : List Int} {g : rHp} : ∀ (ρ : Nat → Int) (γ : Nat → rHp), jn75 a g 0 (zAg (zNA a75_ 0) ρ) (γ 1) → zO 15 S a g q75a0_34 ρ γ → zGl (fun i vs g1 => jn75 a g i vs g1) (sn75 a g) q75a0_34 ρ γ := by
  intro ρ γ hJ h
  obtain ⟨ha, hg, hr, hf, hm, hc, hl⟩ := h
  have ha : a = [ρ 0, ρ 1, ρ 2, ρ 3, ρ 4, ρ 5, ρ 6, ρ 7, ρ 8, ρ 9, ρ 10, ρ 11, ρ 12, ρ 13, ρ 14] := ha
  subst ha
  subst hg
  have hJ : jn75 [ρ 0, ρ 1, ρ 2, ρ 3, ρ 4, ρ 5, ρ 6, ρ 7, ρ 8, ρ 9, ρ 10, ρ 11, ρ 12, ρ 13, ρ 14] (γ 0) 0 [ρ 0, ρ 1, ρ 2, ρ 3, ρ 4, ρ 5, ρ 6, ρ 7, ρ 8, ρ 9, ρ 10, ρ 11, ρ 12, ρ 13, ρ 14, ρ 15, ρ 16, ρ 17, ρ 18, ρ 19] (γ 1) := hJ
  obtain ⟨-, -, -, r3, -, -, -, -, -, -, -, -, -, -, -, -, -, r17, -, -, -, r21, r22, -⟩ := hr
  have r3 : (1 : Int) ≤ ρ 3 ∧ ρ 3 ≤ 1 := r3
  have r17 : (0 : Int) ≤ ρ 17 ∧ ρ 17 ≤ 0 := r17
  have r21 : (1 : Int) ≤ ρ 21 ∧ ρ 21 ≤ 1 := r21
  have r22 : (0 : Int) ≤ ρ 22 ∧ ρ 22 ≤ 2 := r22
  obtain ⟨-, -, -, f3, -⟩ := hf
  have f3 : (0 : Int) ≤ ρ 18 + -ρ 15 + (-1) := f3
  obtain ⟨w_0, w_1, w_2, w_3, w_4, w_5, w_6⟩ : (¬ (ρ 15 ≥ ρ 18)) ∧ (¬ (ρ 17 ≠ 0)) ∧ (ρ 3 ≤ 2) ∧ (¬ (ρ 3 ≠ 1)) ∧ (¬ (0 ≥ ρ 21)) ∧ (ρ 22 ≠ 3) ∧ (1 ≥ ρ 21) := ⟨by omega, by omega, by omega, by omega, by omega, by omega, by omega⟩
  obtain ⟨-, -, m2, -, -, -, m6, -, -, -, -, -, -, -, -, m15, m16, -, -, m19, m20, m21, m22, m23, m24, m25, -⟩ := hm
  have m2 : γ 0 71 0 (ρ 0) = ρ 3 := m2
  have m6 : γ 0 69 0 (ρ 0) = ρ 7 := m6
  have m15 : γ 1 15 0 77 = ρ 17 := m15
  have m16 : γ 1 15 0 90 = ρ 18 := m16
  have m19 : γ 1 106 0 (ρ 15) = ρ 20 := m19
  have m20 : γ 0 66 0 (ρ 7) = ρ 21 := m20
  have m21 : γ 0 70 0 (4 * ρ 0) = ρ 22 := m21
  have m22 : γ 1 105 0 (4 * ρ 15) = ρ 23 := m22
  have m23 : γ 1 105 0 (4 * ρ 15 + 1) = ρ 24 := m23
  have m24 : γ 1 105 0 (4 * ρ 15 + 2) = ρ 25 := m24
  have m25 : γ 1 105 0 (4 * ρ 15 + 3) = ρ 26 := m25
  obtain ⟨⟨⟨⟨⟨-, c2⟩, c3⟩, c4⟩, c5⟩, -⟩ := hc
  have c2 : γ 2 = rUp (γ 1) 102 0 0 (ρ 23) := c2
  have c3 : γ 3 = rUp (γ 2) 102 0 1 (ρ 24) := c3
  have c4 : γ 4 = rUp (γ 3) 102 0 2 (ρ 25) := c4
  have c5 : γ 5 = rUp (γ 4) 102 0 3 (ρ 26) := c5
  obtain ⟨l0, -⟩ := hl
  have l0 : sn57 [ρ 7, ρ 0, ρ 2, ρ 19, ρ 27, ρ 28, ρ 29, ρ 10, ρ 17] (γ 5) 0 0 (γ 6) := hS57 _ _ _ _ _ l0
  show jn75 [ρ 0, ρ 1, ρ 2, ρ 3, ρ 4, ρ 5, ρ 6, ρ 7, ρ 8, ρ 9, ρ 10, ρ 11, ρ 12, ρ 13, ρ 14] (γ 0) 0 [ρ 0, ρ 1, ρ 2, ρ 3, ρ 4, ρ 5, ρ 6, ρ 7, ρ 8, ρ 9, ρ 10, ρ 11, ρ 12, ρ 13, ρ 14, ρ 15 + 1, ρ 16, ρ 34, ρ 18, ρ 30] (γ 6)
  have hD : en75 (γ 0) (0, [ρ 0, ρ 15], γ 1) = .inl (0, [ρ 0, ρ 15 + 1], γ 6) := by
    unfold en75
    refine (if_pos (show (0 : Nat) = 0 by decide)).trans ?_
    refine (zLet_eq (show _ = γ 1 from rfl)).trans ?_
    refine (zLet_eq (show _ = ρ 0 from rfl)).trans ?_
    refine (zLet_eq (show _ = ρ 15 from rfl)).trans ?_
    refine (zLet_eq m2).trans ?_
    refine (zLet_eq m6).trans ?_
    refine (zLet_eq m15).trans ?_
    refine (zLet_eq m16).trans ?_
    refine (if_neg w_0).trans ?_
    refine (if_neg w_1).trans ?_
    refine (if_pos w_2).trans ?_
    refine (if_neg w_3).trans ?_
    refine (zLet_eq m19).trans ?_
    refine (zLet_eq m20).trans ?_
    refine (if_neg w_4).trans ?_
    refine (zLet_eq m21).trans ?_
    refine (if_pos w_5).trans ?_
    refine (zLet_eq m22).trans ?_
    refine (zLet_eq c2.symm).trans ?_
    refine (if_pos w_6).trans ?_
    refine (zLet_eq m23).trans ?_
    refine (zLet_eq c3.symm).trans ?_
    refine (zLet_eq m24).trans ?_
    refine (zLet_eq c4.symm).trans ?_
    refine (zLet_eq m25).trans ?_
    refine (zLet_eq c5.symm).trans ?_
    refine (zLet_eq (show fn57 [ρ 7, ρ 0] (γ 5) = (0, 0, γ 6) from l0.symm)).trans ?_
    refine (zLet_eq (show _ = γ 6 from rfl)).trans ?_
    rfl
  exact zGoo_ato hJ hD
theorem vn75a0_35 {S : Nat → zSpc} (hS57 : ∀ x g o v gz, S 57 x g o v gz → sn57 x g o v gz) (hS73 : ∀ x g o v gz, S 73 x g o v gz → sn73 x g o v gz) {a : List Int} {g : rHp} : ∀ (ρ : Nat → Int) (γ : Nat → rHp), jn75 a g 0 (zAg (zNA a75_ 0) ρ) (γ 1) → zO 15 S a g q75a0_35 ρ γ → zGl (fun i vs g1 => jn75 a g i vs g1) (sn75 a g) q75a0_35 ρ γ := by
  intro ρ γ hJ h
  obtain ⟨ha, hg, hr, hf, hm, hc, hl⟩ := h
  have ha : a = [ρ 0, ρ 1, ρ 2, ρ 3, ρ 4, ρ 5, ρ 6, ρ 7, ρ 8, ρ 9, ρ 10, ρ 11, ρ 12, ρ 13, ρ 14] := ha
  subst ha
  subst hg
  have hJ : jn75 [ρ 0, ρ 1, ρ 2, ρ 3, ρ 4, ρ 5, ρ 6, ρ 7, ρ 8, ρ 9, ρ 10, ρ 11, ρ 12, ρ 13, ρ 14] (γ 0) 0 [ρ 0, ρ 1, ρ 2, ρ 3, ρ 4, ρ 5, ρ 6, ρ 7, ρ 8, ρ 9, ρ 10, ρ 11, ρ 12, ρ 13, ρ 14, ρ 15, ρ 16, ρ 17, ρ 18, ρ 19] (γ 1) := hJ
  obtain ⟨-, -, -, r3, -, -, -, -, -, -, -, -, -, -, -, -, -, r17, -, -, -, r21, r22, -, r24, -⟩ := hr
  have r3 : (1 : Int) ≤ ρ 3 ∧ ρ 3 ≤ 1 := r3
  have r17 : (0 : Int) ≤ ρ 17 ∧ ρ 17 ≤ 0 := r17
  have r21 : (2 : Int) ≤ ρ 21 ∧ ρ 21 ≤ 2 := r21
  have r22 : (0 : Int) ≤ ρ 22 ∧ ρ 22 ≤ 2 := r22
  have r24 : (0 : Int) ≤ ρ 24 ∧ ρ 24 ≤ 2 := r24
  obtain ⟨-, -, -, f3, -⟩ := hf
  have f3 : (0 : Int) ≤ ρ 18 + -ρ 15 + (-1) := f3
  obtain ⟨w_0, w_1, w_2, w_3, w_4, w_5, w_6, w_7, w_8⟩ : (¬ (ρ 15 ≥ ρ 18)) ∧ (¬ (ρ 17 ≠ 0)) ∧ (ρ 3 ≤ 2) ∧ (¬ (ρ 3 ≠ 1)) ∧ (¬ (0 ≥ ρ 21)) ∧ (ρ 22 ≠ 3) ∧ (¬ (1 ≥ ρ 21)) ∧ (ρ 24 ≠ 3) ∧ (2 ≥ ρ 21) := ⟨by omega, by omega, by omega, by omega, by omega, by omega, by omega, by omega, by omega⟩
  obtain ⟨-, -, m2, -, -, -, m6, -, -, -, -, -, -, -, -, m15, m16, -, -, m19, m20, m21, m22, m23, m24, m25, m26, -⟩ := hm
  have m2 : γ 0 71 0 (ρ 0) = ρ 3 := m2
  have m6 : γ 0 69 0 (ρ 0) = ρ 7 := m6
  have m15 : γ 1 15 0 77 = ρ 17 := m15
  have m16 : γ 1 15 0 90 = ρ 18 := m16
  have m19 : γ 1 106 0 (ρ 15) = ρ 20 := m19
  have m20 : γ 0 66 0 (ρ 7) = ρ 21 := m20
  have m21 : γ 0 70 0 (4 * ρ 0) = ρ 22 := m21
  have m22 : γ 1 105 0 (4 * ρ 15) = ρ 23 := m22
  have m23 : γ 0 70 0 (4 * ρ 0 + 1) = ρ 24 := m23
  have m24 : γ 1 105 0 (4 * ρ 15 + 1) = ρ 25 := m24
  have m25 : γ 1 105 0 (4 * ρ 15 + 2) = ρ 26 := m25
  have m26 : γ 1 105 0 (4 * ρ 15 + 3) = ρ 27 := m26
  obtain ⟨⟨⟨⟨⟨-, c2⟩, c3⟩, c4⟩, c5⟩, -⟩ := hc
  have c2 : γ 2 = rUp (γ 1) 102 0 0 (ρ 23) := c2
  have c3 : γ 3 = rUp (γ 2) 102 0 1 (ρ 25) := c3
  have c4 : γ 4 = rUp (γ 3) 102 0 2 (ρ 26) := c4
  have c5 : γ 5 = rUp (γ 4) 102 0 3 (ρ 27) := c5
  obtain ⟨l0, -⟩ := hl
  have l0 : sn57 [ρ 7, ρ 0, ρ 2, ρ 19, ρ 28, ρ 29, ρ 30, ρ 10, ρ 17] (γ 5) 0 0 (γ 6) := hS57 _ _ _ _ _ l0
  show jn75 [ρ 0, ρ 1, ρ 2, ρ 3, ρ 4, ρ 5, ρ 6, ρ 7, ρ 8, ρ 9, ρ 10, ρ 11, ρ 12, ρ 13, ρ 14] (γ 0) 0 [ρ 0, ρ 1, ρ 2, ρ 3, ρ 4, ρ 5, ρ 6, ρ 7, ρ 8, ρ 9, ρ 10, ρ 11, ρ 12, ρ 13, ρ 14, ρ 15 + 1, ρ 16, ρ 35, ρ 18, ρ 31] (γ 6)
  have hD : en75 (γ 0) (0, [ρ 0, ρ 15], γ 1) = .inl (0, [ρ 0, ρ 15 + 1], γ 6) := by
    unfold en75
    refine (if_pos (show (0 : Nat) = 0 by decide)).trans ?_
    refine (zLet_eq (show _ = γ 1 from rfl)).trans ?_
    refine (zLet_eq (show _ = ρ 0 from rfl)).trans ?_
    refine (zLet_eq (show _ = ρ 15 from rfl)).trans ?_
    refine (zLet_eq m2).trans ?_
    refine (zLet_eq m6).trans ?_
    refine (zLet_eq m15).trans ?_
    refine (zLet_eq m16).trans ?_
    refine (if_neg w_0).trans ?_
    refine (if_neg w_1).trans ?_
    refine (if_pos w_2).trans ?_
    refine (if_neg w_3).trans ?_
    refine (zLet_eq m19).trans ?_
    refine (zLet_eq m20).trans ?_
    refine (if_neg w_4).trans ?_
    refine (zLet_eq m21).trans ?_
    refine (if_pos w_5).trans ?_
    refine (zLet_eq m22).trans ?_
    refine (zLet_eq c2.symm).trans ?_
    refine (if_neg w_6).trans ?_
    refine (zLet_eq m23).trans ?_
    refine (if_pos w_7).trans ?_
    refine (zLet_eq m24).trans ?_
    refine (zLet_eq c3.symm).trans ?_
    refine (if_pos w_8).trans ?_
    refine (zLet_eq m25).trans ?_
    refine (zLet_eq c4.symm).trans ?_
    refine (zLet_eq m26).trans ?_
    refine (zLet_eq c5.symm).trans ?_
    refine (zLet_eq (show fn57 [ρ 7, ρ 0] (γ 5) = (0, 0, γ 6) from l0.symm)).trans ?_
    refine (zLet_eq (show _ = γ 6 from rfl)).trans ?_
    rfl
  exact zGoo_ato hJ hD
theorem vn75a0_36 {S : Nat → zSpc} (hS57 : ∀ x g o v gz, S 57 x g o v gz → sn57 x g o v gz) (hS73 : ∀ x g o v gz, S 73 x g o v gz → sn73 x g o v gz) {a : List Int} {g : rHp} : ∀ (ρ : Nat → Int) (γ : Nat → rHp), jn75 a g 0 (zAg (zNA a75_ 0) ρ) (γ 1) → zO 15 S a g q75a0_36 ρ γ → zGl (fun i vs g1 => jn75 a g i vs g1) (sn75 a g) q75a0_36 ρ γ := by
  intro ρ γ hJ h
  obtain ⟨ha, hg, hr, hf, hm, hc, hl⟩ := h
  have ha : a = [ρ 0, ρ 1, ρ 2, ρ 3, ρ 4, ρ 5, ρ 6, ρ 7, ρ 8, ρ 9, ρ 10, ρ 11, ρ 12, ρ 13, ρ 14] := ha
  subst ha
  subst hg
  have hJ : jn75 [ρ 0, ρ 1, ρ 2, ρ 3, ρ 4, ρ 5, ρ 6, ρ 7, ρ 8, ρ 9, ρ 10, ρ 11, ρ 12, ρ 13, ρ 14] (γ 0) 0 [ρ 0, ρ 1, ρ 2, ρ 3, ρ 4, ρ 5, ρ 6, ρ 7, ρ 8, ρ 9, ρ 10, ρ 11, ρ 12, ρ 13, ρ 14, ρ 15, ρ 16, ρ 17, ρ 18, ρ 19] (γ 1) := hJ
  obtain ⟨-, -, -, r3, -, -, -, -, -, -, -, -, -, -, -, -, -, r17, -, -, -, r21, r22, -, r24, -, r26, -⟩ := hr
  have r3 : (1 : Int) ≤ ρ 3 ∧ ρ 3 ≤ 1 := r3
  have r17 : (0 : Int) ≤ ρ 17 ∧ ρ 17 ≤ 0 := r17
  have r21 : (3 : Int) ≤ ρ 21 ∧ ρ 21 ≤ 3 := r21
  have r22 : (0 : Int) ≤ ρ 22 ∧ ρ 22 ≤ 2 := r22
  have r24 : (0 : Int) ≤ ρ 24 ∧ ρ 24 ≤ 2 := r24
  have r26 : (0 : Int) ≤ ρ 26 ∧ ρ 26 ≤ 2 := r26
  obtain ⟨-, -, -, f3, -⟩ := hf
  have f3 : (0 : Int) ≤ ρ 18 + -ρ 15 + (-1) := f3
  obtain ⟨w_0, w_1, w_2, w_3, w_4, w_5, w_6, w_7, w_8, w_9, w_10⟩ : (¬ (ρ 15 ≥ ρ 18)) ∧ (¬ (ρ 17 ≠ 0)) ∧ (ρ 3 ≤ 2) ∧ (¬ (ρ 3 ≠ 1)) ∧ (¬ (0 ≥ ρ 21)) ∧ (ρ 22 ≠ 3) ∧ (¬ (1 ≥ ρ 21)) ∧ (ρ 24 ≠ 3) ∧ (¬ (2 ≥ ρ 21)) ∧ (ρ 26 ≠ 3) ∧ (3 ≥ ρ 21) := ⟨by omega, by omega, by omega, by omega, by omega, by omega, by omega, by omega, by omega, by omega, by omega⟩
  obtain ⟨-, -, m2, -, -, -, m6, -, -, -, -, -, -, -, -, m15, m16, -, -, m19, m20, m21, m22, m23, m24, m25, m26, m27, -⟩ := hm
  have m2 : γ 0 71 0 (ρ 0) = ρ 3 := m2
  have m6 : γ 0 69 0 (ρ 0) = ρ 7 := m6
  have m15 : γ 1 15 0 77 = ρ 17 := m15
  have m16 : γ 1 15 0 90 = ρ 18 := m16
  have m19 : γ 1 106 0 (ρ 15) = ρ 20 := m19
  have m20 : γ 0 66 0 (ρ 7) = ρ 21 := m20
  have m21 : γ 0 70 0 (4 * ρ 0) = ρ 22 := m21
  have m22 : γ 1 105 0 (4 * ρ 15) = ρ 23 := m22
  have m23 : γ 0 70 0 (4 * ρ 0 + 1) = ρ 24 := m23
  have m24 : γ 1 105 0 (4 * ρ 15 + 1) = ρ 25 := m24
  have m25 : γ 0 70 0 (4 * ρ 0 + 2) = ρ 26 := m25
  have m26 : γ 1 105 0 (4 * ρ 15 + 2) = ρ 27 := m26
  have m27 : γ 1 105 0 (4 * ρ 15 + 3) = ρ 28 := m27
  obtain ⟨⟨⟨⟨⟨-, c2⟩, c3⟩, c4⟩, c5⟩, -⟩ := hc
  have c2 : γ 2 = rUp (γ 1) 102 0 0 (ρ 23) := c2
  have c3 : γ 3 = rUp (γ 2) 102 0 1 (ρ 25) := c3
  have c4 : γ 4 = rUp (γ 3) 102 0 2 (ρ 27) := c4
  have c5 : γ 5 = rUp (γ 4) 102 0 3 (ρ 28) := c5
  obtain ⟨l0, -⟩ := hl
  have l0 : sn57 [ρ 7, ρ 0, ρ 2, ρ 19, ρ 29, ρ 30, ρ 31, ρ 10, ρ 17] (γ 5) 0 0 (γ 6) := hS57 _ _ _ _ _ l0
  show jn75 [ρ 0, ρ 1, ρ 2, ρ 3, ρ 4, ρ 5, ρ 6, ρ 7, ρ 8, ρ 9, ρ 10, ρ 11, ρ 12, ρ 13, ρ 14] (γ 0) 0 [ρ 0, ρ 1, ρ 2, ρ 3, ρ 4, ρ 5, ρ 6, ρ 7, ρ 8, ρ 9, ρ 10, ρ 11, ρ 12, ρ 13, ρ 14, ρ 15 + 1, ρ 16, ρ 36, ρ 18, ρ 32] (γ 6)
  have hD : en75 (γ 0) (0, [ρ 0, ρ 15], γ 1) = .inl (0, [ρ 0, ρ 15 + 1], γ 6) := by
    unfold en75
    refine (if_pos (show (0 : Nat) = 0 by decide)).trans ?_
    refine (zLet_eq (show _ = γ 1 from rfl)).trans ?_
    refine (zLet_eq (show _ = ρ 0 from rfl)).trans ?_
    refine (zLet_eq (show _ = ρ 15 from rfl)).trans ?_
    refine (zLet_eq m2).trans ?_
    refine (zLet_eq m6).trans ?_
    refine (zLet_eq m15).trans ?_
    refine (zLet_eq m16).trans ?_
    refine (if_neg w_0).trans ?_
    refine (if_neg w_1).trans ?_
    refine (if_pos w_2).trans ?_
    refine (if_neg w_3).trans ?_
    refine (zLet_eq m19).trans ?_
    refine (zLet_eq m20).trans ?_
    refine (if_neg w_4).trans ?_
    refine (zLet_eq m21).trans ?_
    refine (if_pos w_5).trans ?_
    refine (zLet_eq m22).trans ?_
    refine (zLet_eq c2.symm).trans ?_
    refine (if_neg w_6).trans ?_
    refine (zLet_eq m23).trans ?_
    refine (if_pos w_7).trans ?_
    refine (zLet_eq m24).trans ?_
    refine (zLet_eq c3.symm).trans ?_
    refine (if_neg w_8).trans ?_
    refine (zLet_eq m25).trans ?_
    refine (if_pos w_9).trans ?_
    refine (zLet_eq m26).trans ?_
    refine (zLet_eq c4.symm).trans ?_
    refine (if_pos w_10).trans ?_
    refine (zLet_eq m27).trans ?_
    refine (zLet_eq c5.symm).trans ?_
    refine (zLet_eq (show fn57 [ρ 7, ρ 0] (γ 5) = (0, 0, γ 6) from l0.symm)).trans ?_
    refine (zLet_eq (show _ = γ 6 from rfl)).trans ?_
    rfl
  exact zGoo_ato hJ hD
theorem vn75a0_37 {S : Nat → zSpc} (hS57 : ∀ x g o v gz, S 57 x g o v gz → sn57 x g o v gz) (hS73 : ∀ x g o v gz, S 73 x g o v gz → sn73 x g o v gz) {a : List Int} {g : rHp} : ∀ (ρ : Nat → Int) (γ : Nat → rHp), jn75 a g 0 (zAg (zNA a75_ 0) ρ) (γ 1) → zO 15 S a g q75a0_37 ρ γ → zGl (fun i vs g1 => jn75 a g i vs g1) (sn75 a g) q75a0_37 ρ γ := by
  intro ρ γ hJ h
  obtain ⟨ha, hg, hr, hf, hm, hc, hl⟩ := h
  have ha : a = [ρ 0, ρ 1, ρ 2, ρ 3, ρ 4, ρ 5, ρ 6, ρ 7, ρ 8, ρ 9, ρ 10, ρ 11, ρ 12, ρ 13, ρ 14] := ha
  subst ha
  subst hg
  have hJ : jn75 [ρ 0, ρ 1, ρ 2, ρ 3, ρ 4, ρ 5, ρ 6, ρ 7, ρ 8, ρ 9, ρ 10, ρ 11, ρ 12, ρ 13, ρ 14] (γ 0) 0 [ρ 0, ρ 1, ρ 2, ρ 3, ρ 4, ρ 5, ρ 6, ρ 7, ρ 8, ρ 9, ρ 10, ρ 11, ρ 12, ρ 13, ρ 14, ρ 15, ρ 16, ρ 17, ρ 18, ρ 19] (γ 1) := hJ
  obtain ⟨-, -, -, r3, -, -, -, -, -, -, -, -, -, -, -, -, -, r17, -, -, -, r21, r22, -, r24, -, r26, -, r28, -⟩ := hr
  have r3 : (1 : Int) ≤ ρ 3 ∧ ρ 3 ≤ 1 := r3
  have r17 : (0 : Int) ≤ ρ 17 ∧ ρ 17 ≤ 0 := r17
  have r21 : (4 : Int) ≤ ρ 21 ∧ ρ 21 ≤ 4 := r21
  have r22 : (0 : Int) ≤ ρ 22 ∧ ρ 22 ≤ 2 := r22
  have r24 : (0 : Int) ≤ ρ 24 ∧ ρ 24 ≤ 2 := r24
  have r26 : (0 : Int) ≤ ρ 26 ∧ ρ 26 ≤ 2 := r26
  have r28 : (0 : Int) ≤ ρ 28 ∧ ρ 28 ≤ 2 := r28
  obtain ⟨-, -, -, f3, -⟩ := hf
  have f3 : (0 : Int) ≤ ρ 18 + -ρ 15 + (-1) := f3
  obtain ⟨w_0, w_1, w_2, w_3, w_4, w_5, w_6, w_7, w_8, w_9, w_10, w_11⟩ : (¬ (ρ 15 ≥ ρ 18)) ∧ (¬ (ρ 17 ≠ 0)) ∧ (ρ 3 ≤ 2) ∧ (¬ (ρ 3 ≠ 1)) ∧ (¬ (0 ≥ ρ 21)) ∧ (ρ 22 ≠ 3) ∧ (¬ (1 ≥ ρ 21)) ∧ (ρ 24 ≠ 3) ∧ (¬ (2 ≥ ρ 21)) ∧ (ρ 26 ≠ 3) ∧ (¬ (3 ≥ ρ 21)) ∧ (ρ 28 ≠ 3) := ⟨by omega, by omega, by omega, by omega, by omega, by omega, by omega, by omega, by omega, by omega, by omega, by omega⟩
  obtain ⟨-, -, m2, -, -, -, m6, -, -, -, -, -, -, -, -, m15, m16, -, -, m19, m20, m21, m22, m23, m24, m25, m26, m27, m28, -⟩ := hm
  have m2 : γ 0 71 0 (ρ 0) = ρ 3 := m2
  have m6 : γ 0 69 0 (ρ 0) = ρ 7 := m6
  have m15 : γ 1 15 0 77 = ρ 17 := m15
  have m16 : γ 1 15 0 90 = ρ 18 := m16
  have m19 : γ 1 106 0 (ρ 15) = ρ 20 := m19
  have m20 : γ 0 66 0 (ρ 7) = ρ 21 := m20
  have m21 : γ 0 70 0 (4 * ρ 0) = ρ 22 := m21
  have m22 : γ 1 105 0 (4 * ρ 15) = ρ 23 := m22
  have m23 : γ 0 70 0 (4 * ρ 0 + 1) = ρ 24 := m23
  have m24 : γ 1 105 0 (4 * ρ 15 + 1) = ρ 25 := m24
  have m25 : γ 0 70 0 (4 * ρ 0 + 2) = ρ 26 := m25
  have m26 : γ 1 105 0 (4 * ρ 15 + 2) = ρ 27 := m26
  have m27 : γ 0 70 0 (4 * ρ 0 + 3) = ρ 28 := m27
  have m28 : γ 1 105 0 (4 * ρ 15 + 3) = ρ 29 := m28
  obtain ⟨⟨⟨⟨⟨-, c2⟩, c3⟩, c4⟩, c5⟩, -⟩ := hc
  have c2 : γ 2 = rUp (γ 1) 102 0 0 (ρ 23) := c2
  have c3 : γ 3 = rUp (γ 2) 102 0 1 (ρ 25) := c3
  have c4 : γ 4 = rUp (γ 3) 102 0 2 (ρ 27) := c4
  have c5 : γ 5 = rUp (γ 4) 102 0 3 (ρ 29) := c5
  obtain ⟨l0, -⟩ := hl
  have l0 : sn57 [ρ 7, ρ 0, ρ 2, ρ 19, ρ 30, ρ 31, ρ 32, ρ 10, ρ 17] (γ 5) 0 0 (γ 6) := hS57 _ _ _ _ _ l0
  show jn75 [ρ 0, ρ 1, ρ 2, ρ 3, ρ 4, ρ 5, ρ 6, ρ 7, ρ 8, ρ 9, ρ 10, ρ 11, ρ 12, ρ 13, ρ 14] (γ 0) 0 [ρ 0, ρ 1, ρ 2, ρ 3, ρ 4, ρ 5, ρ 6, ρ 7, ρ 8, ρ 9, ρ 10, ρ 11, ρ 12, ρ 13, ρ 14, ρ 15 + 1, ρ 16, ρ 37, ρ 18, ρ 33] (γ 6)
  have hD : en75 (γ 0) (0, [ρ 0, ρ 15], γ 1) = .inl (0, [ρ 0, ρ 15 + 1], γ 6) := by
    unfold en75
    refine (if_pos (show (0 : Nat) = 0 by decide)).trans ?_
    refine (zLet_eq (show _ = γ 1 from rfl)).trans ?_
    refine (zLet_eq (show _ = ρ 0 from rfl)).trans ?_
    refine (zLet_eq (show _ = ρ 15 from rfl)).trans ?_
    refine (zLet_eq m2).trans ?_
    refine (zLet_eq m6).trans ?_
    refine (zLet_eq m15).trans ?_
    refine (zLet_eq m16).trans ?_
    refine (if_neg w_0).trans ?_
    refine (if_neg w_1).trans ?_
    refine (if_pos w_2).trans ?_
    refine (if_neg w_3).trans ?_
    refine (zLet_eq m19).trans ?_
    refine (zLet_eq m20).trans ?_
    refine (if_neg w_4).trans ?_
    refine (zLet_eq m21).trans ?_
    refine (if_pos w_5).trans ?_
    refine (zLet_eq m22).trans ?_
    refine (zLet_eq c2.symm).trans ?_
    refine (if_neg w_6).trans ?_
    refine (zLet_eq m23).trans ?_
    refine (if_pos w_7).trans ?_
    refine (zLet_eq m24).trans ?_
    refine (zLet_eq c3.symm).trans ?_
    refine (if_neg w_8).trans ?_
    refine (zLet_eq m25).trans ?_
    refine (if_pos w_9).trans ?_
    refine (zLet_eq m26).trans ?_
    refine (zLet_eq c4.symm).trans ?_
    refine (if_neg w_10).trans ?_
    refine (zLet_eq m27).trans ?_
    refine (if_pos w_11).trans ?_
    refine (zLet_eq m28).trans ?_
    refine (zLet_eq c5.symm).trans ?_
    refine (zLet_eq (show fn57 [ρ 7, ρ 0] (γ 5) = (0, 0, γ 6) from l0.symm)).trans ?_
    refine (zLet_eq (show _ = γ 6 from rfl)).trans ?_
    rfl
  exact zGoo_ato hJ hD
theorem vn75a0_38 {S : Nat → zSpc} (hS57 : ∀ x g o v gz, S 57 x g o v gz → sn57 x g o v gz) (hS73 : ∀ x g o v gz, S 73 x g o v gz → sn73 x g o v gz) {a : List Int} {g : rHp} : ∀ (ρ : Nat → Int) (γ : Nat → rHp), jn75 a g 0 (zAg (zNA a75_ 0) ρ) (γ 1) → zO 15 S a g q75a0_38 ρ γ → zGl (fun i vs g1 => jn75 a g i vs g1) (sn75 a g) q75a0_38 ρ γ := by
  intro ρ γ hJ h
  obtain ⟨ha, hg, hr, hf, hm, hc, hl⟩ := h
  have ha : a = [ρ 0, ρ 1, ρ 2, ρ 3, ρ 4, ρ 5, ρ 6, ρ 7, ρ 8, ρ 9, ρ 10, ρ 11, ρ 12, ρ 13, ρ 14] := ha
  subst ha
  subst hg
  have hJ : jn75 [ρ 0, ρ 1, ρ 2, ρ 3, ρ 4, ρ 5, ρ 6, ρ 7, ρ 8, ρ 9, ρ 10, ρ 11, ρ 12, ρ 13, ρ 14] (γ 0) 0 [ρ 0, ρ 1, ρ 2, ρ 3, ρ 4, ρ 5, ρ 6, ρ 7, ρ 8, ρ 9, ρ 10, ρ 11, ρ 12, ρ 13, ρ 14, ρ 15, ρ 16, ρ 17, ρ 18, ρ 19] (γ 1) := hJ
  obtain ⟨-, -, -, r3, -, -, -, -, -, -, -, -, -, -, -, -, -, r17, -, -, -, r21, r22, -, r24, -, r26, -, r28, -⟩ := hr
  have r3 : (1 : Int) ≤ ρ 3 ∧ ρ 3 ≤ 1 := r3
  have r17 : (0 : Int) ≤ ρ 17 ∧ ρ 17 ≤ 0 := r17
  have r21 : (4 : Int) ≤ ρ 21 ∧ ρ 21 ≤ 4 := r21
  have r22 : (0 : Int) ≤ ρ 22 ∧ ρ 22 ≤ 2 := r22
  have r24 : (0 : Int) ≤ ρ 24 ∧ ρ 24 ≤ 2 := r24
  have r26 : (0 : Int) ≤ ρ 26 ∧ ρ 26 ≤ 2 := r26
  have r28 : (3 : Int) ≤ ρ 28 ∧ ρ 28 ≤ 3 := r28
  obtain ⟨-, -, -, f3, -⟩ := hf
  have f3 : (0 : Int) ≤ ρ 18 + -ρ 15 + (-1) := f3
  obtain ⟨w_0, w_1, w_2, w_3, w_4, w_5, w_6, w_7, w_8, w_9, w_10, w_11⟩ : (¬ (ρ 15 ≥ ρ 18)) ∧ (¬ (ρ 17 ≠ 0)) ∧ (ρ 3 ≤ 2) ∧ (¬ (ρ 3 ≠ 1)) ∧ (¬ (0 ≥ ρ 21)) ∧ (ρ 22 ≠ 3) ∧ (¬ (1 ≥ ρ 21)) ∧ (ρ 24 ≠ 3) ∧ (¬ (2 ≥ ρ 21)) ∧ (ρ 26 ≠ 3) ∧ (¬ (3 ≥ ρ 21)) ∧ (¬ (ρ 28 ≠ 3)) := ⟨by omega, by omega, by omega, by omega, by omega, by omega, by omega, by omega, by omega, by omega, by omega, by omega⟩
  obtain ⟨-, -, m2, -, -, -, m6, -, -, -, -, -, -, -, -, m15, m16, -, -, m19, m20, m21, m22, m23, m24, m25, m26, m27, -⟩ := hm
  have m2 : γ 0 71 0 (ρ 0) = ρ 3 := m2
  have m6 : γ 0 69 0 (ρ 0) = ρ 7 := m6
  have m15 : γ 1 15 0 77 = ρ 17 := m15
  have m16 : γ 1 15 0 90 = ρ 18 := m16
  have m19 : γ 1 106 0 (ρ 15) = ρ 20 := m19
  have m20 : γ 0 66 0 (ρ 7) = ρ 21 := m20
  have m21 : γ 0 70 0 (4 * ρ 0) = ρ 22 := m21
  have m22 : γ 1 105 0 (4 * ρ 15) = ρ 23 := m22
  have m23 : γ 0 70 0 (4 * ρ 0 + 1) = ρ 24 := m23
  have m24 : γ 1 105 0 (4 * ρ 15 + 1) = ρ 25 := m24
  have m25 : γ 0 70 0 (4 * ρ 0 + 2) = ρ 26 := m25
  have m26 : γ 1 105 0 (4 * ρ 15 + 2) = ρ 27 := m26
  have m27 : γ 0 70 0 (4 * ρ 0 + 3) = ρ 28 := m27
  obtain ⟨⟨⟨⟨⟨-, c2⟩, c3⟩, c4⟩, c5⟩, -⟩ := hc
  have c2 : γ 2 = rUp (γ 1) 102 0 0 (ρ 23) := c2
  have c3 : γ 3 = rUp (γ 2) 102 0 1 (ρ 25) := c3
  have c4 : γ 4 = rUp (γ 3) 102 0 2 (ρ 27) := c4
  have c5 : γ 5 = rUp (γ 4) 102 0 3 (ρ 20) := c5
  obtain ⟨l0, -⟩ := hl
  have l0 : sn57 [ρ 7, ρ 0, ρ 2, ρ 19, ρ 29, ρ 30, ρ 31, ρ 10, ρ 17] (γ 5) 0 0 (γ 6) := hS57 _ _ _ _ _ l0
  show jn75 [ρ 0, ρ 1, ρ 2, ρ 3, ρ 4, ρ 5, ρ 6, ρ 7, ρ 8, ρ 9, ρ 10, ρ 11, ρ 12, ρ 13, ρ 14] (γ 0) 0 [ρ 0, ρ 1, ρ 2, ρ 3, ρ 4, ρ 5, ρ 6, ρ 7, ρ 8, ρ 9, ρ 10, ρ 11, ρ 12, ρ 13, ρ 14, ρ 15 + 1, ρ 16, ρ 36, ρ 18, ρ 32] (γ 6)
  have hD : en75 (γ 0) (0, [ρ 0, ρ 15], γ 1) = .inl (0, [ρ 0, ρ 15 + 1], γ 6) := by
    unfold en75
    refine (if_pos (show (0 : Nat) = 0 by decide)).trans ?_
    refine (zLet_eq (show _ = γ 1 from rfl)).trans ?_
    refine (zLet_eq (show _ = ρ 0 from rfl)).trans ?_
    refine (zLet_eq (show _ = ρ 15 from rfl)).trans ?_
    refine (zLet_eq m2).trans ?_
    refine (zLet_eq m6).trans ?_
    refine (zLet_eq m15).trans ?_
    refine (zLet_eq m16).trans ?_
    refine (if_neg w_0).trans ?_
    refine (if_neg w_1).trans ?_
    refine (if_pos w_2).trans ?_
    refine (if_neg w_3).trans ?_
    refine (zLet_eq m19).trans ?_
    refine (zLet_eq m20).trans ?_
    refine (if_neg w_4).trans ?_
    refine (zLet_eq m21).trans ?_
    refine (if_pos w_5).trans ?_
    refine (zLet_eq m22).trans ?_
    refine (zLet_eq c2.symm).trans ?_
    refine (if_neg w_6).trans ?_
    refine (zLet_eq m23).trans ?_
    refine (if_pos w_7).trans ?_
    refine (zLet_eq m24).trans ?_
    refine (zLet_eq c3.symm).trans ?_
    refine (if_neg w_8).trans ?_
    refine (zLet_eq m25).trans ?_
    refine (if_pos w_9).trans ?_
    refine (zLet_eq m26).trans ?_
    refine (zLet_eq c4.symm).trans ?_
    refine (if_neg w_10).trans ?_
    refine (zLet_eq m27).trans ?_
    refine (if_neg w_11).trans ?_
    refine (zLet_eq c5.symm).trans ?_
    refine (zLet_eq (show fn57 [ρ 7, ρ 0] (γ 5) = (0, 0, γ 6) from l0.symm)).trans ?_
    refine (zLet_eq (show _ = γ 6 from rfl)).trans ?_
    rfl
  exact zGoo_ato hJ hD
theorem vn75a0_39 {S : Nat → zSpc} (hS57 : ∀ x g o v gz, S 57 x g o v gz → sn57 x g o v gz) (hS73 : ∀ x g o v gz, S 73 x g o v gz → sn73 x g o v gz) {a : List Int} {g : rHp} : ∀ (ρ : Nat → Int) (γ : Nat → rHp), jn75 a g 0 (zAg (zNA a75_ 0) ρ) (γ 1) → zO 15 S a g q75a0_39 ρ γ → zGl (fun i vs g1 => jn75 a g i vs g1) (sn75 a g) q75a0_39 ρ γ := by
  intro ρ γ hJ h
  obtain ⟨ha, hg, hr, hf, hm, hc, hl⟩ := h
  have ha : a = [ρ 0, ρ 1, ρ 2, ρ 3, ρ 4, ρ 5, ρ 6, ρ 7, ρ 8, ρ 9, ρ 10, ρ 11, ρ 12, ρ 13, ρ 14] := ha
  subst ha
  subst hg
  have hJ : jn75 [ρ 0, ρ 1, ρ 2, ρ 3, ρ 4, ρ 5, ρ 6, ρ 7, ρ 8, ρ 9, ρ 10, ρ 11, ρ 12, ρ 13, ρ 14] (γ 0) 0 [ρ 0, ρ 1, ρ 2, ρ 3, ρ 4, ρ 5, ρ 6, ρ 7, ρ 8, ρ 9, ρ 10, ρ 11, ρ 12, ρ 13, ρ 14, ρ 15, ρ 16, ρ 17, ρ 18, ρ 19] (γ 1) := hJ
  obtain ⟨-, -, -, r3, -, -, -, -, -, -, -, -, -, -, -, -, -, r17, -, -, -, r21, r22, -, r24, -, r26, -⟩ := hr
  have r3 : (1 : Int) ≤ ρ 3 ∧ ρ 3 ≤ 1 := r3
  have r17 : (0 : Int) ≤ ρ 17 ∧ ρ 17 ≤ 0 := r17
  have r21 : (3 : Int) ≤ ρ 21 ∧ ρ 21 ≤ 3 := r21
  have r22 : (0 : Int) ≤ ρ 22 ∧ ρ 22 ≤ 2 := r22
  have r24 : (0 : Int) ≤ ρ 24 ∧ ρ 24 ≤ 2 := r24
  have r26 : (3 : Int) ≤ ρ 26 ∧ ρ 26 ≤ 3 := r26
  obtain ⟨-, -, -, f3, -⟩ := hf
  have f3 : (0 : Int) ≤ ρ 18 + -ρ 15 + (-1) := f3
  obtain ⟨w_0, w_1, w_2, w_3, w_4, w_5, w_6, w_7, w_8, w_9, w_10⟩ : (¬ (ρ 15 ≥ ρ 18)) ∧ (¬ (ρ 17 ≠ 0)) ∧ (ρ 3 ≤ 2) ∧ (¬ (ρ 3 ≠ 1)) ∧ (¬ (0 ≥ ρ 21)) ∧ (ρ 22 ≠ 3) ∧ (¬ (1 ≥ ρ 21)) ∧ (ρ 24 ≠ 3) ∧ (¬ (2 ≥ ρ 21)) ∧ (¬ (ρ 26 ≠ 3)) ∧ (3 ≥ ρ 21) := ⟨by omega, by omega, by omega, by omega, by omega, by omega, by omega, by omega, by omega, by omega, by omega⟩
  obtain ⟨-, -, m2, -, -, -, m6, -, -, -, -, -, -, -, -, m15, m16, -, -, m19, m20, m21, m22, m23, m24, m25, m26, -⟩ := hm
  have m2 : γ 0 71 0 (ρ 0) = ρ 3 := m2
  have m6 : γ 0 69 0 (ρ 0) = ρ 7 := m6
  have m15 : γ 1 15 0 77 = ρ 17 := m15
  have m16 : γ 1 15 0 90 = ρ 18 := m16
  have m19 : γ 1 106 0 (ρ 15) = ρ 20 := m19
  have m20 : γ 0 66 0 (ρ 7) = ρ 21 := m20
  have m21 : γ 0 70 0 (4 * ρ 0) = ρ 22 := m21
  have m22 : γ 1 105 0 (4 * ρ 15) = ρ 23 := m22
  have m23 : γ 0 70 0 (4 * ρ 0 + 1) = ρ 24 := m23
  have m24 : γ 1 105 0 (4 * ρ 15 + 1) = ρ 25 := m24
  have m25 : γ 0 70 0 (4 * ρ 0 + 2) = ρ 26 := m25
  have m26 : γ 1 105 0 (4 * ρ 15 + 3) = ρ 27 := m26
  obtain ⟨⟨⟨⟨⟨-, c2⟩, c3⟩, c4⟩, c5⟩, -⟩ := hc
  have c2 : γ 2 = rUp (γ 1) 102 0 0 (ρ 23) := c2
  have c3 : γ 3 = rUp (γ 2) 102 0 1 (ρ 25) := c3
  have c4 : γ 4 = rUp (γ 3) 102 0 2 (ρ 20) := c4
  have c5 : γ 5 = rUp (γ 4) 102 0 3 (ρ 27) := c5
  obtain ⟨l0, -⟩ := hl
  have l0 : sn57 [ρ 7, ρ 0, ρ 2, ρ 19, ρ 28, ρ 29, ρ 30, ρ 10, ρ 17] (γ 5) 0 0 (γ 6) := hS57 _ _ _ _ _ l0
  show jn75 [ρ 0, ρ 1, ρ 2, ρ 3, ρ 4, ρ 5, ρ 6, ρ 7, ρ 8, ρ 9, ρ 10, ρ 11, ρ 12, ρ 13, ρ 14] (γ 0) 0 [ρ 0, ρ 1, ρ 2, ρ 3, ρ 4, ρ 5, ρ 6, ρ 7, ρ 8, ρ 9, ρ 10, ρ 11, ρ 12, ρ 13, ρ 14, ρ 15 + 1, ρ 16, ρ 35, ρ 18, ρ 31] (γ 6)
  have hD : en75 (γ 0) (0, [ρ 0, ρ 15], γ 1) = .inl (0, [ρ 0, ρ 15 + 1], γ 6) := by
    unfold en75
    refine (if_pos (show (0 : Nat) = 0 by decide)).trans ?_
    refine (zLet_eq (show _ = γ 1 from rfl)).trans ?_
    refine (zLet_eq (show _ = ρ 0 from rfl)).trans ?_
    refine (zLet_eq (show _ = ρ 15 from rfl)).trans ?_
    refine (zLet_eq m2).trans ?_
    refine (zLet_eq m6).trans ?_
    refine (zLet_eq m15).trans ?_
    refine (zLet_eq m16).trans ?_
    refine (if_neg w_0).trans ?_
    refine (if_neg w_1).trans ?_
    refine (if_pos w_2).trans ?_
    refine (if_neg w_3).trans ?_
    refine (zLet_eq m19).trans ?_
    refine (zLet_eq m20).trans ?_
    refine (if_neg w_4).trans ?_
    refine (zLet_eq m21).trans ?_
    refine (if_pos w_5).trans ?_
    refine (zLet_eq m22).trans ?_
    refine (zLet_eq c2.symm).trans ?_
    refine (if_neg w_6).trans ?_
    refine (zLet_eq m23).trans ?_
    refine (if_pos w_7).trans ?_
    refine (zLet_eq m24).trans ?_
    refine (zLet_eq c3.symm).trans ?_
    refine (if_neg w_8).trans ?_
    refine (zLet_eq m25).trans ?_
    refine (if_neg w_9).trans ?_
    refine (zLet_eq c4.symm).trans ?_
    refine (if_pos w_10).trans ?_
    refine (zLet_eq m26).trans ?_
    refine (zLet_eq c5.symm).trans ?_
    refine (zLet_eq (show fn57 [ρ 7, ρ 0] (γ 5) = (0, 0, γ 6) from l0.symm)).trans ?_
    refine (zLet_eq (show _ = γ 6 from rfl)).trans ?_
    rfl
  exact zGoo_ato hJ hD
theorem vn75a0_40 {S : Nat → zSpc} (hS57 : ∀ x g o v gz, S 57 x g o v gz → sn57 x g o v gz) (hS73 : ∀ x g o v gz, S 73 x g o v gz → sn73 x g o v gz) {a : List Int} {g : rHp} : ∀ (ρ : Nat → Int) (γ : Nat → rHp), jn75 a g 0 (zAg (zNA a75_ 0) ρ) (γ 1) → zO 15 S a g q75a0_40 ρ γ → zGl (fun i vs g1 => jn75 a g i vs g1) (sn75 a g) q75a0_40 ρ γ := by
  intro ρ γ hJ h
  obtain ⟨ha, hg, hr, hf, hm, hc, hl⟩ := h
  have ha : a = [ρ 0, ρ 1, ρ 2, ρ 3, ρ 4, ρ 5, ρ 6, ρ 7, ρ 8, ρ 9, ρ 10, ρ 11, ρ 12, ρ 13, ρ 14] := ha
  subst ha
  subst hg
  have hJ : jn75 [ρ 0, ρ 1, ρ 2, ρ 3, ρ 4, ρ 5, ρ 6, ρ 7, ρ 8, ρ 9, ρ 10, ρ 11, ρ 12, ρ 13, ρ 14] (γ 0) 0 [ρ 0, ρ 1, ρ 2, ρ 3, ρ 4, ρ 5, ρ 6, ρ 7, ρ 8, ρ 9, ρ 10, ρ 11, ρ 12, ρ 13, ρ 14, ρ 15, ρ 16, ρ 17, ρ 18, ρ 19] (γ 1) := hJ
  obtain ⟨-, -, -, r3, -, -, -, -, -, -, -, -, -, -, -, -, -, r17, -, -, -, r21, r22, -, r24, -, r26, r27, -⟩ := hr
  have r3 : (1 : Int) ≤ ρ 3 ∧ ρ 3 ≤ 1 := r3
  have r17 : (0 : Int) ≤ ρ 17 ∧ ρ 17 ≤ 0 := r17
  have r21 : (4 : Int) ≤ ρ 21 ∧ ρ 21 ≤ 4 := r21
  have r22 : (0 : Int) ≤ ρ 22 ∧ ρ 22 ≤ 2 := r22
  have r24 : (0 : Int) ≤ ρ 24 ∧ ρ 24 ≤ 2 := r24
  have r26 : (3 : Int) ≤ ρ 26 ∧ ρ 26 ≤ 3 := r26
  have r27 : (0 : Int) ≤ ρ 27 ∧ ρ 27 ≤ 2 := r27
  obtain ⟨-, -, -, f3, -⟩ := hf
  have f3 : (0 : Int) ≤ ρ 18 + -ρ 15 + (-1) := f3
  obtain ⟨w_0, w_1, w_2, w_3, w_4, w_5, w_6, w_7, w_8, w_9, w_10, w_11⟩ : (¬ (ρ 15 ≥ ρ 18)) ∧ (¬ (ρ 17 ≠ 0)) ∧ (ρ 3 ≤ 2) ∧ (¬ (ρ 3 ≠ 1)) ∧ (¬ (0 ≥ ρ 21)) ∧ (ρ 22 ≠ 3) ∧ (¬ (1 ≥ ρ 21)) ∧ (ρ 24 ≠ 3) ∧ (¬ (2 ≥ ρ 21)) ∧ (¬ (ρ 26 ≠ 3)) ∧ (¬ (3 ≥ ρ 21)) ∧ (ρ 27 ≠ 3) := ⟨by omega, by omega, by omega, by omega, by omega, by omega, by omega, by omega, by omega, by omega, by omega, by omega⟩
  obtain ⟨-, -, m2, -, -, -, m6, -, -, -, -, -, -, -, -, m15, m16, -, -, m19, m20, m21, m22, m23, m24, m25, m26, m27, -⟩ := hm
  have m2 : γ 0 71 0 (ρ 0) = ρ 3 := m2
  have m6 : γ 0 69 0 (ρ 0) = ρ 7 := m6
  have m15 : γ 1 15 0 77 = ρ 17 := m15
  have m16 : γ 1 15 0 90 = ρ 18 := m16
  have m19 : γ 1 106 0 (ρ 15) = ρ 20 := m19
  have m20 : γ 0 66 0 (ρ 7) = ρ 21 := m20
  have m21 : γ 0 70 0 (4 * ρ 0) = ρ 22 := m21
  have m22 : γ 1 105 0 (4 * ρ 15) = ρ 23 := m22
  have m23 : γ 0 70 0 (4 * ρ 0 + 1) = ρ 24 := m23
  have m24 : γ 1 105 0 (4 * ρ 15 + 1) = ρ 25 := m24
  have m25 : γ 0 70 0 (4 * ρ 0 + 2) = ρ 26 := m25
  have m26 : γ 0 70 0 (4 * ρ 0 + 3) = ρ 27 := m26
  have m27 : γ 1 105 0 (4 * ρ 15 + 3) = ρ 28 := m27
  obtain ⟨⟨⟨⟨⟨-, c2⟩, c3⟩, c4⟩, c5⟩, -⟩ := hc
  have c2 : γ 2 = rUp (γ 1) 102 0 0 (ρ 23) := c2
  have c3 : γ 3 = rUp (γ 2) 102 0 1 (ρ 25) := c3
  have c4 : γ 4 = rUp (γ 3) 102 0 2 (ρ 20) := c4
  have c5 : γ 5 = rUp (γ 4) 102 0 3 (ρ 28) := c5
  obtain ⟨l0, -⟩ := hl
  have l0 : sn57 [ρ 7, ρ 0, ρ 2, ρ 19, ρ 29, ρ 30, ρ 31, ρ 10, ρ 17] (γ 5) 0 0 (γ 6) := hS57 _ _ _ _ _ l0
  show jn75 [ρ 0, ρ 1, ρ 2, ρ 3, ρ 4, ρ 5, ρ 6, ρ 7, ρ 8, ρ 9, ρ 10, ρ 11, ρ 12, ρ 13, ρ 14] (γ 0) 0 [ρ 0, ρ 1, ρ 2, ρ 3, ρ 4, ρ 5, ρ 6, ρ 7, ρ 8, ρ 9, ρ 10, ρ 11, ρ 12, ρ 13, ρ 14, ρ 15 + 1, ρ 16, ρ 36, ρ 18, ρ 32] (γ 6)
  have hD : en75 (γ 0) (0, [ρ 0, ρ 15], γ 1) = .inl (0, [ρ 0, ρ 15 + 1], γ 6) := by
    unfold en75
    refine (if_pos (show (0 : Nat) = 0 by decide)).trans ?_
    refine (zLet_eq (show _ = γ 1 from rfl)).trans ?_
    refine (zLet_eq (show _ = ρ 0 from rfl)).trans ?_
    refine (zLet_eq (show _ = ρ 15 from rfl)).trans ?_
    refine (zLet_eq m2).trans ?_
    refine (zLet_eq m6).trans ?_
    refine (zLet_eq m15).trans ?_
    refine (zLet_eq m16).trans ?_
    refine (if_neg w_0).trans ?_
    refine (if_neg w_1).trans ?_
    refine (if_pos w_2).trans ?_
    refine (if_neg w_3).trans ?_
    refine (zLet_eq m19).trans ?_
    refine (zLet_eq m20).trans ?_
    refine (if_neg w_4).trans ?_
    refine (zLet_eq m21).trans ?_
    refine (if_pos w_5).trans ?_
    refine (zLet_eq m22).trans ?_
    refine (zLet_eq c2.symm).trans ?_
    refine (if_neg w_6).trans ?_
    refine (zLet_eq m23).trans ?_
    refine (if_pos w_7).trans ?_
    refine (zLet_eq m24).trans ?_
    refine (zLet_eq c3.symm).trans ?_
    refine (if_neg w_8).trans ?_
    refine (zLet_eq m25).trans ?_
    refine (if_neg w_9).trans ?_
    refine (zLet_eq c4.symm).trans ?_
    refine (if_neg w_10).trans ?_
    refine (zLet_eq m26).trans ?_
    refine (if_pos w_11).trans ?_
    refine (zLet_eq m27).trans ?_
    refine (zLet_eq c5.symm).trans ?_
    refine (zLet_eq (show fn57 [ρ 7, ρ 0] (γ 5) = (0, 0, γ 6) from l0.symm)).trans ?_
    refine (zLet_eq (show _ = γ 6 from rfl)).trans ?_
    rfl
  exact zGoo_ato hJ hD
theorem vn75a0_41 {S : Nat → zSpc} (hS57 : ∀ x g o v gz, S 57 x g o v gz → sn57 x g o v gz) (hS73 : ∀ x g o v gz, S 73 x g o v gz → sn73 x g o v gz) {a : List Int} {g : rHp} : ∀ (ρ : Nat → Int) (γ : Nat → rHp), jn75 a g 0 (zAg (zNA a75_ 0) ρ) (γ 1) → zO 15 S a g q75a0_41 ρ γ → zGl (fun i vs g1 => jn75 a g i vs g1) (sn75 a g) q75a0_41 ρ γ := by
  intro ρ γ hJ h
  obtain ⟨ha, hg, hr, hf, hm, hc, hl⟩ := h
  have ha : a = [ρ 0, ρ 1, ρ 2, ρ 3, ρ 4, ρ 5, ρ 6, ρ 7, ρ 8, ρ 9, ρ 10, ρ 11, ρ 12, ρ 13, ρ 14] := ha
  subst ha
  subst hg
  have hJ : jn75 [ρ 0, ρ 1, ρ 2, ρ 3, ρ 4, ρ 5, ρ 6, ρ 7, ρ 8, ρ 9, ρ 10, ρ 11, ρ 12, ρ 13, ρ 14] (γ 0) 0 [ρ 0, ρ 1, ρ 2, ρ 3, ρ 4, ρ 5, ρ 6, ρ 7, ρ 8, ρ 9, ρ 10, ρ 11, ρ 12, ρ 13, ρ 14, ρ 15, ρ 16, ρ 17, ρ 18, ρ 19] (γ 1) := hJ
  obtain ⟨-, -, -, r3, -, -, -, -, -, -, -, -, -, -, -, -, -, r17, -, -, -, r21, r22, -, r24, -, r26, r27, -⟩ := hr
  have r3 : (1 : Int) ≤ ρ 3 ∧ ρ 3 ≤ 1 := r3
  have r17 : (0 : Int) ≤ ρ 17 ∧ ρ 17 ≤ 0 := r17
  have r21 : (4 : Int) ≤ ρ 21 ∧ ρ 21 ≤ 4 := r21
  have r22 : (0 : Int) ≤ ρ 22 ∧ ρ 22 ≤ 2 := r22
  have r24 : (0 : Int) ≤ ρ 24 ∧ ρ 24 ≤ 2 := r24
  have r26 : (3 : Int) ≤ ρ 26 ∧ ρ 26 ≤ 3 := r26
  have r27 : (3 : Int) ≤ ρ 27 ∧ ρ 27 ≤ 3 := r27
  obtain ⟨-, -, -, f3, -⟩ := hf
  have f3 : (0 : Int) ≤ ρ 18 + -ρ 15 + (-1) := f3
  obtain ⟨w_0, w_1, w_2, w_3, w_4, w_5, w_6, w_7, w_8, w_9, w_10, w_11⟩ : (¬ (ρ 15 ≥ ρ 18)) ∧ (¬ (ρ 17 ≠ 0)) ∧ (ρ 3 ≤ 2) ∧ (¬ (ρ 3 ≠ 1)) ∧ (¬ (0 ≥ ρ 21)) ∧ (ρ 22 ≠ 3) ∧ (¬ (1 ≥ ρ 21)) ∧ (ρ 24 ≠ 3) ∧ (¬ (2 ≥ ρ 21)) ∧ (¬ (ρ 26 ≠ 3)) ∧ (¬ (3 ≥ ρ 21)) ∧ (¬ (ρ 27 ≠ 3)) := ⟨by omega, by omega, by omega, by omega, by omega, by omega, by omega, by omega, by omega, by omega, by omega, by omega⟩
  obtain ⟨-, -, m2, -, -, -, m6, -, -, -, -, -, -, -, -, m15, m16, -, -, m19, m20, m21, m22, m23, m24, m25, m26, -⟩ := hm
  have m2 : γ 0 71 0 (ρ 0) = ρ 3 := m2
  have m6 : γ 0 69 0 (ρ 0) = ρ 7 := m6
  have m15 : γ 1 15 0 77 = ρ 17 := m15
  have m16 : γ 1 15 0 90 = ρ 18 := m16
  have m19 : γ 1 106 0 (ρ 15) = ρ 20 := m19
  have m20 : γ 0 66 0 (ρ 7) = ρ 21 := m20
  have m21 : γ 0 70 0 (4 * ρ 0) = ρ 22 := m21
  have m22 : γ 1 105 0 (4 * ρ 15) = ρ 23 := m22
  have m23 : γ 0 70 0 (4 * ρ 0 + 1) = ρ 24 := m23
  have m24 : γ 1 105 0 (4 * ρ 15 + 1) = ρ 25 := m24
  have m25 : γ 0 70 0 (4 * ρ 0 + 2) = ρ 26 := m25
  have m26 : γ 0 70 0 (4 * ρ 0 + 3) = ρ 27 := m26
  obtain ⟨⟨⟨⟨⟨-, c2⟩, c3⟩, c4⟩, c5⟩, -⟩ := hc
  have c2 : γ 2 = rUp (γ 1) 102 0 0 (ρ 23) := c2
  have c3 : γ 3 = rUp (γ 2) 102 0 1 (ρ 25) := c3
  have c4 : γ 4 = rUp (γ 3) 102 0 2 (ρ 20) := c4
  have c5 : γ 5 = rUp (γ 4) 102 0 3 (ρ 20) := c5
  obtain ⟨l0, -⟩ := hl
  have l0 : sn57 [ρ 7, ρ 0, ρ 2, ρ 19, ρ 28, ρ 29, ρ 30, ρ 10, ρ 17] (γ 5) 0 0 (γ 6) := hS57 _ _ _ _ _ l0
  show jn75 [ρ 0, ρ 1, ρ 2, ρ 3, ρ 4, ρ 5, ρ 6, ρ 7, ρ 8, ρ 9, ρ 10, ρ 11, ρ 12, ρ 13, ρ 14] (γ 0) 0 [ρ 0, ρ 1, ρ 2, ρ 3, ρ 4, ρ 5, ρ 6, ρ 7, ρ 8, ρ 9, ρ 10, ρ 11, ρ 12, ρ 13, ρ 14, ρ 15 + 1, ρ 16, ρ 35, ρ 18, ρ 31] (γ 6)
  have hD : en75 (γ 0) (0, [ρ 0, ρ 15], γ 1) = .inl (0, [ρ 0, ρ 15 + 1], γ 6) := by
    unfold en75
    refine (if_pos (show (0 : Nat) = 0 by decide)).trans ?_
    refine (zLet_eq (show _ = γ 1 from rfl)).trans ?_
    refine (zLet_eq (show _ = ρ 0 from rfl)).trans ?_
    refine (zLet_eq (show _ = ρ 15 from rfl)).trans ?_
    refine (zLet_eq m2).trans ?_
    refine (zLet_eq m6).trans ?_
    refine (zLet_eq m15).trans ?_
    refine (zLet_eq m16).trans ?_
    refine (if_neg w_0).trans ?_
    refine (if_neg w_1).trans ?_
    refine (if_pos w_2).trans ?_
    refine (if_neg w_3).trans ?_
    refine (zLet_eq m19).trans ?_
    refine (zLet_eq m20).trans ?_
    refine (if_neg w_4).trans ?_
    refine (zLet_eq m21).trans ?_
    refine (if_pos w_5).trans ?_
    refine (zLet_eq m22).trans ?_
    refine (zLet_eq c2.symm).trans ?_
    refine (if_neg w_6).trans ?_
    refine (zLet_eq m23).trans ?_
    refine (if_pos w_7).trans ?_
    refine (zLet_eq m24).trans ?_
    refine (zLet_eq c3.symm).trans ?_
    refine (if_neg w_8).trans ?_
    refine (zLet_eq m25).trans ?_
    refine (if_neg w_9).trans ?_
    refine (zLet_eq c4.symm).trans ?_
    refine (if_neg w_10).trans ?_
    refine (zLet_eq m26).trans ?_
    refine (if_neg w_11).trans ?_
    refine (zLet_eq c5.symm).trans ?_
    refine (zLet_eq (show fn57 [ρ 7, ρ 0] (γ 5) = (0, 0, γ 6) from l0.symm)).trans ?_
    refine (zLet_eq (show _ = γ 6 from rfl)).trans ?_
    rfl
  exact zGoo_ato hJ hD
theorem vn75a0_42 {S : Nat → zSpc} (hS57 : ∀ x g o v gz, S 57 x g o v gz → sn57 x g o v gz) (hS73 : ∀ x g o v gz, S 73 x g o v gz → sn73 x g o v gz) {a : List Int} {g : rHp} : ∀ (ρ : Nat → Int) (γ : Nat → rHp), jn75 a g 0 (zAg (zNA a75_ 0) ρ) (γ 1) → zO 15 S a g q75a0_42 ρ γ → zGl (fun i vs g1 => jn75 a g i vs g1) (sn75 a g) q75a0_42 ρ γ := by
  intro ρ γ hJ h
  obtain ⟨ha, hg, hr, hf, hm, hc, hl⟩ := h
  have ha : a = [ρ 0, ρ 1, ρ 2, ρ 3, ρ 4, ρ 5, ρ 6, ρ 7, ρ 8, ρ 9, ρ 10, ρ 11, ρ 12, ρ 13, ρ 14] := ha
  subst ha
  subst hg
  have hJ : jn75 [ρ 0, ρ 1, ρ 2, ρ 3, ρ 4, ρ 5, ρ 6, ρ 7, ρ 8, ρ 9, ρ 10, ρ 11, ρ 12, ρ 13, ρ 14] (γ 0) 0 [ρ 0, ρ 1, ρ 2, ρ 3, ρ 4, ρ 5, ρ 6, ρ 7, ρ 8, ρ 9, ρ 10, ρ 11, ρ 12, ρ 13, ρ 14, ρ 15, ρ 16, ρ 17, ρ 18, ρ 19] (γ 1) := hJ
  obtain ⟨-, -, -, r3, -, -, -, -, -, -, -, -, -, -, -, -, -, r17, -, -, -, r21, r22, -, r24, -⟩ := hr
  have r3 : (1 : Int) ≤ ρ 3 ∧ ρ 3 ≤ 1 := r3
  have r17 : (0 : Int) ≤ ρ 17 ∧ ρ 17 ≤ 0 := r17
  have r21 : (2 : Int) ≤ ρ 21 ∧ ρ 21 ≤ 2 := r21
  have r22 : (0 : Int) ≤ ρ 22 ∧ ρ 22 ≤ 2 := r22
  have r24 : (3 : Int) ≤ ρ 24 ∧ ρ 24 ≤ 3 := r24
  obtain ⟨-, -, -, f3, -⟩ := hf
  have f3 : (0 : Int) ≤ ρ 18 + -ρ 15 + (-1) := f3
  obtain ⟨w_0, w_1, w_2, w_3, w_4, w_5, w_6, w_7, w_8⟩ : (¬ (ρ 15 ≥ ρ 18)) ∧ (¬ (ρ 17 ≠ 0)) ∧ (ρ 3 ≤ 2) ∧ (¬ (ρ 3 ≠ 1)) ∧ (¬ (0 ≥ ρ 21)) ∧ (ρ 22 ≠ 3) ∧ (¬ (1 ≥ ρ 21)) ∧ (¬ (ρ 24 ≠ 3)) ∧ (2 ≥ ρ 21) := ⟨by omega, by omega, by omega, by omega, by omega, by omega, by omega, by omega, by omega⟩
  obtain ⟨-, -, m2, -, -, -, m6, -, -, -, -, -, -, -, -, m15, m16, -, -, m19, m20, m21, m22, m23, m24, m25, -⟩ := hm
  have m2 : γ 0 71 0 (ρ 0) = ρ 3 := m2
  have m6 : γ 0 69 0 (ρ 0) = ρ 7 := m6
  have m15 : γ 1 15 0 77 = ρ 17 := m15
  have m16 : γ 1 15 0 90 = ρ 18 := m16
  have m19 : γ 1 106 0 (ρ 15) = ρ 20 := m19
  have m20 : γ 0 66 0 (ρ 7) = ρ 21 := m20
  have m21 : γ 0 70 0 (4 * ρ 0) = ρ 22 := m21
  have m22 : γ 1 105 0 (4 * ρ 15) = ρ 23 := m22
  have m23 : γ 0 70 0 (4 * ρ 0 + 1) = ρ 24 := m23
  have m24 : γ 1 105 0 (4 * ρ 15 + 2) = ρ 25 := m24
  have m25 : γ 1 105 0 (4 * ρ 15 + 3) = ρ 26 := m25
  obtain ⟨⟨⟨⟨⟨-, c2⟩, c3⟩, c4⟩, c5⟩, -⟩ := hc
  have c2 : γ 2 = rUp (γ 1) 102 0 0 (ρ 23) := c2
  have c3 : γ 3 = rUp (γ 2) 102 0 1 (ρ 20) := c3
  have c4 : γ 4 = rUp (γ 3) 102 0 2 (ρ 25) := c4
  have c5 : γ 5 = rUp (γ 4) 102 0 3 (ρ 26) := c5
  obtain ⟨l0, -⟩ := hl
  have l0 : sn57 [ρ 7, ρ 0, ρ 2, ρ 19, ρ 27, ρ 28, ρ 29, ρ 10, ρ 17] (γ 5) 0 0 (γ 6) := hS57 _ _ _ _ _ l0
  show jn75 [ρ 0, ρ 1, ρ 2, ρ 3, ρ 4, ρ 5, ρ 6, ρ 7, ρ 8, ρ 9, ρ 10, ρ 11, ρ 12, ρ 13, ρ 14] (γ 0) 0 [ρ 0, ρ 1, ρ 2, ρ 3, ρ 4, ρ 5, ρ 6, ρ 7, ρ 8, ρ 9, ρ 10, ρ 11, ρ 12, ρ 13, ρ 14, ρ 15 + 1, ρ 16, ρ 34, ρ 18, ρ 30] (γ 6)
  have hD : en75 (γ 0) (0, [ρ 0, ρ 15], γ 1) = .inl (0, [ρ 0, ρ 15 + 1], γ 6) := by
    unfold en75
    refine (if_pos (show (0 : Nat) = 0 by decide)).trans ?_
    refine (zLet_eq (show _ = γ 1 from rfl)).trans ?_
    refine (zLet_eq (show _ = ρ 0 from rfl)).trans ?_
    refine (zLet_eq (show _ = ρ 15 from rfl)).trans ?_
    refine (zLet_eq m2).trans ?_
    refine (zLet_eq m6).trans ?_
    refine (zLet_eq m15).trans ?_
    refine (zLet_eq m16).trans ?_
    refine (if_neg w_0).trans ?_
    refine (if_neg w_1).trans ?_
    refine (if_pos w_2).trans ?_
    refine (if_neg w_3).trans ?_
    refine (zLet_eq m19).trans ?_
    refine (zLet_eq m20).trans ?_
    refine (if_neg w_4).trans ?_
    refine (zLet_eq m21).trans ?_
    refine (if_pos w_5).trans ?_
    refine (zLet_eq m22).trans ?_
    refine (zLet_eq c2.symm).trans ?_
    refine (if_neg w_6).trans ?_
    refine (zLet_eq m23).trans ?_
    refine (if_neg w_7).trans ?_
    refine (zLet_eq c3.symm).trans ?_
    refine (if_pos w_8).trans ?_
    refine (zLet_eq m24).trans ?_
    refine (zLet_eq c4.symm).trans ?_
    refine (zLet_eq m25).trans ?_
    refine (zLet_eq c5.symm).trans ?_
    refine (zLet_eq (show fn57 [ρ 7, ρ 0] (γ 5) = (0, 0, γ 6) from l0.symm)).trans ?_
    refine (zLet_eq (show _ = γ 6 from rfl)).trans ?_
    rfl
  exact zGoo_ato hJ hD
theorem vn75a0_43 {S : Nat → zSpc} (hS57 : ∀ x g o v gz, S 57 x g o v gz → sn57 x g o v gz) (hS73 : ∀ x g o v gz, S 73 x g o v gz → sn73 x g o v gz) {a : List Int} {g : rHp} : ∀ (ρ : Nat → Int) (γ : Nat → rHp), jn75 a g 0 (zAg (zNA a75_ 0) ρ) (γ 1) → zO 15 S a g q75a0_43 ρ γ → zGl (fun i vs g1 => jn75 a g i vs g1) (sn75 a g) q75a0_43 ρ γ := by
  intro ρ γ hJ h
  obtain ⟨ha, hg, hr, hf, hm, hc, hl⟩ := h
  have ha : a = [ρ 0, ρ 1, ρ 2, ρ 3, ρ 4, ρ 5, ρ 6, ρ 7, ρ 8, ρ 9, ρ 10, ρ 11, ρ 12, ρ 13, ρ 14] := ha
  subst ha
  subst hg
  have hJ : jn75 [ρ 0, ρ 1, ρ 2, ρ 3, ρ 4, ρ 5, ρ 6, ρ 7, ρ 8, ρ 9, ρ 10, ρ 11, ρ 12, ρ 13, ρ 14] (γ 0) 0 [ρ 0, ρ 1, ρ 2, ρ 3, ρ 4, ρ 5, ρ 6, ρ 7, ρ 8, ρ 9, ρ 10, ρ 11, ρ 12, ρ 13, ρ 14, ρ 15, ρ 16, ρ 17, ρ 18, ρ 19] (γ 1) := hJ
  obtain ⟨-, -, -, r3, -, -, -, -, -, -, -, -, -, -, -, -, -, r17, -, -, -, r21, r22, -, r24, r25, -⟩ := hr
  have r3 : (1 : Int) ≤ ρ 3 ∧ ρ 3 ≤ 1 := r3
  have r17 : (0 : Int) ≤ ρ 17 ∧ ρ 17 ≤ 0 := r17
  have r21 : (3 : Int) ≤ ρ 21 ∧ ρ 21 ≤ 3 := r21
  have r22 : (0 : Int) ≤ ρ 22 ∧ ρ 22 ≤ 2 := r22
  have r24 : (3 : Int) ≤ ρ 24 ∧ ρ 24 ≤ 3 := r24
  have r25 : (0 : Int) ≤ ρ 25 ∧ ρ 25 ≤ 2 := r25
  obtain ⟨-, -, -, f3, -⟩ := hf
  have f3 : (0 : Int) ≤ ρ 18 + -ρ 15 + (-1) := f3
  obtain ⟨w_0, w_1, w_2, w_3, w_4, w_5, w_6, w_7, w_8, w_9, w_10⟩ : (¬ (ρ 15 ≥ ρ 18)) ∧ (¬ (ρ 17 ≠ 0)) ∧ (ρ 3 ≤ 2) ∧ (¬ (ρ 3 ≠ 1)) ∧ (¬ (0 ≥ ρ 21)) ∧ (ρ 22 ≠ 3) ∧ (¬ (1 ≥ ρ 21)) ∧ (¬ (ρ 24 ≠ 3)) ∧ (¬ (2 ≥ ρ 21)) ∧ (ρ 25 ≠ 3) ∧ (3 ≥ ρ 21) := ⟨by omega, by omega, by omega, by omega, by omega, by omega, by omega, by omega, by omega, by omega, by omega⟩
  obtain ⟨-, -, m2, -, -, -, m6, -, -, -, -, -, -, -, -, m15, m16, -, -, m19, m20, m21, m22, m23, m24, m25, m26, -⟩ := hm
  have m2 : γ 0 71 0 (ρ 0) = ρ 3 := m2
  have m6 : γ 0 69 0 (ρ 0) = ρ 7 := m6
  have m15 : γ 1 15 0 77 = ρ 17 := m15
  have m16 : γ 1 15 0 90 = ρ 18 := m16
  have m19 : γ 1 106 0 (ρ 15) = ρ 20 := m19
  have m20 : γ 0 66 0 (ρ 7) = ρ 21 := m20
  have m21 : γ 0 70 0 (4 * ρ 0) = ρ 22 := m21
  have m22 : γ 1 105 0 (4 * ρ 15) = ρ 23 := m22
  have m23 : γ 0 70 0 (4 * ρ 0 + 1) = ρ 24 := m23
  have m24 : γ 0 70 0 (4 * ρ 0 + 2) = ρ 25 := m24
  have m25 : γ 1 105 0 (4 * ρ 15 + 2) = ρ 26 := m25
  have m26 : γ 1 105 0 (4 * ρ 15 + 3) = ρ 27 := m26
  obtain ⟨⟨⟨⟨⟨-, c2⟩, c3⟩, c4⟩, c5⟩, -⟩ := hc
  have c2 : γ 2 = rUp (γ 1) 102 0 0 (ρ 23) := c2
  have c3 : γ 3 = rUp (γ 2) 102 0 1 (ρ 20) := c3
  have c4 : γ 4 = rUp (γ 3) 102 0 2 (ρ 26) := c4
  have c5 : γ 5 = rUp (γ 4) 102 0 3 (ρ 27) := c5
  obtain ⟨l0, -⟩ := hl
  have l0 : sn57 [ρ 7, ρ 0, ρ 2, ρ 19, ρ 28, ρ 29, ρ 30, ρ 10, ρ 17] (γ 5) 0 0 (γ 6) := hS57 _ _ _ _ _ l0
  show jn75 [ρ 0, ρ 1, ρ 2, ρ 3, ρ 4, ρ 5, ρ 6, ρ 7, ρ 8, ρ 9, ρ 10, ρ 11, ρ 12, ρ 13, ρ 14] (γ 0) 0 [ρ 0, ρ 1, ρ 2, ρ 3, ρ 4, ρ 5, ρ 6, ρ 7, ρ 8, ρ 9, ρ 10, ρ 11, ρ 12, ρ 13, ρ 14, ρ 15 + 1, ρ 16, ρ 35, ρ 18, ρ 31] (γ 6)
  have hD : en75 (γ 0) (0, [ρ 0, ρ 15], γ 1) = .inl (0, [ρ 0, ρ 15 + 1], γ 6) := by
    unfold en75
    refine (if_pos (show (0 : Nat) = 0 by decide)).trans ?_
    refine (zLet_eq (show _ = γ 1 from rfl)).trans ?_
    refine (zLet_eq (show _ = ρ 0 from rfl)).trans ?_
    refine (zLet_eq (show _ = ρ 15 from rfl)).trans ?_
    refine (zLet_eq m2).trans ?_
    refine (zLet_eq m6).trans ?_
    refine (zLet_eq m15).trans ?_
    refine (zLet_eq m16).trans ?_
    refine (if_neg w_0).trans ?_
    refine (if_neg w_1).trans ?_
    refine (if_pos w_2).trans ?_
    refine (if_neg w_3).trans ?_
    refine (zLet_eq m19).trans ?_
    refine (zLet_eq m20).trans ?_
    refine (if_neg w_4).trans ?_
    refine (zLet_eq m21).trans ?_
    refine (if_pos w_5).trans ?_
    refine (zLet_eq m22).trans ?_
    refine (zLet_eq c2.symm).trans ?_
    refine (if_neg w_6).trans ?_
    refine (zLet_eq m23).trans ?_
    refine (if_neg w_7).trans ?_
    refine (zLet_eq c3.symm).trans ?_
    refine (if_neg w_8).trans ?_
    refine (zLet_eq m24).trans ?_
    refine (if_pos w_9).trans ?_
    refine (zLet_eq m25).trans ?_
    refine (zLet_eq c4.symm).trans ?_
    refine (if_pos w_10).trans ?_
    refine (zLet_eq m26).trans ?_
    refine (zLet_eq c5.symm).trans ?_
    refine (zLet_eq (show fn57 [ρ 7, ρ 0] (γ 5) = (0, 0, γ 6) from l0.symm)).trans ?_
    refine (zLet_eq (show _ = γ 6 from rfl)).trans ?_
    rfl
  exact zGoo_ato hJ hD
theorem vn75a0_44 {S : Nat → zSpc} (hS57 : ∀ x g o v gz, S 57 x g o v gz → sn57 x g o v gz) (hS73 : ∀ x g o v gz, S 73 x g o v gz → sn73 x g o v gz) {a : List Int} {g : rHp} : ∀ (ρ : Nat → Int) (γ : Nat → rHp), jn75 a g 0 (zAg (zNA a75_ 0) ρ) (γ 1) → zO 15 S a g q75a0_44 ρ γ → zGl (fun i vs g1 => jn75 a g i vs g1) (sn75 a g) q75a0_44 ρ γ := by
  intro ρ γ hJ h
  obtain ⟨ha, hg, hr, hf, hm, hc, hl⟩ := h
  have ha : a = [ρ 0, ρ 1, ρ 2, ρ 3, ρ 4, ρ 5, ρ 6, ρ 7, ρ 8, ρ 9, ρ 10, ρ 11, ρ 12, ρ 13, ρ 14] := ha
  subst ha
  subst hg
  have hJ : jn75 [ρ 0, ρ 1, ρ 2, ρ 3, ρ 4, ρ 5, ρ 6, ρ 7, ρ 8, ρ 9, ρ 10, ρ 11, ρ 12, ρ 13, ρ 14] (γ 0) 0 [ρ 0, ρ 1, ρ 2, ρ 3, ρ 4, ρ 5, ρ 6, ρ 7, ρ 8, ρ 9, ρ 10, ρ 11, ρ 12, ρ 13, ρ 14, ρ 15, ρ 16, ρ 17, ρ 18, ρ 19] (γ 1) := hJ
  obtain ⟨-, -, -, r3, -, -, -, -, -, -, -, -, -, -, -, -, -, r17, -, -, -, r21, r22, -, r24, r25, -, r27, -⟩ := hr
  have r3 : (1 : Int) ≤ ρ 3 ∧ ρ 3 ≤ 1 := r3
  have r17 : (0 : Int) ≤ ρ 17 ∧ ρ 17 ≤ 0 := r17
  have r21 : (4 : Int) ≤ ρ 21 ∧ ρ 21 ≤ 4 := r21
  have r22 : (0 : Int) ≤ ρ 22 ∧ ρ 22 ≤ 2 := r22
  have r24 : (3 : Int) ≤ ρ 24 ∧ ρ 24 ≤ 3 := r24
  have r25 : (0 : Int) ≤ ρ 25 ∧ ρ 25 ≤ 2 := r25
  have r27 : (0 : Int) ≤ ρ 27 ∧ ρ 27 ≤ 2 := r27
  obtain ⟨-, -, -, f3, -⟩ := hf
  have f3 : (0 : Int) ≤ ρ 18 + -ρ 15 + (-1) := f3
  obtain ⟨w_0, w_1, w_2, w_3, w_4, w_5, w_6, w_7, w_8, w_9, w_10, w_11⟩ : (¬ (ρ 15 ≥ ρ 18)) ∧ (¬ (ρ 17 ≠ 0)) ∧ (ρ 3 ≤ 2) ∧ (¬ (ρ 3 ≠ 1)) ∧ (¬ (0 ≥ ρ 21)) ∧ (ρ 22 ≠ 3) ∧ (¬ (1 ≥ ρ 21)) ∧ (¬ (ρ 24 ≠ 3)) ∧ (¬ (2 ≥ ρ 21)) ∧ (ρ 25 ≠ 3) ∧ (¬ (3 ≥ ρ 21)) ∧ (ρ 27 ≠ 3) := ⟨by omega, by omega, by omega, by omega, by omega, by omega, by omega, by omega, by omega, by omega, by omega, by omega⟩
  obtain ⟨-, -, m2, -, -, -, m6, -, -, -, -, -, -, -, -, m15, m16, -, -, m19, m20, m21, m22, m23, m24, m25, m26, m27, -⟩ := hm
  have m2 : γ 0 71 0 (ρ 0) = ρ 3 := m2
  have m6 : γ 0 69 0 (ρ 0) = ρ 7 := m6
  have m15 : γ 1 15 0 77 = ρ 17 := m15
  have m16 : γ 1 15 0 90 = ρ 18 := m16
  have m19 : γ 1 106 0 (ρ 15) = ρ 20 := m19
  have m20 : γ 0 66 0 (ρ 7) = ρ 21 := m20
  have m21 : γ 0 70 0 (4 * ρ 0) = ρ 22 := m21
  have m22 : γ 1 105 0 (4 * ρ 15) = ρ 23 := m22
  have m23 : γ 0 70 0 (4 * ρ 0 + 1) = ρ 24 := m23
  have m24 : γ 0 70 0 (4 * ρ 0 + 2) = ρ 25 := m24
  have m25 : γ 1 105 0 (4 * ρ 15 + 2) = ρ 26 := m25
  have m26 : γ 0 70 0 (4 * ρ 0 + 3) = ρ 27 := m26
  have m27 : γ 1 105 0 (4 * ρ 15 + 3) = ρ 28 := m27
  obtain ⟨⟨⟨⟨⟨-, c2⟩, c3⟩, c4⟩, c5⟩, -⟩ := hc
  have c2 : γ 2 = rUp (γ 1) 102 0 0 (ρ 23) := c2
  have c3 : γ 3 = rUp (γ 2) 102 0 1 (ρ 20) := c3
  have c4 : γ 4 = rUp (γ 3) 102 0 2 (ρ 26) := c4
  have c5 : γ 5 = rUp (γ 4) 102 0 3 (ρ 28) := c5
  obtain ⟨l0, -⟩ := hl
  have l0 : sn57 [ρ 7, ρ 0, ρ 2, ρ 19, ρ 29, ρ 30, ρ 31, ρ 10, ρ 17] (γ 5) 0 0 (γ 6) := hS57 _ _ _ _ _ l0
  show jn75 [ρ 0, ρ 1, ρ 2, ρ 3, ρ 4, ρ 5, ρ 6, ρ 7, ρ 8, ρ 9, ρ 10, ρ 11, ρ 12, ρ 13, ρ 14] (γ 0) 0 [ρ 0, ρ 1, ρ 2, ρ 3, ρ 4, ρ 5, ρ 6, ρ 7, ρ 8, ρ 9, ρ 10, ρ 11, ρ 12, ρ 13, ρ 14, ρ 15 + 1, ρ 16, ρ 36, ρ 18, ρ 32] (γ 6)
  have hD : en75 (γ 0) (0, [ρ 0, ρ 15], γ 1) = .inl (0, [ρ 0, ρ 15 + 1], γ 6) := by
    unfold en75
    refine (if_pos (show (0 : Nat) = 0 by decide)).trans ?_
    refine (zLet_eq (show _ = γ 1 from rfl)).trans ?_
    refine (zLet_eq (show _ = ρ 0 from rfl)).trans ?_
    refine (zLet_eq (show _ = ρ 15 from rfl)).trans ?_
    refine (zLet_eq m2).trans ?_
    refine (zLet_eq m6).trans ?_
    refine (zLet_eq m15).trans ?_
    refine (zLet_eq m16).trans ?_
    refine (if_neg w_0).trans ?_
    refine (if_neg w_1).trans ?_
    refine (if_pos w_2).trans ?_
    refine (if_neg w_3).trans ?_
    refine (zLet_eq m19).trans ?_
    refine (zLet_eq m20).trans ?_
    refine (if_neg w_4).trans ?_
    refine (zLet_eq m21).trans ?_
    refine (if_pos w_5).trans ?_
    refine (zLet_eq m22).trans ?_
    refine (zLet_eq c2.symm).trans ?_
    refine (if_neg w_6).trans ?_
    refine (zLet_eq m23).trans ?_
    refine (if_neg w_7).trans ?_
    refine (zLet_eq c3.symm).trans ?_
    refine (if_neg w_8).trans ?_
    refine (zLet_eq m24).trans ?_
    refine (if_pos w_9).trans ?_
    refine (zLet_eq m25).trans ?_
    refine (zLet_eq c4.symm).trans ?_
    refine (if_neg w_10).trans ?_
    refine (zLet_eq m26).trans ?_
    refine (if_pos w_11).trans ?_
    refine (zLet_eq m27).trans ?_
    refine (zLet_eq c5.symm).trans ?_
    refine (zLet_eq (show fn57 [ρ 7, ρ 0] (γ 5) = (0, 0, γ 6) from l0.symm)).trans ?_
    refine (zLet_eq (show _ = γ 6 from rfl)).trans ?_
    rfl
  exact zGoo_ato hJ hD
theorem vn75a0_45 {S : Nat → zSpc} (hS57 : ∀ x g o v gz, S 57 x g o v gz → sn57 x g o v gz) (hS73 : ∀ x g o v gz, S 73 x g o v gz → sn73 x g o v gz) {a : List Int} {g : rHp} : ∀ (ρ : Nat → Int) (γ : Nat → rHp), jn75 a g 0 (zAg (zNA a75_ 0) ρ) (γ 1) → zO 15 S a g q75a0_45 ρ γ → zGl (fun i vs g1 => jn75 a g i vs g1) (sn75 a g) q75a0_45 ρ γ := by
  intro ρ γ hJ h
  obtain ⟨ha, hg, hr, hf, hm, hc, hl⟩ := h
  have ha : a = [ρ 0, ρ 1, ρ 2, ρ 3, ρ 4, ρ 5, ρ 6, ρ 7, ρ 8, ρ 9, ρ 10, ρ 11, ρ 12, ρ 13, ρ 14] := ha
  subst ha
  subst hg
  have hJ : jn75 [ρ 0, ρ 1, ρ 2, ρ 3, ρ 4, ρ 5, ρ 6, ρ 7, ρ 8, ρ 9, ρ 10, ρ 11, ρ 12, ρ 13, ρ 14] (γ 0) 0 [ρ 0, ρ 1, ρ 2, ρ 3, ρ 4, ρ 5, ρ 6, ρ 7, ρ 8, ρ 9, ρ 10, ρ 11, ρ 12, ρ 13, ρ 14, ρ 15, ρ 16, ρ 17, ρ 18, ρ 19] (γ 1) := hJ
  obtain ⟨-, -, -, r3, -, -, -, -, -, -, -, -, -, -, -, -, -, r17, -, -, -, r21, r22, -, r24, r25, -, r27, -⟩ := hr
  have r3 : (1 : Int) ≤ ρ 3 ∧ ρ 3 ≤ 1 := r3
  have r17 : (0 : Int) ≤ ρ 17 ∧ ρ 17 ≤ 0 := r17
  have r21 : (4 : Int) ≤ ρ 21 ∧ ρ 21 ≤ 4 := r21
  have r22 : (0 : Int) ≤ ρ 22 ∧ ρ 22 ≤ 2 := r22
  have r24 : (3 : Int) ≤ ρ 24 ∧ ρ 24 ≤ 3 := r24
  have r25 : (0 : Int) ≤ ρ 25 ∧ ρ 25 ≤ 2 := r25
  have r27 : (3 : Int) ≤ ρ 27 ∧ ρ 27 ≤ 3 := r27
  obtain ⟨-, -, -, f3, -⟩ := hf
  have f3 : (0 : Int) ≤ ρ 18 + -ρ 15 + (-1) := f3
  obtain ⟨w_0, w_1, w_2, w_3, w_4, w_5, w_6, w_7, w_8, w_9, w_10, w_11⟩ : (¬ (ρ 15 ≥ ρ 18)) ∧ (¬ (ρ 17 ≠ 0)) ∧ (ρ 3 ≤ 2) ∧ (¬ (ρ 3 ≠ 1)) ∧ (¬ (0 ≥ ρ 21)) ∧ (ρ 22 ≠ 3) ∧ (¬ (1 ≥ ρ 21)) ∧ (¬ (ρ 24 ≠ 3)) ∧ (¬ (2 ≥ ρ 21)) ∧ (ρ 25 ≠ 3) ∧ (¬ (3 ≥ ρ 21)) ∧ (¬ (ρ 27 ≠ 3)) := ⟨by omega, by omega, by omega, by omega, by omega, by omega, by omega, by omega, by omega, by omega, by omega, by omega⟩
  obtain ⟨-, -, m2, -, -, -, m6, -, -, -, -, -, -, -, -, m15, m16, -, -, m19, m20, m21, m22, m23, m24, m25, m26, -⟩ := hm
  have m2 : γ 0 71 0 (ρ 0) = ρ 3 := m2
  have m6 : γ 0 69 0 (ρ 0) = ρ 7 := m6
  have m15 : γ 1 15 0 77 = ρ 17 := m15
  have m16 : γ 1 15 0 90 = ρ 18 := m16
  have m19 : γ 1 106 0 (ρ 15) = ρ 20 := m19
  have m20 : γ 0 66 0 (ρ 7) = ρ 21 := m20
  have m21 : γ 0 70 0 (4 * ρ 0) = ρ 22 := m21
  have m22 : γ 1 105 0 (4 * ρ 15) = ρ 23 := m22
  have m23 : γ 0 70 0 (4 * ρ 0 + 1) = ρ 24 := m23
  have m24 : γ 0 70 0 (4 * ρ 0 + 2) = ρ 25 := m24
  have m25 : γ 1 105 0 (4 * ρ 15 + 2) = ρ 26 := m25
  have m26 : γ 0 70 0 (4 * ρ 0 + 3) = ρ 27 := m26
  obtain ⟨⟨⟨⟨⟨-, c2⟩, c3⟩, c4⟩, c5⟩, -⟩ := hc
  have c2 : γ 2 = rUp (γ 1) 102 0 0 (ρ 23) := c2
  have c3 : γ 3 = rUp (γ 2) 102 0 1 (ρ 20) := c3
  have c4 : γ 4 = rUp (γ 3) 102 0 2 (ρ 26) := c4
  have c5 : γ 5 = rUp (γ 4) 102 0 3 (ρ 20) := c5
  obtain ⟨l0, -⟩ := hl
  have l0 : sn57 [ρ 7, ρ 0, ρ 2, ρ 19, ρ 28, ρ 29, ρ 30, ρ 10, ρ 17] (γ 5) 0 0 (γ 6) := hS57 _ _ _ _ _ l0
  show jn75 [ρ 0, ρ 1, ρ 2, ρ 3, ρ 4, ρ 5, ρ 6, ρ 7, ρ 8, ρ 9, ρ 10, ρ 11, ρ 12, ρ 13, ρ 14] (γ 0) 0 [ρ 0, ρ 1, ρ 2, ρ 3, ρ 4, ρ 5, ρ 6, ρ 7, ρ 8, ρ 9, ρ 10, ρ 11, ρ 12, ρ 13, ρ 14, ρ 15 + 1, ρ 16, ρ 35, ρ 18, ρ 31] (γ 6)
  have hD : en75 (γ 0) (0, [ρ 0, ρ 15], γ 1) = .inl (0, [ρ 0, ρ 15 + 1], γ 6) := by
    unfold en75
    refine (if_pos (show (0 : Nat) = 0 by decide)).trans ?_
    refine (zLet_eq (show _ = γ 1 from rfl)).trans ?_
    refine (zLet_eq (show _ = ρ 0 from rfl)).trans ?_
    refine (zLet_eq (show _ = ρ 15 from rfl)).trans ?_
    refine (zLet_eq m2).trans ?_
    refine (zLet_eq m6).trans ?_
    refine (zLet_eq m15).trans ?_
    refine (zLet_eq m16).trans ?_
    refine (if_neg w_0).trans ?_
    refine (if_neg w_1).trans ?_
    refine (if_pos w_2).trans ?_
    refine (if_neg w_3).trans ?_
    refine (zLet_eq m19).trans ?_
    refine (zLet_eq m20).trans ?_
    refine (if_neg w_4).trans ?_
    refine (zLet_eq m21).trans ?_
    refine (if_pos w_5).trans ?_
    refine (zLet_eq m22).trans ?_
    refine (zLet_eq c2.symm).trans ?_
    refine (if_neg w_6).trans ?_
    refine (zLet_eq m23).trans ?_
    refine (if_neg w_7).trans ?_
    refine (zLet_eq c3.symm).trans ?_
    refine (if_neg w_8).trans ?_
    refine (zLet_eq m24).trans ?_
    refine (if_pos w_9).trans ?_
    refine (zLet_eq m25).trans ?_
    refine (zLet_eq c4.symm).trans ?_
    refine (if_neg w_10).trans ?_
    refine (zLet_eq m26).trans ?_
    refine (if_neg w_11).trans ?_
    refine (zLet_eq c5.symm).trans ?_
    refine (zLet_eq (show fn57 [ρ 7, ρ 0] (γ 5) = (0, 0, γ 6) from l0.symm)).trans ?_
    refine (zLet_eq (show _ = γ 6 from rfl)).trans ?_
    rfl
  exact zGoo_ato hJ hD
theorem vn75a0_46 {S : Nat → zSpc} (hS57 : ∀ x g o v gz, S 57 x g o v gz → sn57 x g o v gz) (hS73 : ∀ x g o v gz, S 73 x g o v gz → sn73 x g o v gz) {a : List Int} {g : rHp} : ∀ (ρ : Nat → Int) (γ : Nat → rHp), jn75 a g 0 (zAg (zNA a75_ 0) ρ) (γ 1) → zO 15 S a g q75a0_46 ρ γ → zGl (fun i vs g1 => jn75 a g i vs g1) (sn75 a g) q75a0_46 ρ γ := by
  intro ρ γ hJ h
  obtain ⟨ha, hg, hr, hf, hm, hc, hl⟩ := h
  have ha : a = [ρ 0, ρ 1, ρ 2, ρ 3, ρ 4, ρ 5, ρ 6, ρ 7, ρ 8, ρ 9, ρ 10, ρ 11, ρ 12, ρ 13, ρ 14] := ha
  subst ha
  subst hg
  have hJ : jn75 [ρ 0, ρ 1, ρ 2, ρ 3, ρ 4, ρ 5, ρ 6, ρ 7, ρ 8, ρ 9, ρ 10, ρ 11, ρ 12, ρ 13, ρ 14] (γ 0) 0 [ρ 0, ρ 1, ρ 2, ρ 3, ρ 4, ρ 5, ρ 6, ρ 7, ρ 8, ρ 9, ρ 10, ρ 11, ρ 12, ρ 13, ρ 14, ρ 15, ρ 16, ρ 17, ρ 18, ρ 19] (γ 1) := hJ
  obtain ⟨-, -, -, r3, -, -, -, -, -, -, -, -, -, -, -, -, -, r17, -, -, -, r21, r22, -, r24, r25, -⟩ := hr
  have r3 : (1 : Int) ≤ ρ 3 ∧ ρ 3 ≤ 1 := r3
  have r17 : (0 : Int) ≤ ρ 17 ∧ ρ 17 ≤ 0 := r17
  have r21 : (3 : Int) ≤ ρ 21 ∧ ρ 21 ≤ 3 := r21
  have r22 : (0 : Int) ≤ ρ 22 ∧ ρ 22 ≤ 2 := r22
  have r24 : (3 : Int) ≤ ρ 24 ∧ ρ 24 ≤ 3 := r24
  have r25 : (3 : Int) ≤ ρ 25 ∧ ρ 25 ≤ 3 := r25
  obtain ⟨-, -, -, f3, -⟩ := hf
  have f3 : (0 : Int) ≤ ρ 18 + -ρ 15 + (-1) := f3
  obtain ⟨w_0, w_1, w_2, w_3, w_4, w_5, w_6, w_7, w_8, w_9, w_10⟩ : (¬ (ρ 15 ≥ ρ 18)) ∧ (¬ (ρ 17 ≠ 0)) ∧ (ρ 3 ≤ 2) ∧ (¬ (ρ 3 ≠ 1)) ∧ (¬ (0 ≥ ρ 21)) ∧ (ρ 22 ≠ 3) ∧ (¬ (1 ≥ ρ 21)) ∧ (¬ (ρ 24 ≠ 3)) ∧ (¬ (2 ≥ ρ 21)) ∧ (¬ (ρ 25 ≠ 3)) ∧ (3 ≥ ρ 21) := ⟨by omega, by omega, by omega, by omega, by omega, by omega, by omega, by omega, by omega, by omega, by omega⟩
  obtain ⟨-, -, m2, -, -, -, m6, -, -, -, -, -, -, -, -, m15, m16, -, -, m19, m20, m21, m22, m23, m24, m25, -⟩ := hm
  have m2 : γ 0 71 0 (ρ 0) = ρ 3 := m2
  have m6 : γ 0 69 0 (ρ 0) = ρ 7 := m6
  have m15 : γ 1 15 0 77 = ρ 17 := m15
  have m16 : γ 1 15 0 90 = ρ 18 := m16
  have m19 : γ 1 106 0 (ρ 15) = ρ 20 := m19
  have m20 : γ 0 66 0 (ρ 7) = ρ 21 := m20
  have m21 : γ 0 70 0 (4 * ρ 0) = ρ 22 := m21
  have m22 : γ 1 105 0 (4 * ρ 15) = ρ 23 := m22
  have m23 : γ 0 70 0 (4 * ρ 0 + 1) = ρ 24 := m23
  have m24 : γ 0 70 0 (4 * ρ 0 + 2) = ρ 25 := m24
  have m25 : γ 1 105 0 (4 * ρ 15 + 3) = ρ 26 := m25
  obtain ⟨⟨⟨⟨⟨-, c2⟩, c3⟩, c4⟩, c5⟩, -⟩ := hc
  have c2 : γ 2 = rUp (γ 1) 102 0 0 (ρ 23) := c2
  have c3 : γ 3 = rUp (γ 2) 102 0 1 (ρ 20) := c3
  have c4 : γ 4 = rUp (γ 3) 102 0 2 (ρ 20) := c4
  have c5 : γ 5 = rUp (γ 4) 102 0 3 (ρ 26) := c5
  obtain ⟨l0, -⟩ := hl
  have l0 : sn57 [ρ 7, ρ 0, ρ 2, ρ 19, ρ 27, ρ 28, ρ 29, ρ 10, ρ 17] (γ 5) 0 0 (γ 6) := hS57 _ _ _ _ _ l0
  show jn75 [ρ 0, ρ 1, ρ 2, ρ 3, ρ 4, ρ 5, ρ 6, ρ 7, ρ 8, ρ 9, ρ 10, ρ 11, ρ 12, ρ 13, ρ 14] (γ 0) 0 [ρ 0, ρ 1, ρ 2, ρ 3, ρ 4, ρ 5, ρ 6, ρ 7, ρ 8, ρ 9, ρ 10, ρ 11, ρ 12, ρ 13, ρ 14, ρ 15 + 1, ρ 16, ρ 34, ρ 18, ρ 30] (γ 6)
  have hD : en75 (γ 0) (0, [ρ 0, ρ 15], γ 1) = .inl (0, [ρ 0, ρ 15 + 1], γ 6) := by
    unfold en75
    refine (if_pos (show (0 : Nat) = 0 by decide)).trans ?_
    refine (zLet_eq (show _ = γ 1 from rfl)).trans ?_
    refine (zLet_eq (show _ = ρ 0 from rfl)).trans ?_
    refine (zLet_eq (show _ = ρ 15 from rfl)).trans ?_
    refine (zLet_eq m2).trans ?_
    refine (zLet_eq m6).trans ?_
    refine (zLet_eq m15).trans ?_
    refine (zLet_eq m16).trans ?_
    refine (if_neg w_0).trans ?_
    refine (if_neg w_1).trans ?_
    refine (if_pos w_2).trans ?_
    refine (if_neg w_3).trans ?_
    refine (zLet_eq m19).trans ?_
    refine (zLet_eq m20).trans ?_
    refine (if_neg w_4).trans ?_
    refine (zLet_eq m21).trans ?_
    refine (if_pos w_5).trans ?_
    refine (zLet_eq m22).trans ?_
    refine (zLet_eq c2.symm).trans ?_
    refine (if_neg w_6).trans ?_
    refine (zLet_eq m23).trans ?_
    refine (if_neg w_7).trans ?_
    refine (zLet_eq c3.symm).trans ?_
    refine (if_neg w_8).trans ?_
    refine (zLet_eq m24).trans ?_
    refine (if_neg w_9).trans ?_
    refine (zLet_eq c4.symm).trans ?_
    refine (if_pos w_10).trans ?_
    refine (zLet_eq m25).trans ?_
    refine (zLet_eq c5.symm).trans ?_
    refine (zLet_eq (show fn57 [ρ 7, ρ 0] (γ 5) = (0, 0, γ 6) from l0.symm)).trans ?_
    refine (zLet_eq (show _ = γ 6 from rfl)).trans ?_
    rfl
  exact zGoo_ato hJ hD
theorem vn75a0_47 {S : Nat → zSpc} (hS57 : ∀ x g o v gz, S 57 x g o v gz → sn57 x g o v gz) (hS73 : ∀ x g o v gz, S 73 x g o v gz → sn73 x g o v gz) {a : List Int} {g : rHp} : ∀ (ρ : Nat → Int) (γ : Nat → rHp), jn75 a g 0 (zAg (zNA a75_ 0) ρ) (γ 1) → zO 15 S a g q75a0_47 ρ γ → zGl (fun i vs g1 => jn75 a g i vs g1) (sn75 a g) q75a0_47 ρ γ := by
  intro ρ γ hJ h
  obtain ⟨ha, hg, hr, hf, hm, hc, hl⟩ := h
  have ha : a = [ρ 0, ρ 1, ρ 2, ρ 3, ρ 4, ρ 5, ρ 6, ρ 7, ρ 8, ρ 9, ρ 10, ρ 11, ρ 12, ρ 13, ρ 14] := ha
  subst ha
  subst hg
  have hJ : jn75 [ρ 0, ρ 1, ρ 2, ρ 3, ρ 4, ρ 5, ρ 6, ρ 7, ρ 8, ρ 9, ρ 10, ρ 11, ρ 12, ρ 13, ρ 14] (γ 0) 0 [ρ 0, ρ 1, ρ 2, ρ 3, ρ 4, ρ 5, ρ 6, ρ 7, ρ 8, ρ 9, ρ 10, ρ 11, ρ 12, ρ 13, ρ 14, ρ 15, ρ 16, ρ 17, ρ 18, ρ 19] (γ 1) := hJ
  obtain ⟨-, -, -, r3, -, -, -, -, -, -, -, -, -, -, -, -, -, r17, -, -, -, r21, r22, -, r24, r25, r26, -⟩ := hr
  have r3 : (1 : Int) ≤ ρ 3 ∧ ρ 3 ≤ 1 := r3
  have r17 : (0 : Int) ≤ ρ 17 ∧ ρ 17 ≤ 0 := r17
  have r21 : (4 : Int) ≤ ρ 21 ∧ ρ 21 ≤ 4 := r21
  have r22 : (0 : Int) ≤ ρ 22 ∧ ρ 22 ≤ 2 := r22
  have r24 : (3 : Int) ≤ ρ 24 ∧ ρ 24 ≤ 3 := r24
  have r25 : (3 : Int) ≤ ρ 25 ∧ ρ 25 ≤ 3 := r25
  have r26 : (0 : Int) ≤ ρ 26 ∧ ρ 26 ≤ 2 := r26
  obtain ⟨-, -, -, f3, -⟩ := hf
  have f3 : (0 : Int) ≤ ρ 18 + -ρ 15 + (-1) := f3
  obtain ⟨w_0, w_1, w_2, w_3, w_4, w_5, w_6, w_7, w_8, w_9, w_10, w_11⟩ : (¬ (ρ 15 ≥ ρ 18)) ∧ (¬ (ρ 17 ≠ 0)) ∧ (ρ 3 ≤ 2) ∧ (¬ (ρ 3 ≠ 1)) ∧ (¬ (0 ≥ ρ 21)) ∧ (ρ 22 ≠ 3) ∧ (¬ (1 ≥ ρ 21)) ∧ (¬ (ρ 24 ≠ 3)) ∧ (¬ (2 ≥ ρ 21)) ∧ (¬ (ρ 25 ≠ 3)) ∧ (¬ (3 ≥ ρ 21)) ∧ (ρ 26 ≠ 3) := ⟨by omega, by omega, by omega, by omega, by omega, by omega, by omega, by omega, by omega, by omega, by omega, by omega⟩
  obtain ⟨-, -, m2, -, -, -, m6, -, -, -, -, -, -, -, -, m15, m16, -, -, m19, m20, m21, m22, m23, m24, m25, m26, -⟩ := hm
  have m2 : γ 0 71 0 (ρ 0) = ρ 3 := m2
  have m6 : γ 0 69 0 (ρ 0) = ρ 7 := m6
  have m15 : γ 1 15 0 77 = ρ 17 := m15
  have m16 : γ 1 15 0 90 = ρ 18 := m16
  have m19 : γ 1 106 0 (ρ 15) = ρ 20 := m19
  have m20 : γ 0 66 0 (ρ 7) = ρ 21 := m20
  have m21 : γ 0 70 0 (4 * ρ 0) = ρ 22 := m21
  have m22 : γ 1 105 0 (4 * ρ 15) = ρ 23 := m22
  have m23 : γ 0 70 0 (4 * ρ 0 + 1) = ρ 24 := m23
  have m24 : γ 0 70 0 (4 * ρ 0 + 2) = ρ 25 := m24
  have m25 : γ 0 70 0 (4 * ρ 0 + 3) = ρ 26 := m25
  have m26 : γ 1 105 0 (4 * ρ 15 + 3) = ρ 27 := m26
  obtain ⟨⟨⟨⟨⟨-, c2⟩, c3⟩, c4⟩, c5⟩, -⟩ := hc
  have c2 : γ 2 = rUp (γ 1) 102 0 0 (ρ 23) := c2
  have c3 : γ 3 = rUp (γ 2) 102 0 1 (ρ 20) := c3
  have c4 : γ 4 = rUp (γ 3) 102 0 2 (ρ 20) := c4
  have c5 : γ 5 = rUp (γ 4) 102 0 3 (ρ 27) := c5
  obtain ⟨l0, -⟩ := hl
  have l0 : sn57 [ρ 7, ρ 0, ρ 2, ρ 19, ρ 28, ρ 29, ρ 30, ρ 10, ρ 17] (γ 5) 0 0 (γ 6) := hS57 _ _ _ _ _ l0
  show jn75 [ρ 0, ρ 1, ρ 2, ρ 3, ρ 4, ρ 5, ρ 6, ρ 7, ρ 8, ρ 9, ρ 10, ρ 11, ρ 12, ρ 13, ρ 14] (γ 0) 0 [ρ 0, ρ 1, ρ 2, ρ 3, ρ 4, ρ 5, ρ 6, ρ 7, ρ 8, ρ 9, ρ 10, ρ 11, ρ 12, ρ 13, ρ 14, ρ 15 + 1, ρ 16, ρ 35, ρ 18, ρ 31] (γ 6)
  have hD : en75 (γ 0) (0, [ρ 0, ρ 15], γ 1) = .inl (0, [ρ 0, ρ 15 + 1], γ 6) := by
    unfold en75
    refine (if_pos (show (0 : Nat) = 0 by decide)).trans ?_
    refine (zLet_eq (show _ = γ 1 from rfl)).trans ?_
    refine (zLet_eq (show _ = ρ 0 from rfl)).trans ?_
    refine (zLet_eq (show _ = ρ 15 from rfl)).trans ?_
    refine (zLet_eq m2).trans ?_
    refine (zLet_eq m6).trans ?_
    refine (zLet_eq m15).trans ?_
    refine (zLet_eq m16).trans ?_
    refine (if_neg w_0).trans ?_
    refine (if_neg w_1).trans ?_
    refine (if_pos w_2).trans ?_
    refine (if_neg w_3).trans ?_
    refine (zLet_eq m19).trans ?_
    refine (zLet_eq m20).trans ?_
    refine (if_neg w_4).trans ?_
    refine (zLet_eq m21).trans ?_
    refine (if_pos w_5).trans ?_
    refine (zLet_eq m22).trans ?_
    refine (zLet_eq c2.symm).trans ?_
    refine (if_neg w_6).trans ?_
    refine (zLet_eq m23).trans ?_
    refine (if_neg w_7).trans ?_
    refine (zLet_eq c3.symm).trans ?_
    refine (if_neg w_8).trans ?_
    refine (zLet_eq m24).trans ?_
    refine (if_neg w_9).trans ?_
    refine (zLet_eq c4.symm).trans ?_
    refine (if_neg w_10).trans ?_
    refine (zLet_eq m25).trans ?_
    refine (if_pos w_11).trans ?_
    refine (zLet_eq m26).trans ?_
    refine (zLet_eq c5.symm).trans ?_
    refine (zLet_eq (show fn57 [ρ 7, ρ 0] (γ 5) = (0, 0, γ 6) from l0.symm)).trans ?_
    refine (zLet_eq (show _ = γ 6 from rfl)).trans ?_
    rfl
  exact zGoo_ato hJ hD
theorem vn75a0_48 {S : Nat → zSpc} (hS57 : ∀ x g o v gz, S 57 x g o v gz → sn57 x g o v gz) (hS73 : ∀ x g o v gz, S 73 x g o v gz → sn73 x g o v gz) {a : List Int} {g : rHp} : ∀ (ρ : Nat → Int) (γ : Nat → rHp), jn75 a g 0 (zAg (zNA a75_ 0) ρ) (γ 1) → zO 15 S a g q75a0_48 ρ γ → zGl (fun i vs g1 => jn75 a g i vs g1) (sn75 a g) q75a0_48 ρ γ := by
  intro ρ γ hJ h
  obtain ⟨ha, hg, hr, hf, hm, hc, hl⟩ := h
  have ha : a = [ρ 0, ρ 1, ρ 2, ρ 3, ρ 4, ρ 5, ρ 6, ρ 7, ρ 8, ρ 9, ρ 10, ρ 11, ρ 12, ρ 13, ρ 14] := ha
  subst ha
  subst hg
  have hJ : jn75 [ρ 0, ρ 1, ρ 2, ρ 3, ρ 4, ρ 5, ρ 6, ρ 7, ρ 8, ρ 9, ρ 10, ρ 11, ρ 12, ρ 13, ρ 14] (γ 0) 0 [ρ 0, ρ 1, ρ 2, ρ 3, ρ 4, ρ 5, ρ 6, ρ 7, ρ 8, ρ 9, ρ 10, ρ 11, ρ 12, ρ 13, ρ 14, ρ 15, ρ 16, ρ 17, ρ 18, ρ 19] (γ 1) := hJ
  obtain ⟨-, -, -, r3, -, -, -, -, -, -, -, -, -, -, -, -, -, r17, -, -, -, r21, r22, -, r24, r25, r26, -⟩ := hr
  have r3 : (1 : Int) ≤ ρ 3 ∧ ρ 3 ≤ 1 := r3
  have r17 : (0 : Int) ≤ ρ 17 ∧ ρ 17 ≤ 0 := r17
  have r21 : (4 : Int) ≤ ρ 21 ∧ ρ 21 ≤ 4 := r21
  have r22 : (0 : Int) ≤ ρ 22 ∧ ρ 22 ≤ 2 := r22
  have r24 : (3 : Int) ≤ ρ 24 ∧ ρ 24 ≤ 3 := r24
  have r25 : (3 : Int) ≤ ρ 25 ∧ ρ 25 ≤ 3 := r25
  have r26 : (3 : Int) ≤ ρ 26 ∧ ρ 26 ≤ 3 := r26
  obtain ⟨-, -, -, f3, -⟩ := hf
  have f3 : (0 : Int) ≤ ρ 18 + -ρ 15 + (-1) := f3
  obtain ⟨w_0, w_1, w_2, w_3, w_4, w_5, w_6, w_7, w_8, w_9, w_10, w_11⟩ : (¬ (ρ 15 ≥ ρ 18)) ∧ (¬ (ρ 17 ≠ 0)) ∧ (ρ 3 ≤ 2) ∧ (¬ (ρ 3 ≠ 1)) ∧ (¬ (0 ≥ ρ 21)) ∧ (ρ 22 ≠ 3) ∧ (¬ (1 ≥ ρ 21)) ∧ (¬ (ρ 24 ≠ 3)) ∧ (¬ (2 ≥ ρ 21)) ∧ (¬ (ρ 25 ≠ 3)) ∧ (¬ (3 ≥ ρ 21)) ∧ (¬ (ρ 26 ≠ 3)) := ⟨by omega, by omega, by omega, by omega, by omega, by omega, by omega, by omega, by omega, by omega, by omega, by omega⟩
  obtain ⟨-, -, m2, -, -, -, m6, -, -, -, -, -, -, -, -, m15, m16, -, -, m19, m20, m21, m22, m23, m24, m25, -⟩ := hm
  have m2 : γ 0 71 0 (ρ 0) = ρ 3 := m2
  have m6 : γ 0 69 0 (ρ 0) = ρ 7 := m6
  have m15 : γ 1 15 0 77 = ρ 17 := m15
  have m16 : γ 1 15 0 90 = ρ 18 := m16
  have m19 : γ 1 106 0 (ρ 15) = ρ 20 := m19
  have m20 : γ 0 66 0 (ρ 7) = ρ 21 := m20
  have m21 : γ 0 70 0 (4 * ρ 0) = ρ 22 := m21
  have m22 : γ 1 105 0 (4 * ρ 15) = ρ 23 := m22
  have m23 : γ 0 70 0 (4 * ρ 0 + 1) = ρ 24 := m23
  have m24 : γ 0 70 0 (4 * ρ 0 + 2) = ρ 25 := m24
  have m25 : γ 0 70 0 (4 * ρ 0 + 3) = ρ 26 := m25
  obtain ⟨⟨⟨⟨⟨-, c2⟩, c3⟩, c4⟩, c5⟩, -⟩ := hc
  have c2 : γ 2 = rUp (γ 1) 102 0 0 (ρ 23) := c2
  have c3 : γ 3 = rUp (γ 2) 102 0 1 (ρ 20) := c3
  have c4 : γ 4 = rUp (γ 3) 102 0 2 (ρ 20) := c4
  have c5 : γ 5 = rUp (γ 4) 102 0 3 (ρ 20) := c5
  obtain ⟨l0, -⟩ := hl
  have l0 : sn57 [ρ 7, ρ 0, ρ 2, ρ 19, ρ 27, ρ 28, ρ 29, ρ 10, ρ 17] (γ 5) 0 0 (γ 6) := hS57 _ _ _ _ _ l0
  show jn75 [ρ 0, ρ 1, ρ 2, ρ 3, ρ 4, ρ 5, ρ 6, ρ 7, ρ 8, ρ 9, ρ 10, ρ 11, ρ 12, ρ 13, ρ 14] (γ 0) 0 [ρ 0, ρ 1, ρ 2, ρ 3, ρ 4, ρ 5, ρ 6, ρ 7, ρ 8, ρ 9, ρ 10, ρ 11, ρ 12, ρ 13, ρ 14, ρ 15 + 1, ρ 16, ρ 34, ρ 18, ρ 30] (γ 6)
  have hD : en75 (γ 0) (0, [ρ 0, ρ 15], γ 1) = .inl (0, [ρ 0, ρ 15 + 1], γ 6) := by
    unfold en75
    refine (if_pos (show (0 : Nat) = 0 by decide)).trans ?_
    refine (zLet_eq (show _ = γ 1 from rfl)).trans ?_
    refine (zLet_eq (show _ = ρ 0 from rfl)).trans ?_
    refine (zLet_eq (show _ = ρ 15 from rfl)).trans ?_
    refine (zLet_eq m2).trans ?_
    refine (zLet_eq m6).trans ?_
    refine (zLet_eq m15).trans ?_
    refine (zLet_eq m16).trans ?_
    refine (if_neg w_0).trans ?_
    refine (if_neg w_1).trans ?_
    refine (if_pos w_2).trans ?_
    refine (if_neg w_3).trans ?_
    refine (zLet_eq m19).trans ?_
    refine (zLet_eq m20).trans ?_
    refine (if_neg w_4).trans ?_
    refine (zLet_eq m21).trans ?_
    refine (if_pos w_5).trans ?_
    refine (zLet_eq m22).trans ?_
    refine (zLet_eq c2.symm).trans ?_
    refine (if_neg w_6).trans ?_
    refine (zLet_eq m23).trans ?_
    refine (if_neg w_7).trans ?_
    refine (zLet_eq c3.symm).trans ?_
    refine (if_neg w_8).trans ?_
    refine (zLet_eq m24).trans ?_
    refine (if_neg w_9).trans ?_
    refine (zLet_eq c4.symm).trans ?_
    refine (if_neg w_10).trans ?_
    refine (zLet_eq m25).trans ?_
    refine (if_neg w_11).trans ?_
    refine (zLet_eq c5.symm).trans ?_
    refine (zLet_eq (show fn57 [ρ 7, ρ 0] (γ 5) = (0, 0, γ 6) from l0.symm)).trans ?_
    refine (zLet_eq (show _ = γ 6 from rfl)).trans ?_
    rfl
  exact zGoo_ato hJ hD
theorem vn75a0_49 {S : Nat → zSpc} (hS57 : ∀ x g o v gz, S 57 x g o v gz → sn57 x g o v gz) (hS73 : ∀ x g o v gz, S 73 x g o v gz → sn73 x g o v gz) {a : List Int} {g : rHp} : ∀ (ρ : Nat → Int) (γ : Nat → rHp), jn75 a g 0 (zAg (zNA a75_ 0) ρ) (γ 1) → zO 15 S a g q75a0_49 ρ γ → zGl (fun i vs g1 => jn75 a g i vs g1) (sn75 a g) q75a0_49 ρ γ := by
  intro ρ γ hJ h
  obtain ⟨ha, hg, hr, hf, hm, hc, hl⟩ := h
  have ha : a = [ρ 0, ρ 1, ρ 2, ρ 3, ρ 4, ρ 5, ρ 6, ρ 7, ρ 8, ρ 9, ρ 10, ρ 11, ρ 12, ρ 13, ρ 14] := ha
  subst ha
  subst hg
  have hJ : jn75 [ρ 0, ρ 1, ρ 2, ρ 3, ρ 4, ρ 5, ρ 6, ρ 7, ρ 8, ρ 9, ρ 10, ρ 11, ρ 12, ρ 13, ρ 14] (γ 0) 0 [ρ 0, ρ 1, ρ 2, ρ 3, ρ 4, ρ 5, ρ 6, ρ 7, ρ 8, ρ 9, ρ 10, ρ 11, ρ 12, ρ 13, ρ 14, ρ 15, ρ 16, ρ 17, ρ 18, ρ 19] (γ 1) := hJ
  obtain ⟨-, -, -, r3, -, -, -, -, -, -, -, -, -, -, -, -, -, r17, -, -, -, r21, r22, -⟩ := hr
  have r3 : (1 : Int) ≤ ρ 3 ∧ ρ 3 ≤ 1 := r3
  have r17 : (0 : Int) ≤ ρ 17 ∧ ρ 17 ≤ 0 := r17
  have r21 : (1 : Int) ≤ ρ 21 ∧ ρ 21 ≤ 1 := r21
  have r22 : (3 : Int) ≤ ρ 22 ∧ ρ 22 ≤ 3 := r22
  obtain ⟨-, -, -, f3, -⟩ := hf
  have f3 : (0 : Int) ≤ ρ 18 + -ρ 15 + (-1) := f3
  obtain ⟨w_0, w_1, w_2, w_3, w_4, w_5, w_6⟩ : (¬ (ρ 15 ≥ ρ 18)) ∧ (¬ (ρ 17 ≠ 0)) ∧ (ρ 3 ≤ 2) ∧ (¬ (ρ 3 ≠ 1)) ∧ (¬ (0 ≥ ρ 21)) ∧ (¬ (ρ 22 ≠ 3)) ∧ (1 ≥ ρ 21) := ⟨by omega, by omega, by omega, by omega, by omega, by omega, by omega⟩
  obtain ⟨-, -, m2, -, -, -, m6, -, -, -, -, -, -, -, -, m15, m16, -, -, m19, m20, m21, m22, m23, m24, -⟩ := hm
  have m2 : γ 0 71 0 (ρ 0) = ρ 3 := m2
  have m6 : γ 0 69 0 (ρ 0) = ρ 7 := m6
  have m15 : γ 1 15 0 77 = ρ 17 := m15
  have m16 : γ 1 15 0 90 = ρ 18 := m16
  have m19 : γ 1 106 0 (ρ 15) = ρ 20 := m19
  have m20 : γ 0 66 0 (ρ 7) = ρ 21 := m20
  have m21 : γ 0 70 0 (4 * ρ 0) = ρ 22 := m21
  have m22 : γ 1 105 0 (4 * ρ 15 + 1) = ρ 23 := m22
  have m23 : γ 1 105 0 (4 * ρ 15 + 2) = ρ 24 := m23
  have m24 : γ 1 105 0 (4 * ρ 15 + 3) = ρ 25 := m24
  obtain ⟨⟨⟨⟨⟨-, c2⟩, c3⟩, c4⟩, c5⟩, -⟩ := hc
  have c2 : γ 2 = rUp (γ 1) 102 0 0 (ρ 20) := c2
  have c3 : γ 3 = rUp (γ 2) 102 0 1 (ρ 23) := c3
  have c4 : γ 4 = rUp (γ 3) 102 0 2 (ρ 24) := c4
  have c5 : γ 5 = rUp (γ 4) 102 0 3 (ρ 25) := c5
  obtain ⟨l0, -⟩ := hl
  have l0 : sn57 [ρ 7, ρ 0, ρ 2, ρ 19, ρ 26, ρ 27, ρ 28, ρ 10, ρ 17] (γ 5) 0 0 (γ 6) := hS57 _ _ _ _ _ l0
  show jn75 [ρ 0, ρ 1, ρ 2, ρ 3, ρ 4, ρ 5, ρ 6, ρ 7, ρ 8, ρ 9, ρ 10, ρ 11, ρ 12, ρ 13, ρ 14] (γ 0) 0 [ρ 0, ρ 1, ρ 2, ρ 3, ρ 4, ρ 5, ρ 6, ρ 7, ρ 8, ρ 9, ρ 10, ρ 11, ρ 12, ρ 13, ρ 14, ρ 15 + 1, ρ 16, ρ 33, ρ 18, ρ 29] (γ 6)
  have hD : en75 (γ 0) (0, [ρ 0, ρ 15], γ 1) = .inl (0, [ρ 0, ρ 15 + 1], γ 6) := by
    unfold en75
    refine (if_pos (show (0 : Nat) = 0 by decide)).trans ?_
    refine (zLet_eq (show _ = γ 1 from rfl)).trans ?_
    refine (zLet_eq (show _ = ρ 0 from rfl)).trans ?_
    refine (zLet_eq (show _ = ρ 15 from rfl)).trans ?_
    refine (zLet_eq m2).trans ?_
    refine (zLet_eq m6).trans ?_
    refine (zLet_eq m15).trans ?_
    refine (zLet_eq m16).trans ?_
    refine (if_neg w_0).trans ?_
    refine (if_neg w_1).trans ?_
    refine (if_pos w_2).trans ?_
    refine (if_neg w_3).trans ?_
    refine (zLet_eq m19).trans ?_
    refine (zLet_eq m20).trans ?_
    refine (if_neg w_4).trans ?_
    refine (zLet_eq m21).trans ?_
    refine (if_neg w_5).trans ?_
    refine (zLet_eq c2.symm).trans ?_
    refine (if_pos w_6).trans ?_
    refine (zLet_eq m22).trans ?_
    refine (zLet_eq c3.symm).trans ?_
    refine (zLet_eq m23).trans ?_
    refine (zLet_eq c4.symm).trans ?_
    refine (zLet_eq m24).trans ?_
    refine (zLet_eq c5.symm).trans ?_
    refine (zLet_eq (show fn57 [ρ 7, ρ 0] (γ 5) = (0, 0, γ 6) from l0.symm)).trans ?_
    refine (zLet_eq (show _ = γ 6 from rfl)).trans ?_
    rfl
  exact zGoo_ato hJ hD
theorem vn75a0_50 {S : Nat → zSpc} (hS57 : ∀ x g o v gz, S 57 x g o v gz → sn57 x g o v gz) (hS73 : ∀ x g o v gz, S 73 x g o v gz → sn73 x g o v gz) {a : List Int} {g : rHp} : ∀ (ρ : Nat → Int) (γ : Nat → rHp), jn75 a g 0 (zAg (zNA a75_ 0) ρ) (γ 1) → zO 15 S a g q75a0_50 ρ γ → zGl (fun i vs g1 => jn75 a g i vs g1) (sn75 a g) q75a0_50 ρ γ := by
  intro ρ γ hJ h
  obtain ⟨ha, hg, hr, hf, hm, hc, hl⟩ := h
  have ha : a = [ρ 0, ρ 1, ρ 2, ρ 3, ρ 4, ρ 5, ρ 6, ρ 7, ρ 8, ρ 9, ρ 10, ρ 11, ρ 12, ρ 13, ρ 14] := ha
  subst ha
  subst hg
  have hJ : jn75 [ρ 0, ρ 1, ρ 2, ρ 3, ρ 4, ρ 5, ρ 6, ρ 7, ρ 8, ρ 9, ρ 10, ρ 11, ρ 12, ρ 13, ρ 14] (γ 0) 0 [ρ 0, ρ 1, ρ 2, ρ 3, ρ 4, ρ 5, ρ 6, ρ 7, ρ 8, ρ 9, ρ 10, ρ 11, ρ 12, ρ 13, ρ 14, ρ 15, ρ 16, ρ 17, ρ 18, ρ 19] (γ 1) := hJ
  obtain ⟨-, -, -, r3, -, -, -, -, -, -, -, -, -, -, -, -, -, r17, -, -, -, r21, r22, r23, -⟩ := hr
  have r3 : (1 : Int) ≤ ρ 3 ∧ ρ 3 ≤ 1 := r3
  have r17 : (0 : Int) ≤ ρ 17 ∧ ρ 17 ≤ 0 := r17
  have r21 : (2 : Int) ≤ ρ 21 ∧ ρ 21 ≤ 2 := r21
  have r22 : (3 : Int) ≤ ρ 22 ∧ ρ 22 ≤ 3 := r22
  have r23 : (0 : Int) ≤ ρ 23 ∧ ρ 23 ≤ 2 := r23
  obtain ⟨-, -, -, f3, -⟩ := hf
  have f3 : (0 : Int) ≤ ρ 18 + -ρ 15 + (-1) := f3
  obtain ⟨w_0, w_1, w_2, w_3, w_4, w_5, w_6, w_7, w_8⟩ : (¬ (ρ 15 ≥ ρ 18)) ∧ (¬ (ρ 17 ≠ 0)) ∧ (ρ 3 ≤ 2) ∧ (¬ (ρ 3 ≠ 1)) ∧ (¬ (0 ≥ ρ 21)) ∧ (¬ (ρ 22 ≠ 3)) ∧ (¬ (1 ≥ ρ 21)) ∧ (ρ 23 ≠ 3) ∧ (2 ≥ ρ 21) := ⟨by omega, by omega, by omega, by omega, by omega, by omega, by omega, by omega, by omega⟩
  obtain ⟨-, -, m2, -, -, -, m6, -, -, -, -, -, -, -, -, m15, m16, -, -, m19, m20, m21, m22, m23, m24, m25, -⟩ := hm
  have m2 : γ 0 71 0 (ρ 0) = ρ 3 := m2
  have m6 : γ 0 69 0 (ρ 0) = ρ 7 := m6
  have m15 : γ 1 15 0 77 = ρ 17 := m15
  have m16 : γ 1 15 0 90 = ρ 18 := m16
  have m19 : γ 1 106 0 (ρ 15) = ρ 20 := m19
  have m20 : γ 0 66 0 (ρ 7) = ρ 21 := m20
  have m21 : γ 0 70 0 (4 * ρ 0) = ρ 22 := m21
  have m22 : γ 0 70 0 (4 * ρ 0 + 1) = ρ 23 := m22
  have m23 : γ 1 105 0 (4 * ρ 15 + 1) = ρ 24 := m23
  have m24 : γ 1 105 0 (4 * ρ 15 + 2) = ρ 25 := m24
  have m25 : γ 1 105 0 (4 * ρ 15 + 3) = ρ 26 := m25
  obtain ⟨⟨⟨⟨⟨-, c2⟩, c3⟩, c4⟩, c5⟩, -⟩ := hc
  have c2 : γ 2 = rUp (γ 1) 102 0 0 (ρ 20) := c2
  have c3 : γ 3 = rUp (γ 2) 102 0 1 (ρ 24) := c3
  have c4 : γ 4 = rUp (γ 3) 102 0 2 (ρ 25) := c4
  have c5 : γ 5 = rUp (γ 4) 102 0 3 (ρ 26) := c5
  obtain ⟨l0, -⟩ := hl
  have l0 : sn57 [ρ 7, ρ 0, ρ 2, ρ 19, ρ 27, ρ 28, ρ 29, ρ 10, ρ 17] (γ 5) 0 0 (γ 6) := hS57 _ _ _ _ _ l0
  show jn75 [ρ 0, ρ 1, ρ 2, ρ 3, ρ 4, ρ 5, ρ 6, ρ 7, ρ 8, ρ 9, ρ 10, ρ 11, ρ 12, ρ 13, ρ 14] (γ 0) 0 [ρ 0, ρ 1, ρ 2, ρ 3, ρ 4, ρ 5, ρ 6, ρ 7, ρ 8, ρ 9, ρ 10, ρ 11, ρ 12, ρ 13, ρ 14, ρ 15 + 1, ρ 16, ρ 34, ρ 18, ρ 30] (γ 6)
  have hD : en75 (γ 0) (0, [ρ 0, ρ 15], γ 1) = .inl (0, [ρ 0, ρ 15 + 1], γ 6) := by
    unfold en75
    refine (if_pos (show (0 : Nat) = 0 by decide)).trans ?_
    refine (zLet_eq (show _ = γ 1 from rfl)).trans ?_
    refine (zLet_eq (show _ = ρ 0 from rfl)).trans ?_
    refine (zLet_eq (show _ = ρ 15 from rfl)).trans ?_
    refine (zLet_eq m2).trans ?_
    refine (zLet_eq m6).trans ?_
    refine (zLet_eq m15).trans ?_
    refine (zLet_eq m16).trans ?_
    refine (if_neg w_0).trans ?_
    refine (if_neg w_1).trans ?_
    refine (if_pos w_2).trans ?_
    refine (if_neg w_3).trans ?_
    refine (zLet_eq m19).trans ?_
    refine (zLet_eq m20).trans ?_
    refine (if_neg w_4).trans ?_
    refine (zLet_eq m21).trans ?_
    refine (if_neg w_5).trans ?_
    refine (zLet_eq c2.symm).trans ?_
    refine (if_neg w_6).trans ?_
    refine (zLet_eq m22).trans ?_
    refine (if_pos w_7).trans ?_
    refine (zLet_eq m23).trans ?_
    refine (zLet_eq c3.symm).trans ?_
    refine (if_pos w_8).trans ?_
    refine (zLet_eq m24).trans ?_
    refine (zLet_eq c4.symm).trans ?_
    refine (zLet_eq m25).trans ?_
    refine (zLet_eq c5.symm).trans ?_
    refine (zLet_eq (show fn57 [ρ 7, ρ 0] (γ 5) = (0, 0, γ 6) from l0.symm)).trans ?_
    refine (zLet_eq (show _ = γ 6 from rfl)).trans ?_
    rfl
  exact zGoo_ato hJ hD
theorem vn75a0_51 {S : Nat → zSpc} (hS57 : ∀ x g o v gz, S 57 x g o v gz → sn57 x g o v gz) (hS73 : ∀ x g o v gz, S 73 x g o v gz → sn73 x g o v gz) {a : List Int} {g : rHp} : ∀ (ρ : Nat → Int) (γ : Nat → rHp), jn75 a g 0 (zAg (zNA a75_ 0) ρ) (γ 1) → zO 15 S a g q75a0_51 ρ γ → zGl (fun i vs g1 => jn75 a g i vs g1) (sn75 a g) q75a0_51 ρ γ := by
  intro ρ γ hJ h
  obtain ⟨ha, hg, hr, hf, hm, hc, hl⟩ := h
  have ha : a = [ρ 0, ρ 1, ρ 2, ρ 3, ρ 4, ρ 5, ρ 6, ρ 7, ρ 8, ρ 9, ρ 10, ρ 11, ρ 12, ρ 13, ρ 14] := ha
  subst ha
  subst hg
  have hJ : jn75 [ρ 0, ρ 1, ρ 2, ρ 3, ρ 4, ρ 5, ρ 6, ρ 7, ρ 8, ρ 9, ρ 10, ρ 11, ρ 12, ρ 13, ρ 14] (γ 0) 0 [ρ 0, ρ 1, ρ 2, ρ 3, ρ 4, ρ 5, ρ 6, ρ 7, ρ 8, ρ 9, ρ 10, ρ 11, ρ 12, ρ 13, ρ 14, ρ 15, ρ 16, ρ 17, ρ 18, ρ 19] (γ 1) := hJ
  obtain ⟨-, -, -, r3, -, -, -, -, -, -, -, -, -, -, -, -, -, r17, -, -, -, r21, r22, r23, -, r25, -⟩ := hr
  have r3 : (1 : Int) ≤ ρ 3 ∧ ρ 3 ≤ 1 := r3
  have r17 : (0 : Int) ≤ ρ 17 ∧ ρ 17 ≤ 0 := r17
  have r21 : (3 : Int) ≤ ρ 21 ∧ ρ 21 ≤ 3 := r21
  have r22 : (3 : Int) ≤ ρ 22 ∧ ρ 22 ≤ 3 := r22
  have r23 : (0 : Int) ≤ ρ 23 ∧ ρ 23 ≤ 2 := r23
  have r25 : (0 : Int) ≤ ρ 25 ∧ ρ 25 ≤ 2 := r25
  obtain ⟨-, -, -, f3, -⟩ := hf
  have f3 : (0 : Int) ≤ ρ 18 + -ρ 15 + (-1) := f3
  obtain ⟨w_0, w_1, w_2, w_3, w_4, w_5, w_6, w_7, w_8, w_9, w_10⟩ : (¬ (ρ 15 ≥ ρ 18)) ∧ (¬ (ρ 17 ≠ 0)) ∧ (ρ 3 ≤ 2) ∧ (¬ (ρ 3 ≠ 1)) ∧ (¬ (0 ≥ ρ 21)) ∧ (¬ (ρ 22 ≠ 3)) ∧ (¬ (1 ≥ ρ 21)) ∧ (ρ 23 ≠ 3) ∧ (¬ (2 ≥ ρ 21)) ∧ (ρ 25 ≠ 3) ∧ (3 ≥ ρ 21) := ⟨by omega, by omega, by omega, by omega, by omega, by omega, by omega, by omega, by omega, by omega, by omega⟩
  obtain ⟨-, -, m2, -, -, -, m6, -, -, -, -, -, -, -, -, m15, m16, -, -, m19, m20, m21, m22, m23, m24, m25, m26, -⟩ := hm
  have m2 : γ 0 71 0 (ρ 0) = ρ 3 := m2
  have m6 : γ 0 69 0 (ρ 0) = ρ 7 := m6
  have m15 : γ 1 15 0 77 = ρ 17 := m15
  have m16 : γ 1 15 0 90 = ρ 18 := m16
  have m19 : γ 1 106 0 (ρ 15) = ρ 20 := m19
  have m20 : γ 0 66 0 (ρ 7) = ρ 21 := m20
  have m21 : γ 0 70 0 (4 * ρ 0) = ρ 22 := m21
  have m22 : γ 0 70 0 (4 * ρ 0 + 1) = ρ 23 := m22
  have m23 : γ 1 105 0 (4 * ρ 15 + 1) = ρ 24 := m23
  have m24 : γ 0 70 0 (4 * ρ 0 + 2) = ρ 25 := m24
  have m25 : γ 1 105 0 (4 * ρ 15 + 2) = ρ 26 := m25
  have m26 : γ 1 105 0 (4 * ρ 15 + 3) = ρ 27 := m26
  obtain ⟨⟨⟨⟨⟨-, c2⟩, c3⟩, c4⟩, c5⟩, -⟩ := hc
  have c2 : γ 2 = rUp (γ 1) 102 0 0 (ρ 20) := c2
  have c3 : γ 3 = rUp (γ 2) 102 0 1 (ρ 24) := c3
  have c4 : γ 4 = rUp (γ 3) 102 0 2 (ρ 26) := c4
  have c5 : γ 5 = rUp (γ 4) 102 0 3 (ρ 27) := c5
  obtain ⟨l0, -⟩ := hl
  have l0 : sn57 [ρ 7, ρ 0, ρ 2, ρ 19, ρ 28, ρ 29, ρ 30, ρ 10, ρ 17] (γ 5) 0 0 (γ 6) := hS57 _ _ _ _ _ l0
  show jn75 [ρ 0, ρ 1, ρ 2, ρ 3, ρ 4, ρ 5, ρ 6, ρ 7, ρ 8, ρ 9, ρ 10, ρ 11, ρ 12, ρ 13, ρ 14] (γ 0) 0 [ρ 0, ρ 1, ρ 2, ρ 3, ρ 4, ρ 5, ρ 6, ρ 7, ρ 8, ρ 9, ρ 10, ρ 11, ρ 12, ρ 13, ρ 14, ρ 15 + 1, ρ 16, ρ 35, ρ 18, ρ 31] (γ 6)
  have hD : en75 (γ 0) (0, [ρ 0, ρ 15], γ 1) = .inl (0, [ρ 0, ρ 15 + 1], γ 6) := by
    unfold en75
    refine (if_pos (show (0 : Nat) = 0 by decide)).trans ?_
    refine (zLet_eq (show _ = γ 1 from rfl)).trans ?_
    refine (zLet_eq (show _ = ρ 0 from rfl)).trans ?_
    refine (zLet_eq (show _ = ρ 15 from rfl)).trans ?_
    refine (zLet_eq m2).trans ?_
    refine (zLet_eq m6).trans ?_
    refine (zLet_eq m15).trans ?_
    refine (zLet_eq m16).trans ?_
    refine (if_neg w_0).trans ?_
    refine (if_neg w_1).trans ?_
    refine (if_pos w_2).trans ?_
    refine (if_neg w_3).trans ?_
    refine (zLet_eq m19).trans ?_
    refine (zLet_eq m20).trans ?_
    refine (if_neg w_4).trans ?_
    refine (zLet_eq m21).trans ?_
    refine (if_neg w_5).trans ?_
    refine (zLet_eq c2.symm).trans ?_
    refine (if_neg w_6).trans ?_
    refine (zLet_eq m22).trans ?_
    refine (if_pos w_7).trans ?_
    refine (zLet_eq m23).trans ?_
    refine (zLet_eq c3.symm).trans ?_
    refine (if_neg w_8).trans ?_
    refine (zLet_eq m24).trans ?_
    refine (if_pos w_9).trans ?_
    refine (zLet_eq m25).trans ?_
    refine (zLet_eq c4.symm).trans ?_
    refine (if_pos w_10).trans ?_
    refine (zLet_eq m26).trans ?_
    refine (zLet_eq c5.symm).trans ?_
    refine (zLet_eq (show fn57 [ρ 7, ρ 0] (γ 5) = (0, 0, γ 6) from l0.symm)).trans ?_
    refine (zLet_eq (show _ = γ 6 from rfl)).trans ?_
    rfl
  exact zGoo_ato hJ hD
theorem vn75a0_52 {S : Nat → zSpc} (hS57 : ∀ x g o v gz, S 57 x g o v gz → sn57 x g o v gz) (hS73 : ∀ x g o v gz, S 73 x g o v gz → sn73 x g o v gz) {a : List Int} {g : rHp} : ∀ (ρ : Nat → Int) (γ : Nat → rHp), jn75 a g 0 (zAg (zNA a75_ 0) ρ) (γ 1) → zO 15 S a g q75a0_52 ρ γ → zGl (fun i vs g1 => jn75 a g i vs g1) (sn75 a g) q75a0_52 ρ γ := by
  intro ρ γ hJ h
  obtain ⟨ha, hg, hr, hf, hm, hc, hl⟩ := h
  have ha : a = [ρ 0, ρ 1, ρ 2, ρ 3, ρ 4, ρ 5, ρ 6, ρ 7, ρ 8, ρ 9, ρ 10, ρ 11, ρ 12, ρ 13, ρ 14] := ha
  subst ha
  subst hg
  have hJ : jn75 [ρ 0, ρ 1, ρ 2, ρ 3, ρ 4, ρ 5, ρ 6, ρ 7, ρ 8, ρ 9, ρ 10, ρ 11, ρ 12, ρ 13, ρ 14] (γ 0) 0 [ρ 0, ρ 1, ρ 2, ρ 3, ρ 4, ρ 5, ρ 6, ρ 7, ρ 8, ρ 9, ρ 10, ρ 11, ρ 12, ρ 13, ρ 14, ρ 15, ρ 16, ρ 17, ρ 18, ρ 19] (γ 1) := hJ
  obtain ⟨-, -, -, r3, -, -, -, -, -, -, -, -, -, -, -, -, -, r17, -, -, -, r21, r22, r23, -, r25, -, r27, -⟩ := hr
  have r3 : (1 : Int) ≤ ρ 3 ∧ ρ 3 ≤ 1 := r3
  have r17 : (0 : Int) ≤ ρ 17 ∧ ρ 17 ≤ 0 := r17
  have r21 : (4 : Int) ≤ ρ 21 ∧ ρ 21 ≤ 4 := r21
  have r22 : (3 : Int) ≤ ρ 22 ∧ ρ 22 ≤ 3 := r22
  have r23 : (0 : Int) ≤ ρ 23 ∧ ρ 23 ≤ 2 := r23
  have r25 : (0 : Int) ≤ ρ 25 ∧ ρ 25 ≤ 2 := r25
  have r27 : (0 : Int) ≤ ρ 27 ∧ ρ 27 ≤ 2 := r27
  obtain ⟨-, -, -, f3, -⟩ := hf
  have f3 : (0 : Int) ≤ ρ 18 + -ρ 15 + (-1) := f3
  obtain ⟨w_0, w_1, w_2, w_3, w_4, w_5, w_6, w_7, w_8, w_9, w_10, w_11⟩ : (¬ (ρ 15 ≥ ρ 18)) ∧ (¬ (ρ 17 ≠ 0)) ∧ (ρ 3 ≤ 2) ∧ (¬ (ρ 3 ≠ 1)) ∧ (¬ (0 ≥ ρ 21)) ∧ (¬ (ρ 22 ≠ 3)) ∧ (¬ (1 ≥ ρ 21)) ∧ (ρ 23 ≠ 3) ∧ (¬ (2 ≥ ρ 21)) ∧ (ρ 25 ≠ 3) ∧ (¬ (3 ≥ ρ 21)) ∧ (ρ 27 ≠ 3) := ⟨by omega, by omega, by omega, by omega, by omega, by omega, by omega, by omega, by omega, by omega, by omega, by omega⟩
  obtain ⟨-, -, m2, -, -, -, m6, -, -, -, -, -, -, -, -, m15, m16, -, -, m19, m20, m21, m22, m23, m24, m25, m26, m27, -⟩ := hm
  have m2 : γ 0 71 0 (ρ 0) = ρ 3 := m2
  have m6 : γ 0 69 0 (ρ 0) = ρ 7 := m6
  have m15 : γ 1 15 0 77 = ρ 17 := m15
  have m16 : γ 1 15 0 90 = ρ 18 := m16
  have m19 : γ 1 106 0 (ρ 15) = ρ 20 := m19
  have m20 : γ 0 66 0 (ρ 7) = ρ 21 := m20
  have m21 : γ 0 70 0 (4 * ρ 0) = ρ 22 := m21
  have m22 : γ 0 70 0 (4 * ρ 0 + 1) = ρ 23 := m22
  have m23 : γ 1 105 0 (4 * ρ 15 + 1) = ρ 24 := m23
  have m24 : γ 0 70 0 (4 * ρ 0 + 2) = ρ 25 := m24
  have m25 : γ 1 105 0 (4 * ρ 15 + 2) = ρ 26 := m25
  have m26 : γ 0 70 0 (4 * ρ 0 + 3) = ρ 27 := m26
  have m27 : γ 1 105 0 (4 * ρ 15 + 3) = ρ 28 := m27
  obtain ⟨⟨⟨⟨⟨-, c2⟩, c3⟩, c4⟩, c5⟩, -⟩ := hc
  have c2 : γ 2 = rUp (γ 1) 102 0 0 (ρ 20) := c2
  have c3 : γ 3 = rUp (γ 2) 102 0 1 (ρ 24) := c3
  have c4 : γ 4 = rUp (γ 3) 102 0 2 (ρ 26) := c4
  have c5 : γ 5 = rUp (γ 4) 102 0 3 (ρ 28) := c5
  obtain ⟨l0, -⟩ := hl
  have l0 : sn57 [ρ 7, ρ 0, ρ 2, ρ 19, ρ 29, ρ 30, ρ 31, ρ 10, ρ 17] (γ 5) 0 0 (γ 6) := hS57 _ _ _ _ _ l0
  show jn75 [ρ 0, ρ 1, ρ 2, ρ 3, ρ 4, ρ 5, ρ 6, ρ 7, ρ 8, ρ 9, ρ 10, ρ 11, ρ 12, ρ 13, ρ 14] (γ 0) 0 [ρ 0, ρ 1, ρ 2, ρ 3, ρ 4, ρ 5, ρ 6, ρ 7, ρ 8, ρ 9, ρ 10, ρ 11, ρ 12, ρ 13, ρ 14, ρ 15 + 1, ρ 16, ρ 36, ρ 18, ρ 32] (γ 6)
  have hD : en75 (γ 0) (0, [ρ 0, ρ 15], γ 1) = .inl (0, [ρ 0, ρ 15 + 1], γ 6) := by
    unfold en75
    refine (if_pos (show (0 : Nat) = 0 by decide)).trans ?_
    refine (zLet_eq (show _ = γ 1 from rfl)).trans ?_
    refine (zLet_eq (show _ = ρ 0 from rfl)).trans ?_
    refine (zLet_eq (show _ = ρ 15 from rfl)).trans ?_
    refine (zLet_eq m2).trans ?_
    refine (zLet_eq m6).trans ?_
    refine (zLet_eq m15).trans ?_
    refine (zLet_eq m16).trans ?_
    refine (if_neg w_0).trans ?_
    refine (if_neg w_1).trans ?_
    refine (if_pos w_2).trans ?_
    refine (if_neg w_3).trans ?_
    refine (zLet_eq m19).trans ?_
    refine (zLet_eq m20).trans ?_
    refine (if_neg w_4).trans ?_
    refine (zLet_eq m21).trans ?_
    refine (if_neg w_5).trans ?_
    refine (zLet_eq c2.symm).trans ?_
    refine (if_neg w_6).trans ?_
    refine (zLet_eq m22).trans ?_
    refine (if_pos w_7).trans ?_
    refine (zLet_eq m23).trans ?_
    refine (zLet_eq c3.symm).trans ?_
    refine (if_neg w_8).trans ?_
    refine (zLet_eq m24).trans ?_
    refine (if_pos w_9).trans ?_
    refine (zLet_eq m25).trans ?_
    refine (zLet_eq c4.symm).trans ?_
    refine (if_neg w_10).trans ?_
    refine (zLet_eq m26).trans ?_
    refine (if_pos w_11).trans ?_
    refine (zLet_eq m27).trans ?_
    refine (zLet_eq c5.symm).trans ?_
    refine (zLet_eq (show fn57 [ρ 7, ρ 0] (γ 5) = (0, 0, γ 6) from l0.symm)).trans ?_
    refine (zLet_eq (show _ = γ 6 from rfl)).trans ?_
    rfl
  exact zGoo_ato hJ hD
theorem vn75a0_53 {S : Nat → zSpc} (hS57 : ∀ x g o v gz, S 57 x g o v gz → sn57 x g o v gz) (hS73 : ∀ x g o v gz, S 73 x g o v gz → sn73 x g o v gz) {a : List Int} {g : rHp} : ∀ (ρ : Nat → Int) (γ : Nat → rHp), jn75 a g 0 (zAg (zNA a75_ 0) ρ) (γ 1) → zO 15 S a g q75a0_53 ρ γ → zGl (fun i vs g1 => jn75 a g i vs g1) (sn75 a g) q75a0_53 ρ γ := by
  intro ρ γ hJ h
  obtain ⟨ha, hg, hr, hf, hm, hc, hl⟩ := h
  have ha : a = [ρ 0, ρ 1, ρ 2, ρ 3, ρ 4, ρ 5, ρ 6, ρ 7, ρ 8, ρ 9, ρ 10, ρ 11, ρ 12, ρ 13, ρ 14] := ha
  subst ha
  subst hg
  have hJ : jn75 [ρ 0, ρ 1, ρ 2, ρ 3, ρ 4, ρ 5, ρ 6, ρ 7, ρ 8, ρ 9, ρ 10, ρ 11, ρ 12, ρ 13, ρ 14] (γ 0) 0 [ρ 0, ρ 1, ρ 2, ρ 3, ρ 4, ρ 5, ρ 6, ρ 7, ρ 8, ρ 9, ρ 10, ρ 11, ρ 12, ρ 13, ρ 14, ρ 15, ρ 16, ρ 17, ρ 18, ρ 19] (γ 1) := hJ
  obtain ⟨-, -, -, r3, -, -, -, -, -, -, -, -, -, -, -, -, -, r17, -, -, -, r21, r22, r23, -, r25, -, r27, -⟩ := hr
  have r3 : (1 : Int) ≤ ρ 3 ∧ ρ 3 ≤ 1 := r3
  have r17 : (0 : Int) ≤ ρ 17 ∧ ρ 17 ≤ 0 := r17
  have r21 : (4 : Int) ≤ ρ 21 ∧ ρ 21 ≤ 4 := r21
  have r22 : (3 : Int) ≤ ρ 22 ∧ ρ 22 ≤ 3 := r22
  have r23 : (0 : Int) ≤ ρ 23 ∧ ρ 23 ≤ 2 := r23
  have r25 : (0 : Int) ≤ ρ 25 ∧ ρ 25 ≤ 2 := r25
  have r27 : (3 : Int) ≤ ρ 27 ∧ ρ 27 ≤ 3 := r27
  obtain ⟨-, -, -, f3, -⟩ := hf
  have f3 : (0 : Int) ≤ ρ 18 + -ρ 15 + (-1) := f3
  obtain ⟨w_0, w_1, w_2, w_3, w_4, w_5, w_6, w_7, w_8, w_9, w_10, w_11⟩ : (¬ (ρ 15 ≥ ρ 18)) ∧ (¬ (ρ 17 ≠ 0)) ∧ (ρ 3 ≤ 2) ∧ (¬ (ρ 3 ≠ 1)) ∧ (¬ (0 ≥ ρ 21)) ∧ (¬ (ρ 22 ≠ 3)) ∧ (¬ (1 ≥ ρ 21)) ∧ (ρ 23 ≠ 3) ∧ (¬ (2 ≥ ρ 21)) ∧ (ρ 25 ≠ 3) ∧ (¬ (3 ≥ ρ 21)) ∧ (¬ (ρ 27 ≠ 3)) := ⟨by omega, by omega, by omega, by omega, by omega, by omega, by omega, by omega, by omega, by omega, by omega, by omega⟩
  obtain ⟨-, -, m2, -, -, -, m6, -, -, -, -, -, -, -, -, m15, m16, -, -, m19, m20, m21, m22, m23, m24, m25, m26, -⟩ := hm
  have m2 : γ 0 71 0 (ρ 0) = ρ 3 := m2
  have m6 : γ 0 69 0 (ρ 0) = ρ 7 := m6
  have m15 : γ 1 15 0 77 = ρ 17 := m15
  have m16 : γ 1 15 0 90 = ρ 18 := m16
  have m19 : γ 1 106 0 (ρ 15) = ρ 20 := m19
  have m20 : γ 0 66 0 (ρ 7) = ρ 21 := m20
  have m21 : γ 0 70 0 (4 * ρ 0) = ρ 22 := m21
  have m22 : γ 0 70 0 (4 * ρ 0 + 1) = ρ 23 := m22
  have m23 : γ 1 105 0 (4 * ρ 15 + 1) = ρ 24 := m23
  have m24 : γ 0 70 0 (4 * ρ 0 + 2) = ρ 25 := m24
  have m25 : γ 1 105 0 (4 * ρ 15 + 2) = ρ 26 := m25
  have m26 : γ 0 70 0 (4 * ρ 0 + 3) = ρ 27 := m26
  obtain ⟨⟨⟨⟨⟨-, c2⟩, c3⟩, c4⟩, c5⟩, -⟩ := hc
  have c2 : γ 2 = rUp (γ 1) 102 0 0 (ρ 20) := c2
  have c3 : γ 3 = rUp (γ 2) 102 0 1 (ρ 24) := c3
  have c4 : γ 4 = rUp (γ 3) 102 0 2 (ρ 26) := c4
  have c5 : γ 5 = rUp (γ 4) 102 0 3 (ρ 20) := c5
  obtain ⟨l0, -⟩ := hl
  have l0 : sn57 [ρ 7, ρ 0, ρ 2, ρ 19, ρ 28, ρ 29, ρ 30, ρ 10, ρ 17] (γ 5) 0 0 (γ 6) := hS57 _ _ _ _ _ l0
  show jn75 [ρ 0, ρ 1, ρ 2, ρ 3, ρ 4, ρ 5, ρ 6, ρ 7, ρ 8, ρ 9, ρ 10, ρ 11, ρ 12, ρ 13, ρ 14] (γ 0) 0 [ρ 0, ρ 1, ρ 2, ρ 3, ρ 4, ρ 5, ρ 6, ρ 7, ρ 8, ρ 9, ρ 10, ρ 11, ρ 12, ρ 13, ρ 14, ρ 15 + 1, ρ 16, ρ 35, ρ 18, ρ 31] (γ 6)
  have hD : en75 (γ 0) (0, [ρ 0, ρ 15], γ 1) = .inl (0, [ρ 0, ρ 15 + 1], γ 6) := by
    unfold en75
    refine (if_pos (show (0 : Nat) = 0 by decide)).trans ?_
    refine (zLet_eq (show _ = γ 1 from rfl)).trans ?_
    refine (zLet_eq (show _ = ρ 0 from rfl)).trans ?_
    refine (zLet_eq (show _ = ρ 15 from rfl)).trans ?_
    refine (zLet_eq m2).trans ?_
    refine (zLet_eq m6).trans ?_
    refine (zLet_eq m15).trans ?_
    refine (zLet_eq m16).trans ?_
    refine (if_neg w_0).trans ?_
    refine (if_neg w_1).trans ?_
    refine (if_pos w_2).trans ?_
    refine (if_neg w_3).trans ?_
    refine (zLet_eq m19).trans ?_
    refine (zLet_eq m20).trans ?_
    refine (if_neg w_4).trans ?_
    refine (zLet_eq m21).trans ?_
    refine (if_neg w_5).trans ?_
    refine (zLet_eq c2.symm).trans ?_
    refine (if_neg w_6).trans ?_
    refine (zLet_eq m22).trans ?_
    refine (if_pos w_7).trans ?_
    refine (zLet_eq m23).trans ?_
    refine (zLet_eq c3.symm).trans ?_
    refine (if_neg w_8).trans ?_
    refine (zLet_eq m24).trans ?_
    refine (if_pos w_9).trans ?_
    refine (zLet_eq m25).trans ?_
    refine (zLet_eq c4.symm).trans ?_
    refine (if_neg w_10).trans ?_
    refine (zLet_eq m26).trans ?_
    refine (if_neg w_11).trans ?_
    refine (zLet_eq c5.symm).trans ?_
    refine (zLet_eq (show fn57 [ρ 7, ρ 0] (γ 5) = (0, 0, γ 6) from l0.symm)).trans ?_
    refine (zLet_eq (show _ = γ 6 from rfl)).trans ?_
    rfl
  exact zGoo_ato hJ hD
theorem vn75a0_54 {S : Nat → zSpc} (hS57 : ∀ x g o v gz, S 57 x g o v gz → sn57 x g o v gz) (hS73 : ∀ x g o v gz, S 73 x g o v gz → sn73 x g o v gz) {a : List Int} {g : rHp} : ∀ (ρ : Nat → Int) (γ : Nat → rHp), jn75 a g 0 (zAg (zNA a75_ 0) ρ) (γ 1) → zO 15 S a g q75a0_54 ρ γ → zGl (fun i vs g1 => jn75 a g i vs g1) (sn75 a g) q75a0_54 ρ γ := by
  intro ρ γ hJ h
  obtain ⟨ha, hg, hr, hf, hm, hc, hl⟩ := h
  have ha : a = [ρ 0, ρ 1, ρ 2, ρ 3, ρ 4, ρ 5, ρ 6, ρ 7, ρ 8, ρ 9, ρ 10, ρ 11, ρ 12, ρ 13, ρ 14] := ha
  subst ha
  subst hg
  have hJ : jn75 [ρ 0, ρ 1, ρ 2, ρ 3, ρ 4, ρ 5, ρ 6, ρ 7, ρ 8, ρ 9, ρ 10, ρ 11, ρ 12, ρ 13, ρ 14] (γ 0) 0 [ρ 0, ρ 1, ρ 2, ρ 3, ρ 4, ρ 5, ρ 6, ρ 7, ρ 8, ρ 9, ρ 10, ρ 11, ρ 12, ρ 13, ρ 14, ρ 15, ρ 16, ρ 17, ρ 18, ρ 19] (γ 1) := hJ
  obtain ⟨-, -, -, r3, -, -, -, -, -, -, -, -, -, -, -, -, -, r17, -, -, -, r21, r22, r23, -, r25, -⟩ := hr
  have r3 : (1 : Int) ≤ ρ 3 ∧ ρ 3 ≤ 1 := r3
  have r17 : (0 : Int) ≤ ρ 17 ∧ ρ 17 ≤ 0 := r17
  have r21 : (3 : Int) ≤ ρ 21 ∧ ρ 21 ≤ 3 := r21
  have r22 : (3 : Int) ≤ ρ 22 ∧ ρ 22 ≤ 3 := r22
  have r23 : (0 : Int) ≤ ρ 23 ∧ ρ 23 ≤ 2 := r23
  have r25 : (3 : Int) ≤ ρ 25 ∧ ρ 25 ≤ 3 := r25
  obtain ⟨-, -, -, f3, -⟩ := hf
  have f3 : (0 : Int) ≤ ρ 18 + -ρ 15 + (-1) := f3
  obtain ⟨w_0, w_1, w_2, w_3, w_4, w_5, w_6, w_7, w_8, w_9, w_10⟩ : (¬ (ρ 15 ≥ ρ 18)) ∧ (¬ (ρ 17 ≠ 0)) ∧ (ρ 3 ≤ 2) ∧ (¬ (ρ 3 ≠ 1)) ∧ (¬ (0 ≥ ρ 21)) ∧ (¬ (ρ 22 ≠ 3)) ∧ (¬ (1 ≥ ρ 21)) ∧ (ρ 23 ≠ 3) ∧ (¬ (2 ≥ ρ 21)) ∧ (¬ (ρ 25 ≠ 3)) ∧ (3 ≥ ρ 21) := ⟨by omega, by omega, by omega, by omega, by omega, by omega, by omega, by omega, by omega, by omega, by omega⟩
  obtain ⟨-, -, m2, -, -, -, m6, -, -, -, -, -, -, -, -, m15, m16, -, -, m19, m20, m21, m22, m23, m24, m25, -⟩ := hm
  have m2 : γ 0 71 0 (ρ 0) = ρ 3 := m2
  have m6 : γ 0 69 0 (ρ 0) = ρ 7 := m6
  have m15 : γ 1 15 0 77 = ρ 17 := m15
  have m16 : γ 1 15 0 90 = ρ 18 := m16
  have m19 : γ 1 106 0 (ρ 15) = ρ 20 := m19
  have m20 : γ 0 66 0 (ρ 7) = ρ 21 := m20
  have m21 : γ 0 70 0 (4 * ρ 0) = ρ 22 := m21
  have m22 : γ 0 70 0 (4 * ρ 0 + 1) = ρ 23 := m22
  have m23 : γ 1 105 0 (4 * ρ 15 + 1) = ρ 24 := m23
  have m24 : γ 0 70 0 (4 * ρ 0 + 2) = ρ 25 := m24
  have m25 : γ 1 105 0 (4 * ρ 15 + 3) = ρ 26 := m25
  obtain ⟨⟨⟨⟨⟨-, c2⟩, c3⟩, c4⟩, c5⟩, -⟩ := hc
  have c2 : γ 2 = rUp (γ 1) 102 0 0 (ρ 20) := c2
  have c3 : γ 3 = rUp (γ 2) 102 0 1 (ρ 24) := c3
  have c4 : γ 4 = rUp (γ 3) 102 0 2 (ρ 20) := c4
  have c5 : γ 5 = rUp (γ 4) 102 0 3 (ρ 26) := c5
  obtain ⟨l0, -⟩ := hl
  have l0 : sn57 [ρ 7, ρ 0, ρ 2, ρ 19, ρ 27, ρ 28, ρ 29, ρ 10, ρ 17] (γ 5) 0 0 (γ 6) := hS57 _ _ _ _ _ l0
  show jn75 [ρ 0, ρ 1, ρ 2, ρ 3, ρ 4, ρ 5, ρ 6, ρ 7, ρ 8, ρ 9, ρ 10, ρ 11, ρ 12, ρ 13, ρ 14] (γ 0) 0 [ρ 0, ρ 1, ρ 2, ρ 3, ρ 4, ρ 5, ρ 6, ρ 7, ρ 8, ρ 9, ρ 10, ρ 11, ρ 12, ρ 13, ρ 14, ρ 15 + 1, ρ 16, ρ 34, ρ 18, ρ 30] (γ 6)
  have hD : en75 (γ 0) (0, [ρ 0, ρ 15], γ 1) = .inl (0, [ρ 0, ρ 15 + 1], γ 6) := by
    unfold en75
    refine (if_pos (show (0 : Nat) = 0 by decide)).trans ?_
    refine (zLet_eq (show _ = γ 1 from rfl)).trans ?_
    refine (zLet_eq (show _ = ρ 0 from rfl)).trans ?_
    refine (zLet_eq (show _ = ρ 15 from rfl)).trans ?_
    refine (zLet_eq m2).trans ?_
    refine (zLet_eq m6).trans ?_
    refine (zLet_eq m15).trans ?_
    refine (zLet_eq m16).trans ?_
    refine (if_neg w_0).trans ?_
    refine (if_neg w_1).trans ?_
    refine (if_pos w_2).trans ?_
    refine (if_neg w_3).trans ?_
    refine (zLet_eq m19).trans ?_
    refine (zLet_eq m20).trans ?_
    refine (if_neg w_4).trans ?_
    refine (zLet_eq m21).trans ?_
    refine (if_neg w_5).trans ?_
    refine (zLet_eq c2.symm).trans ?_
    refine (if_neg w_6).trans ?_
    refine (zLet_eq m22).trans ?_
    refine (if_pos w_7).trans ?_
    refine (zLet_eq m23).trans ?_
    refine (zLet_eq c3.symm).trans ?_
    refine (if_neg w_8).trans ?_
    refine (zLet_eq m24).trans ?_
    refine (if_neg w_9).trans ?_
    refine (zLet_eq c4.symm).trans ?_
    refine (if_pos w_10).trans ?_
    refine (zLet_eq m25).trans ?_
    refine (zLet_eq c5.symm).trans ?_
    refine (zLet_eq (show fn57 [ρ 7, ρ 0] (γ 5) = (0, 0, γ 6) from l0.symm)).trans ?_
    refine (zLet_eq (show _ = γ 6 from rfl)).trans ?_
    rfl
  exact zGoo_ato hJ hD
theorem vn75a0_55 {S : Nat → zSpc} (hS57 : ∀ x g o v gz, S 57 x g o v gz → sn57 x g o v gz) (hS73 : ∀ x g o v gz, S 73 x g o v gz → sn73 x g o v gz) {a : List Int} {g : rHp} : ∀ (ρ : Nat → Int) (γ : Nat → rHp), jn75 a g 0 (zAg (zNA a75_ 0) ρ) (γ 1) → zO 15 S a g q75a0_55 ρ γ → zGl (fun i vs g1 => jn75 a g i vs g1) (sn75 a g) q75a0_55 ρ γ := by
  intro ρ γ hJ h
  obtain ⟨ha, hg, hr, hf, hm, hc, hl⟩ := h
  have ha : a = [ρ 0, ρ 1, ρ 2, ρ 3, ρ 4, ρ 5, ρ 6, ρ 7, ρ 8, ρ 9, ρ 10, ρ 11, ρ 12, ρ 13, ρ 14] := ha
  subst ha
  subst hg
  have hJ : jn75 [ρ 0, ρ 1, ρ 2, ρ 3, ρ 4, ρ 5, ρ 6, ρ 7, ρ 8, ρ 9, ρ 10, ρ 11, ρ 12, ρ 13, ρ 14] (γ 0) 0 [ρ 0, ρ 1, ρ 2, ρ 3, ρ 4, ρ 5, ρ 6, ρ 7, ρ 8, ρ 9, ρ 10, ρ 11, ρ 12, ρ 13, ρ 14, ρ 15, ρ 16, ρ 17, ρ 18, ρ 19] (γ 1) := hJ
  obtain ⟨-, -, -, r3, -, -, -, -, -, -, -, -, -, -, -, -, -, r17, -, -, -, r21, r22, r23, -, r25, r26, -⟩ := hr
  have r3 : (1 : Int) ≤ ρ 3 ∧ ρ 3 ≤ 1 := r3
  have r17 : (0 : Int) ≤ ρ 17 ∧ ρ 17 ≤ 0 := r17
  have r21 : (4 : Int) ≤ ρ 21 ∧ ρ 21 ≤ 4 := r21
  have r22 : (3 : Int) ≤ ρ 22 ∧ ρ 22 ≤ 3 := r22
  have r23 : (0 : Int) ≤ ρ 23 ∧ ρ 23 ≤ 2 := r23
  have r25 : (3 : Int) ≤ ρ 25 ∧ ρ 25 ≤ 3 := r25
  have r26 : (0 : Int) ≤ ρ 26 ∧ ρ 26 ≤ 2 := r26
  obtain ⟨-, -, -, f3, -⟩ := hf
  have f3 : (0 : Int) ≤ ρ 18 + -ρ 15 + (-1) := f3
  obtain ⟨w_0, w_1, w_2, w_3, w_4, w_5, w_6, w_7, w_8, w_9, w_10, w_11⟩ : (¬ (ρ 15 ≥ ρ 18)) ∧ (¬ (ρ 17 ≠ 0)) ∧ (ρ 3 ≤ 2) ∧ (¬ (ρ 3 ≠ 1)) ∧ (¬ (0 ≥ ρ 21)) ∧ (¬ (ρ 22 ≠ 3)) ∧ (¬ (1 ≥ ρ 21)) ∧ (ρ 23 ≠ 3) ∧ (¬ (2 ≥ ρ 21)) ∧ (¬ (ρ 25 ≠ 3)) ∧ (¬ (3 ≥ ρ 21)) ∧ (ρ 26 ≠ 3) := ⟨by omega, by omega, by omega, by omega, by omega, by omega, by omega, by omega, by omega, by omega, by omega, by omega⟩
  obtain ⟨-, -, m2, -, -, -, m6, -, -, -, -, -, -, -, -, m15, m16, -, -, m19, m20, m21, m22, m23, m24, m25, m26, -⟩ := hm
  have m2 : γ 0 71 0 (ρ 0) = ρ 3 := m2
  have m6 : γ 0 69 0 (ρ 0) = ρ 7 := m6
  have m15 : γ 1 15 0 77 = ρ 17 := m15
  have m16 : γ 1 15 0 90 = ρ 18 := m16
  have m19 : γ 1 106 0 (ρ 15) = ρ 20 := m19
  have m20 : γ 0 66 0 (ρ 7) = ρ 21 := m20
  have m21 : γ 0 70 0 (4 * ρ 0) = ρ 22 := m21
  have m22 : γ 0 70 0 (4 * ρ 0 + 1) = ρ 23 := m22
  have m23 : γ 1 105 0 (4 * ρ 15 + 1) = ρ 24 := m23
  have m24 : γ 0 70 0 (4 * ρ 0 + 2) = ρ 25 := m24
  have m25 : γ 0 70 0 (4 * ρ 0 + 3) = ρ 26 := m25
  have m26 : γ 1 105 0 (4 * ρ 15 + 3) = ρ 27 := m26
  obtain ⟨⟨⟨⟨⟨-, c2⟩, c3⟩, c4⟩, c5⟩, -⟩ := hc
  have c2 : γ 2 = rUp (γ 1) 102 0 0 (ρ 20) := c2
  have c3 : γ 3 = rUp (γ 2) 102 0 1 (ρ 24) := c3
  have c4 : γ 4 = rUp (γ 3) 102 0 2 (ρ 20) := c4
  have c5 : γ 5 = rUp (γ 4) 102 0 3 (ρ 27) := c5
  obtain ⟨l0, -⟩ := hl
  have l0 : sn57 [ρ 7, ρ 0, ρ 2, ρ 19, ρ 28, ρ 29, ρ 30, ρ 10, ρ 17] (γ 5) 0 0 (γ 6) := hS57 _ _ _ _ _ l0
  show jn75 [ρ 0, ρ 1, ρ 2, ρ 3, ρ 4, ρ 5, ρ 6, ρ 7, ρ 8, ρ 9, ρ 10, ρ 11, ρ 12, ρ 13, ρ 14] (γ 0) 0 [ρ 0, ρ 1, ρ 2, ρ 3, ρ 4, ρ 5, ρ 6, ρ 7, ρ 8, ρ 9, ρ 10, ρ 11, ρ 12, ρ 13, ρ 14, ρ 15 + 1, ρ 16, ρ 35, ρ 18, ρ 31] (γ 6)
  have hD : en75 (γ 0) (0, [ρ 0, ρ 15], γ 1) = .inl (0, [ρ 0, ρ 15 + 1], γ 6) := by
    unfold en75
    refine (if_pos (show (0 : Nat) = 0 by decide)).trans ?_
    refine (zLet_eq (show _ = γ 1 from rfl)).trans ?_
    refine (zLet_eq (show _ = ρ 0 from rfl)).trans ?_
    refine (zLet_eq (show _ = ρ 15 from rfl)).trans ?_
    refine (zLet_eq m2).trans ?_
    refine (zLet_eq m6).trans ?_
    refine (zLet_eq m15).trans ?_
    refine (zLet_eq m16).trans ?_
    refine (if_neg w_0).trans ?_
    refine (if_neg w_1).trans ?_
    refine (if_pos w_2).trans ?_
    refine (if_neg w_3).trans ?_
    refine (zLet_eq m19).trans ?_
    refine (zLet_eq m20).trans ?_
    refine (if_neg w_4).trans ?_
    refine (zLet_eq m21).trans ?_
    refine (if_neg w_5).trans ?_
    refine (zLet_eq c2.symm).trans ?_
    refine (if_neg w_6).trans ?_
    refine (zLet_eq m22).trans ?_
    refine (if_pos w_7).trans ?_
    refine (zLet_eq m23).trans ?_
    refine (zLet_eq c3.symm).trans ?_
    refine (if_neg w_8).trans ?_
    refine (zLet_eq m24).trans ?_
    refine (if_neg w_9).trans ?_
    refine (zLet_eq c4.symm).trans ?_
    refine (if_neg w_10).trans ?_
    refine (zLet_eq m25).trans ?_
    refine (if_pos w_11).trans ?_
    refine (zLet_eq m26).trans ?_
    refine (zLet_eq c5.symm).trans ?_
    refine (zLet_eq (show fn57 [ρ 7, ρ 0] (γ 5) = (0, 0, γ 6) from l0.symm)).trans ?_
    refine (zLet_eq (show _ = γ 6 from rfl)).trans ?_
    rfl
  exact zGoo_ato hJ hD
theorem vn75a0_56 {S : Nat → zSpc} (hS57 : ∀ x g o v gz, S 57 x g o v gz → sn57 x g o v gz) (hS73 : ∀ x g o v gz, S 73 x g o v gz → sn73 x g o v gz) {a : List Int} {g : rHp} : ∀ (ρ : Nat → Int) (γ : Nat → rHp), jn75 a g 0 (zAg (zNA a75_ 0) ρ) (γ 1) → zO 15 S a g q75a0_56 ρ γ → zGl (fun i vs g1 => jn75 a g i vs g1) (sn75 a g) q75a0_56 ρ γ := by
  intro ρ γ hJ h
  obtain ⟨ha, hg, hr, hf, hm, hc, hl⟩ := h
  have ha : a = [ρ 0, ρ 1, ρ 2, ρ 3, ρ 4, ρ 5, ρ 6, ρ 7, ρ 8, ρ 9, ρ 10, ρ 11, ρ 12, ρ 13, ρ 14] := ha
  subst ha
  subst hg
  have hJ : jn75 [ρ 0, ρ 1, ρ 2, ρ 3, ρ 4, ρ 5, ρ 6, ρ 7, ρ 8, ρ 9, ρ 10, ρ 11, ρ 12, ρ 13, ρ 14] (γ 0) 0 [ρ 0, ρ 1, ρ 2, ρ 3, ρ 4, ρ 5, ρ 6, ρ 7, ρ 8, ρ 9, ρ 10, ρ 11, ρ 12, ρ 13, ρ 14, ρ 15, ρ 16, ρ 17, ρ 18, ρ 19] (γ 1) := hJ
  obtain ⟨-, -, -, r3, -, -, -, -, -, -, -, -, -, -, -, -, -, r17, -, -, -, r21, r22, r23, -, r25, r26, -⟩ := hr
  have r3 : (1 : Int) ≤ ρ 3 ∧ ρ 3 ≤ 1 := r3
  have r17 : (0 : Int) ≤ ρ 17 ∧ ρ 17 ≤ 0 := r17
  have r21 : (4 : Int) ≤ ρ 21 ∧ ρ 21 ≤ 4 := r21
  have r22 : (3 : Int) ≤ ρ 22 ∧ ρ 22 ≤ 3 := r22
  have r23 : (0 : Int) ≤ ρ 23 ∧ ρ 23 ≤ 2 := r23
  have r25 : (3 : Int) ≤ ρ 25 ∧ ρ 25 ≤ 3 := r25
  have r26 : (3 : Int) ≤ ρ 26 ∧ ρ 26 ≤ 3 := r26
  obtain ⟨-, -, -, f3, -⟩ := hf
  have f3 : (0 : Int) ≤ ρ 18 + -ρ 15 + (-1) := f3
  obtain ⟨w_0, w_1, w_2, w_3, w_4, w_5, w_6, w_7, w_8, w_9, w_10, w_11⟩ : (¬ (ρ 15 ≥ ρ 18)) ∧ (¬ (ρ 17 ≠ 0)) ∧ (ρ 3 ≤ 2) ∧ (¬ (ρ 3 ≠ 1)) ∧ (¬ (0 ≥ ρ 21)) ∧ (¬ (ρ 22 ≠ 3)) ∧ (¬ (1 ≥ ρ 21)) ∧ (ρ 23 ≠ 3) ∧ (¬ (2 ≥ ρ 21)) ∧ (¬ (ρ 25 ≠ 3)) ∧ (¬ (3 ≥ ρ 21)) ∧ (¬ (ρ 26 ≠ 3)) := ⟨by omega, by omega, by omega, by omega, by omega, by omega, by omega, by omega, by omega, by omega, by omega, by omega⟩
  obtain ⟨-, -, m2, -, -, -, m6, -, -, -, -, -, -, -, -, m15, m16, -, -, m19, m20, m21, m22, m23, m24, m25, -⟩ := hm
  have m2 : γ 0 71 0 (ρ 0) = ρ 3 := m2
  have m6 : γ 0 69 0 (ρ 0) = ρ 7 := m6
  have m15 : γ 1 15 0 77 = ρ 17 := m15
  have m16 : γ 1 15 0 90 = ρ 18 := m16
  have m19 : γ 1 106 0 (ρ 15) = ρ 20 := m19
  have m20 : γ 0 66 0 (ρ 7) = ρ 21 := m20
  have m21 : γ 0 70 0 (4 * ρ 0) = ρ 22 := m21
  have m22 : γ 0 70 0 (4 * ρ 0 + 1) = ρ 23 := m22
  have m23 : γ 1 105 0 (4 * ρ 15 + 1) = ρ 24 := m23
  have m24 : γ 0 70 0 (4 * ρ 0 + 2) = ρ 25 := m24
  have m25 : γ 0 70 0 (4 * ρ 0 + 3) = ρ 26 := m25
  obtain ⟨⟨⟨⟨⟨-, c2⟩, c3⟩, c4⟩, c5⟩, -⟩ := hc
  have c2 : γ 2 = rUp (γ 1) 102 0 0 (ρ 20) := c2
  have c3 : γ 3 = rUp (γ 2) 102 0 1 (ρ 24) := c3
  have c4 : γ 4 = rUp (γ 3) 102 0 2 (ρ 20) := c4
  have c5 : γ 5 = rUp (γ 4) 102 0 3 (ρ 20) := c5
  obtain ⟨l0, -⟩ := hl
  have l0 : sn57 [ρ 7, ρ 0, ρ 2, ρ 19, ρ 27, ρ 28, ρ 29, ρ 10, ρ 17] (γ 5) 0 0 (γ 6) := hS57 _ _ _ _ _ l0
  show jn75 [ρ 0, ρ 1, ρ 2, ρ 3, ρ 4, ρ 5, ρ 6, ρ 7, ρ 8, ρ 9, ρ 10, ρ 11, ρ 12, ρ 13, ρ 14] (γ 0) 0 [ρ 0, ρ 1, ρ 2, ρ 3, ρ 4, ρ 5, ρ 6, ρ 7, ρ 8, ρ 9, ρ 10, ρ 11, ρ 12, ρ 13, ρ 14, ρ 15 + 1, ρ 16, ρ 34, ρ 18, ρ 30] (γ 6)
  have hD : en75 (γ 0) (0, [ρ 0, ρ 15], γ 1) = .inl (0, [ρ 0, ρ 15 + 1], γ 6) := by
    unfold en75
    refine (if_pos (show (0 : Nat) = 0 by decide)).trans ?_
    refine (zLet_eq (show _ = γ 1 from rfl)).trans ?_
    refine (zLet_eq (show _ = ρ 0 from rfl)).trans ?_
    refine (zLet_eq (show _ = ρ 15 from rfl)).trans ?_
    refine (zLet_eq m2).trans ?_
    refine (zLet_eq m6).trans ?_
    refine (zLet_eq m15).trans ?_
    refine (zLet_eq m16).trans ?_
    refine (if_neg w_0).trans ?_
    refine (if_neg w_1).trans ?_
    refine (if_pos w_2).trans ?_
    refine (if_neg w_3).trans ?_
    refine (zLet_eq m19).trans ?_
    refine (zLet_eq m20).trans ?_
    refine (if_neg w_4).trans ?_
    refine (zLet_eq m21).trans ?_
    refine (if_neg w_5).trans ?_
    refine (zLet_eq c2.symm).trans ?_
    refine (if_neg w_6).trans ?_
    refine (zLet_eq m22).trans ?_
    refine (if_pos w_7).trans ?_
    refine (zLet_eq m23).trans ?_
    refine (zLet_eq c3.symm).trans ?_
    refine (if_neg w_8).trans ?_
    refine (zLet_eq m24).trans ?_
    refine (if_neg w_9).trans ?_
    refine (zLet_eq c4.symm).trans ?_
    refine (if_neg w_10).trans ?_
    refine (zLet_eq m25).trans ?_
    refine (if_neg w_11).trans ?_
    refine (zLet_eq c5.symm).trans ?_
    refine (zLet_eq (show fn57 [ρ 7, ρ 0] (γ 5) = (0, 0, γ 6) from l0.symm)).trans ?_
    refine (zLet_eq (show _ = γ 6 from rfl)).trans ?_
    rfl
  exact zGoo_ato hJ hD
theorem vn75a0_57 {S : Nat → zSpc} (hS57 : ∀ x g o v gz, S 57 x g o v gz → sn57 x g o v gz) (hS73 : ∀ x g o v gz, S 73 x g o v gz → sn73 x g o v gz) {a : List Int} {g : rHp} : ∀ (ρ : Nat → Int) (γ : Nat → rHp), jn75 a g 0 (zAg (zNA a75_ 0) ρ) (γ 1) → zO 15 S a g q75a0_57 ρ γ → zGl (fun i vs g1 => jn75 a g i vs g1) (sn75 a g) q75a0_57 ρ γ := by
  intro ρ γ hJ h
  obtain ⟨ha, hg, hr, hf, hm, hc, hl⟩ := h
  have ha : a = [ρ 0, ρ 1, ρ 2, ρ 3, ρ 4, ρ 5, ρ 6, ρ 7, ρ 8, ρ 9, ρ 10, ρ 11, ρ 12, ρ 13, ρ 14] := ha
  subst ha
  subst hg
  have hJ : jn75 [ρ 0, ρ 1, ρ 2, ρ 3, ρ 4, ρ 5, ρ 6, ρ 7, ρ 8, ρ 9, ρ 10, ρ 11, ρ 12, ρ 13, ρ 14] (γ 0) 0 [ρ 0, ρ 1, ρ 2, ρ 3, ρ 4, ρ 5, ρ 6, ρ 7, ρ 8, ρ 9, ρ 10, ρ 11, ρ 12, ρ 13, ρ 14, ρ 15, ρ 16, ρ 17, ρ 18, ρ 19] (γ 1) := hJ
  obtain ⟨-, -, -, r3, -, -, -, -, -, -, -, -, -, -, -, -, -, r17, -, -, -, r21, r22, r23, -⟩ := hr
  have r3 : (1 : Int) ≤ ρ 3 ∧ ρ 3 ≤ 1 := r3
  have r17 : (0 : Int) ≤ ρ 17 ∧ ρ 17 ≤ 0 := r17
  have r21 : (2 : Int) ≤ ρ 21 ∧ ρ 21 ≤ 2 := r21
  have r22 : (3 : Int) ≤ ρ 22 ∧ ρ 22 ≤ 3 := r22
  have r23 : (3 : Int) ≤ ρ 23 ∧ ρ 23 ≤ 3 := r23
  obtain ⟨-, -, -, f3, -⟩ := hf
  have f3 : (0 : Int) ≤ ρ 18 + -ρ 15 + (-1) := f3
  obtain ⟨w_0, w_1, w_2, w_3, w_4, w_5, w_6, w_7, w_8⟩ : (¬ (ρ 15 ≥ ρ 18)) ∧ (¬ (ρ 17 ≠ 0)) ∧ (ρ 3 ≤ 2) ∧ (¬ (ρ 3 ≠ 1)) ∧ (¬ (0 ≥ ρ 21)) ∧ (¬ (ρ 22 ≠ 3)) ∧ (¬ (1 ≥ ρ 21)) ∧ (¬ (ρ 23 ≠ 3)) ∧ (2 ≥ ρ 21) := ⟨by omega, by omega, by omega, by omega, by omega, by omega, by omega, by omega, by omega⟩
  obtain ⟨-, -, m2, -, -, -, m6, -, -, -, -, -, -, -, -, m15, m16, -, -, m19, m20, m21, m22, m23, m24, -⟩ := hm
  have m2 : γ 0 71 0 (ρ 0) = ρ 3 := m2
  have m6 : γ 0 69 0 (ρ 0) = ρ 7 := m6
  have m15 : γ 1 15 0 77 = ρ 17 := m15
  have m16 : γ 1 15 0 90 = ρ 18 := m16
  have m19 : γ 1 106 0 (ρ 15) = ρ 20 := m19
  have m20 : γ 0 66 0 (ρ 7) = ρ 21 := m20
  have m21 : γ 0 70 0 (4 * ρ 0) = ρ 22 := m21
  have m22 : γ 0 70 0 (4 * ρ 0 + 1) = ρ 23 := m22
  have m23 : γ 1 105 0 (4 * ρ 15 + 2) = ρ 24 := m23
  have m24 : γ 1 105 0 (4 * ρ 15 + 3) = ρ 25 := m24
  obtain ⟨⟨⟨⟨⟨-, c2⟩, c3⟩, c4⟩, c5⟩, -⟩ := hc
  have c2 : γ 2 = rUp (γ 1) 102 0 0 (ρ 20) := c2
  have c3 : γ 3 = rUp (γ 2) 102 0 1 (ρ 20) := c3
  have c4 : γ 4 = rUp (γ 3) 102 0 2 (ρ 24) := c4
  have c5 : γ 5 = rUp (γ 4) 102 0 3 (ρ 25) := c5
  obtain ⟨l0, -⟩ := hl
  have l0 : sn57 [ρ 7, ρ 0, ρ 2, ρ 19, ρ 26, ρ 27, ρ 28, ρ 10, ρ 17] (γ 5) 0 0 (γ 6) := hS57 _ _ _ _ _ l0
  show jn75 [ρ 0, ρ 1, ρ 2, ρ 3, ρ 4, ρ 5, ρ 6, ρ 7, ρ 8, ρ 9, ρ 10, ρ 11, ρ 12, ρ 13, ρ 14] (γ 0) 0 [ρ 0, ρ 1, ρ 2, ρ 3, ρ 4, ρ 5, ρ 6, ρ 7, ρ 8, ρ 9, ρ 10, ρ 11, ρ 12, ρ 13, ρ 14, ρ 15 + 1, ρ 16, ρ 33, ρ 18, ρ 29] (γ 6)
  have hD : en75 (γ 0) (0, [ρ 0, ρ 15], γ 1) = .inl (0, [ρ 0, ρ 15 + 1], γ 6) := by
    unfold en75
    refine (if_pos (show (0 : Nat) = 0 by decide)).trans ?_
    refine (zLet_eq (show _ = γ 1 from rfl)).trans ?_
    refine (zLet_eq (show _ = ρ 0 from rfl)).trans ?_
    refine (zLet_eq (show _ = ρ 15 from rfl)).trans ?_
    refine (zLet_eq m2).trans ?_
    refine (zLet_eq m6).trans ?_
    refine (zLet_eq m15).trans ?_
    refine (zLet_eq m16).trans ?_
    refine (if_neg w_0).trans ?_
    refine (if_neg w_1).trans ?_
    refine (if_pos w_2).trans ?_
    refine (if_neg w_3).trans ?_
    refine (zLet_eq m19).trans ?_
    refine (zLet_eq m20).trans ?_
    refine (if_neg w_4).trans ?_
    refine (zLet_eq m21).trans ?_
    refine (if_neg w_5).trans ?_
    refine (zLet_eq c2.symm).trans ?_
    refine (if_neg w_6).trans ?_
    refine (zLet_eq m22).trans ?_
    refine (if_neg w_7).trans ?_
    refine (zLet_eq c3.symm).trans ?_
    refine (if_pos w_8).trans ?_
    refine (zLet_eq m23).trans ?_
    refine (zLet_eq c4.symm).trans ?_
    refine (zLet_eq m24).trans ?_
    refine (zLet_eq c5.symm).trans ?_
    refine (zLet_eq (show fn57 [ρ 7, ρ 0] (γ 5) = (0, 0, γ 6) from l0.symm)).trans ?_
    refine (zLet_eq (show _ = γ 6 from rfl)).trans ?_
    rfl
  exact zGoo_ato hJ hD
theorem vn75a0_58 {S : Nat → zSpc} (hS57 : ∀ x g o v gz, S 57 x g o v gz → sn57 x g o v gz) (hS73 : ∀ x g o v gz, S 73 x g o v gz → sn73 x g o v gz) {a : List Int} {g : rHp} : ∀ (ρ : Nat → Int) (γ : Nat → rHp), jn75 a g 0 (zAg (zNA a75_ 0) ρ) (γ 1) → zO 15 S a g q75a0_58 ρ γ → zGl (fun i vs g1 => jn75 a g i vs g1) (sn75 a g) q75a0_58 ρ γ := by
  intro ρ γ hJ h
  obtain ⟨ha, hg, hr, hf, hm, hc, hl⟩ := h
  have ha : a = [ρ 0, ρ 1, ρ 2, ρ 3, ρ 4, ρ 5, ρ 6, ρ 7, ρ 8, ρ 9, ρ 10, ρ 11, ρ 12, ρ 13, ρ 14] := ha
  subst ha
  subst hg
  have hJ : jn75 [ρ 0, ρ 1, ρ 2, ρ 3, ρ 4, ρ 5, ρ 6, ρ 7, ρ 8, ρ 9, ρ 10, ρ 11, ρ 12, ρ 13, ρ 14] (γ 0) 0 [ρ 0, ρ 1, ρ 2, ρ 3, ρ 4, ρ 5, ρ 6, ρ 7, ρ 8, ρ 9, ρ 10, ρ 11, ρ 12, ρ 13, ρ 14, ρ 15, ρ 16, ρ 17, ρ 18, ρ 19] (γ 1) := hJ
  obtain ⟨-, -, -, r3, -, -, -, -, -, -, -, -, -, -, -, -, -, r17, -, -, -, r21, r22, r23, r24, -⟩ := hr
  have r3 : (1 : Int) ≤ ρ 3 ∧ ρ 3 ≤ 1 := r3
  have r17 : (0 : Int) ≤ ρ 17 ∧ ρ 17 ≤ 0 := r17
  have r21 : (3 : Int) ≤ ρ 21 ∧ ρ 21 ≤ 3 := r21
  have r22 : (3 : Int) ≤ ρ 22 ∧ ρ 22 ≤ 3 := r22
  have r23 : (3 : Int) ≤ ρ 23 ∧ ρ 23 ≤ 3 := r23
  have r24 : (0 : Int) ≤ ρ 24 ∧ ρ 24 ≤ 2 := r24
  obtain ⟨-, -, -, f3, -⟩ := hf
  have f3 : (0 : Int) ≤ ρ 18 + -ρ 15 + (-1) := f3
  obtain ⟨w_0, w_1, w_2, w_3, w_4, w_5, w_6, w_7, w_8, w_9, w_10⟩ : (¬ (ρ 15 ≥ ρ 18)) ∧ (¬ (ρ 17 ≠ 0)) ∧ (ρ 3 ≤ 2) ∧ (¬ (ρ 3 ≠ 1)) ∧ (¬ (0 ≥ ρ 21)) ∧ (¬ (ρ 22 ≠ 3)) ∧ (¬ (1 ≥ ρ 21)) ∧ (¬ (ρ 23 ≠ 3)) ∧ (¬ (2 ≥ ρ 21)) ∧ (ρ 24 ≠ 3) ∧ (3 ≥ ρ 21) := ⟨by omega, by omega, by omega, by omega, by omega, by omega, by omega, by omega, by omega, by omega, by omega⟩
  obtain ⟨-, -, m2, -, -, -, m6, -, -, -, -, -, -, -, -, m15, m16, -, -, m19, m20, m21, m22, m23, m24, m25, -⟩ := hm
  have m2 : γ 0 71 0 (ρ 0) = ρ 3 := m2
  have m6 : γ 0 69 0 (ρ 0) = ρ 7 := m6
  have m15 : γ 1 15 0 77 = ρ 17 := m15
  have m16 : γ 1 15 0 90 = ρ 18 := m16
  have m19 : γ 1 106 0 (ρ 15) = ρ 20 := m19
  have m20 : γ 0 66 0 (ρ 7) = ρ 21 := m20
  have m21 : γ 0 70 0 (4 * ρ 0) = ρ 22 := m21
  have m22 : γ 0 70 0 (4 * ρ 0 + 1) = ρ 23 := m22
  have m23 : γ 0 70 0 (4 * ρ 0 + 2) = ρ 24 := m23
  have m24 : γ 1 105 0 (4 * ρ 15 + 2) = ρ 25 := m24
  have m25 : γ 1 105 0 (4 * ρ 15 + 3) = ρ 26 := m25
  obtain ⟨⟨⟨⟨⟨-, c2⟩, c3⟩, c4⟩, c5⟩, -⟩ := hc
  have c2 : γ 2 = rUp (γ 1) 102 0 0 (ρ 20) := c2
  have c3 : γ 3 = rUp (γ 2) 102 0 1 (ρ 20) := c3
  have c4 : γ 4 = rUp (γ 3) 102 0 2 (ρ 25) := c4
  have c5 : γ 5 = rUp (γ 4) 102 0 3 (ρ 26) := c5
  obtain ⟨l0, -⟩ := hl
  have l0 : sn57 [ρ 7, ρ 0, ρ 2, ρ 19, ρ 27, ρ 28, ρ 29, ρ 10, ρ 17] (γ 5) 0 0 (γ 6) := hS57 _ _ _ _ _ l0
  show jn75 [ρ 0, ρ 1, ρ 2, ρ 3, ρ 4, ρ 5, ρ 6, ρ 7, ρ 8, ρ 9, ρ 10, ρ 11, ρ 12, ρ 13, ρ 14] (γ 0) 0 [ρ 0, ρ 1, ρ 2, ρ 3, ρ 4, ρ 5, ρ 6, ρ 7, ρ 8, ρ 9, ρ 10, ρ 11, ρ 12, ρ 13, ρ 14, ρ 15 + 1, ρ 16, ρ 34, ρ 18, ρ 30] (γ 6)
  have hD : en75 (γ 0) (0, [ρ 0, ρ 15], γ 1) = .inl (0, [ρ 0, ρ 15 + 1], γ 6) := by
    unfold en75
    refine (if_pos (show (0 : Nat) = 0 by decide)).trans ?_
    refine (zLet_eq (show _ = γ 1 from rfl)).trans ?_
    refine (zLet_eq (show _ = ρ 0 from rfl)).trans ?_
    refine (zLet_eq (show _ = ρ 15 from rfl)).trans ?_
    refine (zLet_eq m2).trans ?_
    refine (zLet_eq m6).trans ?_
    refine (zLet_eq m15).trans ?_
    refine (zLet_eq m16).trans ?_
    refine (if_neg w_0).trans ?_
    refine (if_neg w_1).trans ?_
    refine (if_pos w_2).trans ?_
    refine (if_neg w_3).trans ?_
    refine (zLet_eq m19).trans ?_
    refine (zLet_eq m20).trans ?_
    refine (if_neg w_4).trans ?_
    refine (zLet_eq m21).trans ?_
    refine (if_neg w_5).trans ?_
    refine (zLet_eq c2.symm).trans ?_
    refine (if_neg w_6).trans ?_
    refine (zLet_eq m22).trans ?_
    refine (if_neg w_7).trans ?_
    refine (zLet_eq c3.symm).trans ?_
    refine (if_neg w_8).trans ?_
    refine (zLet_eq m23).trans ?_
    refine (if_pos w_9).trans ?_
    refine (zLet_eq m24).trans ?_
    refine (zLet_eq c4.symm).trans ?_
    refine (if_pos w_10).trans ?_
    refine (zLet_eq m25).trans ?_
    refine (zLet_eq c5.symm).trans ?_
    refine (zLet_eq (show fn57 [ρ 7, ρ 0] (γ 5) = (0, 0, γ 6) from l0.symm)).trans ?_
    refine (zLet_eq (show _ = γ 6 from rfl)).trans ?_
    rfl
  exact zGoo_ato hJ hD
theorem vn75a0_59 {S : Nat → zSpc} (hS57 : ∀ x g o v gz, S 57 x g o v gz → sn57 x g o v gz) (hS73 : ∀ x g o v gz, S 73 x g o v gz → sn73 x g o v gz) {a : List Int} {g : rHp} : ∀ (ρ : Nat → Int) (γ : Nat → rHp), jn75 a g 0 (zAg (zNA a75_ 0) ρ) (γ 1) → zO 15 S a g q75a0_59 ρ γ → zGl (fun i vs g1 => jn75 a g i vs g1) (sn75 a g) q75a0_59 ρ γ := by
  intro ρ γ hJ h
  obtain ⟨ha, hg, hr, hf, hm, hc, hl⟩ := h
  have ha : a = [ρ 0, ρ 1, ρ 2, ρ 3, ρ 4, ρ 5, ρ 6, ρ 7, ρ 8, ρ 9, ρ 10, ρ 11, ρ 12, ρ 13, ρ 14] := ha
  subst ha
  subst hg
  have hJ : jn75 [ρ 0, ρ 1, ρ 2, ρ 3, ρ 4, ρ 5, ρ 6, ρ 7, ρ 8, ρ 9, ρ 10, ρ 11, ρ 12, ρ 13, ρ 14] (γ 0) 0 [ρ 0, ρ 1, ρ 2, ρ 3, ρ 4, ρ 5, ρ 6, ρ 7, ρ 8, ρ 9, ρ 10, ρ 11, ρ 12, ρ 13, ρ 14, ρ 15, ρ 16, ρ 17, ρ 18, ρ 19] (γ 1) := hJ
  obtain ⟨-, -, -, r3, -, -, -, -, -, -, -, -, -, -, -, -, -, r17, -, -, -, r21, r22, r23, r24, -, r26, -⟩ := hr
  have r3 : (1 : Int) ≤ ρ 3 ∧ ρ 3 ≤ 1 := r3
  have r17 : (0 : Int) ≤ ρ 17 ∧ ρ 17 ≤ 0 := r17
  have r21 : (4 : Int) ≤ ρ 21 ∧ ρ 21 ≤ 4 := r21
  have r22 : (3 : Int) ≤ ρ 22 ∧ ρ 22 ≤ 3 := r22
  have r23 : (3 : Int) ≤ ρ 23 ∧ ρ 23 ≤ 3 := r23
  have r24 : (0 : Int) ≤ ρ 24 ∧ ρ 24 ≤ 2 := r24
  have r26 : (0 : Int) ≤ ρ 26 ∧ ρ 26 ≤ 2 := r26
  obtain ⟨-, -, -, f3, -⟩ := hf
  have f3 : (0 : Int) ≤ ρ 18 + -ρ 15 + (-1) := f3
  obtain ⟨w_0, w_1, w_2, w_3, w_4, w_5, w_6, w_7, w_8, w_9, w_10, w_11⟩ : (¬ (ρ 15 ≥ ρ 18)) ∧ (¬ (ρ 17 ≠ 0)) ∧ (ρ 3 ≤ 2) ∧ (¬ (ρ 3 ≠ 1)) ∧ (¬ (0 ≥ ρ 21)) ∧ (¬ (ρ 22 ≠ 3)) ∧ (¬ (1 ≥ ρ 21)) ∧ (¬ (ρ 23 ≠ 3)) ∧ (¬ (2 ≥ ρ 21)) ∧ (ρ 24 ≠ 3) ∧ (¬ (3 ≥ ρ 21)) ∧ (ρ 26 ≠ 3) := ⟨by omega, by omega, by omega, by omega, by omega, by omega, by omega, by omega, by omega, by omega, by omega, by omega⟩
  obtain ⟨-, -, m2, -, -, -, m6, -, -, -, -, -, -, -, -, m15, m16, -, -, m19, m20, m21, m22, m23, m24, m25, m26, -⟩ := hm
  have m2 : γ 0 71 0 (ρ 0) = ρ 3 := m2
  have m6 : γ 0 69 0 (ρ 0) = ρ 7 := m6
  have m15 : γ 1 15 0 77 = ρ 17 := m15
  have m16 : γ 1 15 0 90 = ρ 18 := m16
  have m19 : γ 1 106 0 (ρ 15) = ρ 20 := m19
  have m20 : γ 0 66 0 (ρ 7) = ρ 21 := m20
  have m21 : γ 0 70 0 (4 * ρ 0) = ρ 22 := m21
  have m22 : γ 0 70 0 (4 * ρ 0 + 1) = ρ 23 := m22
  have m23 : γ 0 70 0 (4 * ρ 0 + 2) = ρ 24 := m23
  have m24 : γ 1 105 0 (4 * ρ 15 + 2) = ρ 25 := m24
  have m25 : γ 0 70 0 (4 * ρ 0 + 3) = ρ 26 := m25
  have m26 : γ 1 105 0 (4 * ρ 15 + 3) = ρ 27 := m26
  obtain ⟨⟨⟨⟨⟨-, c2⟩, c3⟩, c4⟩, c5⟩, -⟩ := hc
  have c2 : γ 2 = rUp (γ 1) 102 0 0 (ρ 20) := c2
  have c3 : γ 3 = rUp (γ 2) 102 0 1 (ρ 20) := c3
  have c4 : γ 4 = rUp (γ 3) 102 0 2 (ρ 25) := c4
  have c5 : γ 5 = rUp (γ 4) 102 0 3 (ρ 27) := c5
  obtain ⟨l0, -⟩ := hl
  have l0 : sn57 [ρ 7, ρ 0, ρ 2, ρ 19, ρ 28, ρ 29, ρ 30, ρ 10, ρ 17] (γ 5) 0 0 (γ 6) := hS57 _ _ _ _ _ l0
  show jn75 [ρ 0, ρ 1, ρ 2, ρ 3, ρ 4, ρ 5, ρ 6, ρ 7, ρ 8, ρ 9, ρ 10, ρ 11, ρ 12, ρ 13, ρ 14] (γ 0) 0 [ρ 0, ρ 1, ρ 2, ρ 3, ρ 4, ρ 5, ρ 6, ρ 7, ρ 8, ρ 9, ρ 10, ρ 11, ρ 12, ρ 13, ρ 14, ρ 15 + 1, ρ 16, ρ 35, ρ 18, ρ 31] (γ 6)
  have hD : en75 (γ 0) (0, [ρ 0, ρ 15], γ 1) = .inl (0, [ρ 0, ρ 15 + 1], γ 6) := by
    unfold en75
    refine (if_pos (show (0 : Nat) = 0 by decide)).trans ?_
    refine (zLet_eq (show _ = γ 1 from rfl)).trans ?_
    refine (zLet_eq (show _ = ρ 0 from rfl)).trans ?_
    refine (zLet_eq (show _ = ρ 15 from rfl)).trans ?_
    refine (zLet_eq m2).trans ?_
    refine (zLet_eq m6).trans ?_
    refine (zLet_eq m15).trans ?_
    refine (zLet_eq m16).trans ?_
    refine (if_neg w_0).trans ?_
    refine (if_neg w_1).trans ?_
    refine (if_pos w_2).trans ?_
    refine (if_neg w_3).trans ?_
    refine (zLet_eq m19).trans ?_
    refine (zLet_eq m20).trans ?_
    refine (if_neg w_4).trans ?_
    refine (zLet_eq m21).trans ?_
    refine (if_neg w_5).trans ?_
    refine (zLet_eq c2.symm).trans ?_
    refine (if_neg w_6).trans ?_
    refine (zLet_eq m22).trans ?_
    refine (if_neg w_7).trans ?_
    refine (zLet_eq c3.symm).trans ?_
    refine (if_neg w_8).trans ?_
    refine (zLet_eq m23).trans ?_
    refine (if_pos w_9).trans ?_
    refine (zLet_eq m24).trans ?_
    refine (zLet_eq c4.symm).trans ?_
    refine (if_neg w_10).trans ?_
    refine (zLet_eq m25).trans ?_
    refine (if_pos w_11).trans ?_
    refine (zLet_eq m26).trans ?_
    refine (zLet_eq c5.symm).trans ?_
    refine (zLet_eq (show fn57 [ρ 7, ρ 0] (γ 5) = (0, 0, γ 6) from l0.symm)).trans ?_
    refine (zLet_eq (show _ = γ 6 from rfl)).trans ?_
    rfl
  exact zGoo_ato hJ hD
theorem vn75a0_60 {S : Nat → zSpc} (hS57 : ∀ x g o v gz, S 57 x g o v gz → sn57 x g o v gz) (hS73 : ∀ x g o v gz, S 73 x g o v gz → sn73 x g o v gz) {a : List Int} {g : rHp} : ∀ (ρ : Nat → Int) (γ : Nat → rHp), jn75 a g 0 (zAg (zNA a75_ 0) ρ) (γ 1) → zO 15 S a g q75a0_60 ρ γ → zGl (fun i vs g1 => jn75 a g i vs g1) (sn75 a g) q75a0_60 ρ γ := by
  intro ρ γ hJ h
  obtain ⟨ha, hg, hr, hf, hm, hc, hl⟩ := h
  have ha : a = [ρ 0, ρ 1, ρ 2, ρ 3, ρ 4, ρ 5, ρ 6, ρ 7, ρ 8, ρ 9, ρ 10, ρ 11, ρ 12, ρ 13, ρ 14] := ha
  subst ha
  subst hg
  have hJ : jn75 [ρ 0, ρ 1, ρ 2, ρ 3, ρ 4, ρ 5, ρ 6, ρ 7, ρ 8, ρ 9, ρ 10, ρ 11, ρ 12, ρ 13, ρ 14] (γ 0) 0 [ρ 0, ρ 1, ρ 2, ρ 3, ρ 4, ρ 5, ρ 6, ρ 7, ρ 8, ρ 9, ρ 10, ρ 11, ρ 12, ρ 13, ρ 14, ρ 15, ρ 16, ρ 17, ρ 18, ρ 19] (γ 1) := hJ
  obtain ⟨-, -, -, r3, -, -, -, -, -, -, -, -, -, -, -, -, -, r17, -, -, -, r21, r22, r23, r24, -, r26, -⟩ := hr
  have r3 : (1 : Int) ≤ ρ 3 ∧ ρ 3 ≤ 1 := r3
  have r17 : (0 : Int) ≤ ρ 17 ∧ ρ 17 ≤ 0 := r17
  have r21 : (4 : Int) ≤ ρ 21 ∧ ρ 21 ≤ 4 := r21
  have r22 : (3 : Int) ≤ ρ 22 ∧ ρ 22 ≤ 3 := r22
  have r23 : (3 : Int) ≤ ρ 23 ∧ ρ 23 ≤ 3 := r23
  have r24 : (0 : Int) ≤ ρ 24 ∧ ρ 24 ≤ 2 := r24
  have r26 : (3 : Int) ≤ ρ 26 ∧ ρ 26 ≤ 3 := r26
  obtain ⟨-, -, -, f3, -⟩ := hf
  have f3 : (0 : Int) ≤ ρ 18 + -ρ 15 + (-1) := f3
  obtain ⟨w_0, w_1, w_2, w_3, w_4, w_5, w_6, w_7, w_8, w_9, w_10, w_11⟩ : (¬ (ρ 15 ≥ ρ 18)) ∧ (¬ (ρ 17 ≠ 0)) ∧ (ρ 3 ≤ 2) ∧ (¬ (ρ 3 ≠ 1)) ∧ (¬ (0 ≥ ρ 21)) ∧ (¬ (ρ 22 ≠ 3)) ∧ (¬ (1 ≥ ρ 21)) ∧ (¬ (ρ 23 ≠ 3)) ∧ (¬ (2 ≥ ρ 21)) ∧ (ρ 24 ≠ 3) ∧ (¬ (3 ≥ ρ 21)) ∧ (¬ (ρ 26 ≠ 3)) := ⟨by omega, by omega, by omega, by omega, by omega, by omega, by omega, by omega, by omega, by omega, by omega, by omega⟩
  obtain ⟨-, -, m2, -, -, -, m6, -, -, -, -, -, -, -, -, m15, m16, -, -, m19, m20, m21, m22, m23, m24, m25, -⟩ := hm
  have m2 : γ 0 71 0 (ρ 0) = ρ 3 := m2
  have m6 : γ 0 69 0 (ρ 0) = ρ 7 := m6
  have m15 : γ 1 15 0 77 = ρ 17 := m15
  have m16 : γ 1 15 0 90 = ρ 18 := m16
  have m19 : γ 1 106 0 (ρ 15) = ρ 20 := m19
  have m20 : γ 0 66 0 (ρ 7) = ρ 21 := m20
  have m21 : γ 0 70 0 (4 * ρ 0) = ρ 22 := m21
  have m22 : γ 0 70 0 (4 * ρ 0 + 1) = ρ 23 := m22
  have m23 : γ 0 70 0 (4 * ρ 0 + 2) = ρ 24 := m23
  have m24 : γ 1 105 0 (4 * ρ 15 + 2) = ρ 25 := m24
  have m25 : γ 0 70 0 (4 * ρ 0 + 3) = ρ 26 := m25
  obtain ⟨⟨⟨⟨⟨-, c2⟩, c3⟩, c4⟩, c5⟩, -⟩ := hc
  have c2 : γ 2 = rUp (γ 1) 102 0 0 (ρ 20) := c2
  have c3 : γ 3 = rUp (γ 2) 102 0 1 (ρ 20) := c3
  have c4 : γ 4 = rUp (γ 3) 102 0 2 (ρ 25) := c4
  have c5 : γ 5 = rUp (γ 4) 102 0 3 (ρ 20) := c5
  obtain ⟨l0, -⟩ := hl
  have l0 : sn57 [ρ 7, ρ 0, ρ 2, ρ 19, ρ 27, ρ 28, ρ 29, ρ 10, ρ 17] (γ 5) 0 0 (γ 6) := hS57 _ _ _ _ _ l0
  show jn75 [ρ 0, ρ 1, ρ 2, ρ 3, ρ 4, ρ 5, ρ 6, ρ 7, ρ 8, ρ 9, ρ 10, ρ 11, ρ 12, ρ 13, ρ 14] (γ 0) 0 [ρ 0, ρ 1, ρ 2, ρ 3, ρ 4, ρ 5, ρ 6, ρ 7, ρ 8, ρ 9, ρ 10, ρ 11, ρ 12, ρ 13, ρ 14, ρ 15 + 1, ρ 16, ρ 34, ρ 18, ρ 30] (γ 6)
  have hD : en75 (γ 0) (0, [ρ 0, ρ 15], γ 1) = .inl (0, [ρ 0, ρ 15 + 1], γ 6) := by
    unfold en75
    refine (if_pos (show (0 : Nat) = 0 by decide)).trans ?_
    refine (zLet_eq (show _ = γ 1 from rfl)).trans ?_
    refine (zLet_eq (show _ = ρ 0 from rfl)).trans ?_
    refine (zLet_eq (show _ = ρ 15 from rfl)).trans ?_
    refine (zLet_eq m2).trans ?_
    refine (zLet_eq m6).trans ?_
    refine (zLet_eq m15).trans ?_
    refine (zLet_eq m16).trans ?_
    refine (if_neg w_0).trans ?_
    refine (if_neg w_1).trans ?_
    refine (if_pos w_2).trans ?_
    refine (if_neg w_3).trans ?_
    refine (zLet_eq m19).trans ?_
    refine (zLet_eq m20).trans ?_
    refine (if_neg w_4).trans ?_
    refine (zLet_eq m21).trans ?_
    refine (if_neg w_5).trans ?_
    refine (zLet_eq c2.symm).trans ?_
    refine (if_neg w_6).trans ?_
    refine (zLet_eq m22).trans ?_
    refine (if_neg w_7).trans ?_
    refine (zLet_eq c3.symm).trans ?_
    refine (if_neg w_8).trans ?_
    refine (zLet_eq m23).trans ?_
    refine (if_pos w_9).trans ?_
    refine (zLet_eq m24).trans ?_
    refine (zLet_eq c4.symm).trans ?_
    refine (if_neg w_10).trans ?_
    refine (zLet_eq m25).trans ?_
    refine (if_neg w_11).trans ?_
    refine (zLet_eq c5.symm).trans ?_
    refine (zLet_eq (show fn57 [ρ 7, ρ 0] (γ 5) = (0, 0, γ 6) from l0.symm)).trans ?_
    refine (zLet_eq (show _ = γ 6 from rfl)).trans ?_
    rfl
  exact zGoo_ato hJ hD
theorem vn75a0_61 {S : Nat → zSpc} (hS57 : ∀ x g o v gz, S 57 x g o v gz → sn57 x g o v gz) (hS73 : ∀ x g o v gz, S 73 x g o v gz → sn73 x g o v gz) {a : List Int} {g : rHp} : ∀ (ρ : Nat → Int) (γ : Nat → rHp), jn75 a g 0 (zAg (zNA a75_ 0) ρ) (γ 1) → zO 15 S a g q75a0_61 ρ γ → zGl (fun i vs g1 => jn75 a g i vs g1) (sn75 a g) q75a0_61 ρ γ := by
  intro ρ γ hJ h
  obtain ⟨ha, hg, hr, hf, hm, hc, hl⟩ := h
  have ha : a = [ρ 0, ρ 1, ρ 2, ρ 3, ρ 4, ρ 5, ρ 6, ρ 7, ρ 8, ρ 9, ρ 10, ρ 11, ρ 12, ρ 13, ρ 14] := ha
  subst ha
  subst hg
  have hJ : jn75 [ρ 0, ρ 1, ρ 2, ρ 3, ρ 4, ρ 5, ρ 6, ρ 7, ρ 8, ρ 9, ρ 10, ρ 11, ρ 12, ρ 13, ρ 14] (γ 0) 0 [ρ 0, ρ 1, ρ 2, ρ 3, ρ 4, ρ 5, ρ 6, ρ 7, ρ 8, ρ 9, ρ 10, ρ 11, ρ 12, ρ 13, ρ 14, ρ 15, ρ 16, ρ 17, ρ 18, ρ 19] (γ 1) := hJ
  obtain ⟨-, -, -, r3, -, -, -, -, -, -, -, -, -, -, -, -, -, r17, -, -, -, r21, r22, r23, r24, -⟩ := hr
  have r3 : (1 : Int) ≤ ρ 3 ∧ ρ 3 ≤ 1 := r3
  have r17 : (0 : Int) ≤ ρ 17 ∧ ρ 17 ≤ 0 := r17
  have r21 : (3 : Int) ≤ ρ 21 ∧ ρ 21 ≤ 3 := r21
  have r22 : (3 : Int) ≤ ρ 22 ∧ ρ 22 ≤ 3 := r22
  have r23 : (3 : Int) ≤ ρ 23 ∧ ρ 23 ≤ 3 := r23
  have r24 : (3 : Int) ≤ ρ 24 ∧ ρ 24 ≤ 3 := r24
  obtain ⟨-, -, -, f3, -⟩ := hf
  have f3 : (0 : Int) ≤ ρ 18 + -ρ 15 + (-1) := f3
  obtain ⟨w_0, w_1, w_2, w_3, w_4, w_5, w_6, w_7, w_8, w_9, w_10⟩ : (¬ (ρ 15 ≥ ρ 18)) ∧ (¬ (ρ 17 ≠ 0)) ∧ (ρ 3 ≤ 2) ∧ (¬ (ρ 3 ≠ 1)) ∧ (¬ (0 ≥ ρ 21)) ∧ (¬ (ρ 22 ≠ 3)) ∧ (¬ (1 ≥ ρ 21)) ∧ (¬ (ρ 23 ≠ 3)) ∧ (¬ (2 ≥ ρ 21)) ∧ (¬ (ρ 24 ≠ 3)) ∧ (3 ≥ ρ 21) := ⟨by omega, by omega, by omega, by omega, by omega, by omega, by omega, by omega, by omega, by omega, by omega⟩
  obtain ⟨-, -, m2, -, -, -, m6, -, -, -, -, -, -, -, -, m15, m16, -, -, m19, m20, m21, m22, m23, m24, -⟩ := hm
  have m2 : γ 0 71 0 (ρ 0) = ρ 3 := m2
  have m6 : γ 0 69 0 (ρ 0) = ρ 7 := m6
  have m15 : γ 1 15 0 77 = ρ 17 := m15
  have m16 : γ 1 15 0 90 = ρ 18 := m16
  have m19 : γ 1 106 0 (ρ 15) = ρ 20 := m19
  have m20 : γ 0 66 0 (ρ 7) = ρ 21 := m20
  have m21 : γ 0 70 0 (4 * ρ 0) = ρ 22 := m21
  have m22 : γ 0 70 0 (4 * ρ 0 + 1) = ρ 23 := m22
  have m23 : γ 0 70 0 (4 * ρ 0 + 2) = ρ 24 := m23
  have m24 : γ 1 105 0 (4 * ρ 15 + 3) = ρ 25 := m24
  obtain ⟨⟨⟨⟨⟨-, c2⟩, c3⟩, c4⟩, c5⟩, -⟩ := hc
  have c2 : γ 2 = rUp (γ 1) 102 0 0 (ρ 20) := c2
  have c3 : γ 3 = rUp (γ 2) 102 0 1 (ρ 20) := c3
  have c4 : γ 4 = rUp (γ 3) 102 0 2 (ρ 20) := c4
  have c5 : γ 5 = rUp (γ 4) 102 0 3 (ρ 25) := c5
  obtain ⟨l0, -⟩ := hl
  have l0 : sn57 [ρ 7, ρ 0, ρ 2, ρ 19, ρ 26, ρ 27, ρ 28, ρ 10, ρ 17] (γ 5) 0 0 (γ 6) := hS57 _ _ _ _ _ l0
  show jn75 [ρ 0, ρ 1, ρ 2, ρ 3, ρ 4, ρ 5, ρ 6, ρ 7, ρ 8, ρ 9, ρ 10, ρ 11, ρ 12, ρ 13, ρ 14] (γ 0) 0 [ρ 0, ρ 1, ρ 2, ρ 3, ρ 4, ρ 5, ρ 6, ρ 7, ρ 8, ρ 9, ρ 10, ρ 11, ρ 12, ρ 13, ρ 14, ρ 15 + 1, ρ 16, ρ 33, ρ 18, ρ 29] (γ 6)
  have hD : en75 (γ 0) (0, [ρ 0, ρ 15], γ 1) = .inl (0, [ρ 0, ρ 15 + 1], γ 6) := by
    unfold en75
    refine (if_pos (show (0 : Nat) = 0 by decide)).trans ?_
    refine (zLet_eq (show _ = γ 1 from rfl)).trans ?_
    refine (zLet_eq (show _ = ρ 0 from rfl)).trans ?_
    refine (zLet_eq (show _ = ρ 15 from rfl)).trans ?_
    refine (zLet_eq m2).trans ?_
    refine (zLet_eq m6).trans ?_
    refine (zLet_eq m15).trans ?_
    refine (zLet_eq m16).trans ?_
    refine (if_neg w_0).trans ?_
    refine (if_neg w_1).trans ?_
    refine (if_pos w_2).trans ?_
    refine (if_neg w_3).trans ?_
    refine (zLet_eq m19).trans ?_
    refine (zLet_eq m20).trans ?_
    refine (if_neg w_4).trans ?_
    refine (zLet_eq m21).trans ?_
    refine (if_neg w_5).trans ?_
    refine (zLet_eq c2.symm).trans ?_
    refine (if_neg w_6).trans ?_
    refine (zLet_eq m22).trans ?_
    refine (if_neg w_7).trans ?_
    refine (zLet_eq c3.symm).trans ?_
    refine (if_neg w_8).trans ?_
    refine (zLet_eq m23).trans ?_
    refine (if_neg w_9).trans ?_
    refine (zLet_eq c4.symm).trans ?_
    refine (if_pos w_10).trans ?_
    refine (zLet_eq m24).trans ?_
    refine (zLet_eq c5.symm).trans ?_
    refine (zLet_eq (show fn57 [ρ 7, ρ 0] (γ 5) = (0, 0, γ 6) from l0.symm)).trans ?_
    refine (zLet_eq (show _ = γ 6 from rfl)).trans ?_
    rfl
  exact zGoo_ato hJ hD
theorem vn75a0_62 {S : Nat → zSpc} (hS57 : ∀ x g o v gz, S 57 x g o v gz → sn57 x g o v gz) (hS73 : ∀ x g o v gz, S 73 x g o v gz → sn73 x g o v gz) {a : List Int} {g : rHp} : ∀ (ρ : Nat → Int) (γ : Nat → rHp), jn75 a g 0 (zAg (zNA a75_ 0) ρ) (γ 1) → zO 15 S a g q75a0_62 ρ γ → zGl (fun i vs g1 => jn75 a g i vs g1) (sn75 a g) q75a0_62 ρ γ := by
  intro ρ γ hJ h
  obtain ⟨ha, hg, hr, hf, hm, hc, hl⟩ := h
  have ha : a = [ρ 0, ρ 1, ρ 2, ρ 3, ρ 4, ρ 5, ρ 6, ρ 7, ρ 8, ρ 9, ρ 10, ρ 11, ρ 12, ρ 13, ρ 14] := ha
  subst ha
  subst hg
  have hJ : jn75 [ρ 0, ρ 1, ρ 2, ρ 3, ρ 4, ρ 5, ρ 6, ρ 7, ρ 8, ρ 9, ρ 10, ρ 11, ρ 12, ρ 13, ρ 14] (γ 0) 0 [ρ 0, ρ 1, ρ 2, ρ 3, ρ 4, ρ 5, ρ 6, ρ 7, ρ 8, ρ 9, ρ 10, ρ 11, ρ 12, ρ 13, ρ 14, ρ 15, ρ 16, ρ 17, ρ 18, ρ 19] (γ 1) := hJ
  obtain ⟨-, -, -, r3, -, -, -, -, -, -, -, -, -, -, -, -, -, r17, -, -, -, r21, r22, r23, r24, r25, -⟩ := hr
  have r3 : (1 : Int) ≤ ρ 3 ∧ ρ 3 ≤ 1 := r3
  have r17 : (0 : Int) ≤ ρ 17 ∧ ρ 17 ≤ 0 := r17
  have r21 : (4 : Int) ≤ ρ 21 ∧ ρ 21 ≤ 4 := r21
  have r22 : (3 : Int) ≤ ρ 22 ∧ ρ 22 ≤ 3 := r22
  have r23 : (3 : Int) ≤ ρ 23 ∧ ρ 23 ≤ 3 := r23
  have r24 : (3 : Int) ≤ ρ 24 ∧ ρ 24 ≤ 3 := r24
  have r25 : (0 : Int) ≤ ρ 25 ∧ ρ 25 ≤ 2 := r25
  obtain ⟨-, -, -, f3, -⟩ := hf
  have f3 : (0 : Int) ≤ ρ 18 + -ρ 15 + (-1) := f3
  obtain ⟨w_0, w_1, w_2, w_3, w_4, w_5, w_6, w_7, w_8, w_9, w_10, w_11⟩ : (¬ (ρ 15 ≥ ρ 18)) ∧ (¬ (ρ 17 ≠ 0)) ∧ (ρ 3 ≤ 2) ∧ (¬ (ρ 3 ≠ 1)) ∧ (¬ (0 ≥ ρ 21)) ∧ (¬ (ρ 22 ≠ 3)) ∧ (¬ (1 ≥ ρ 21)) ∧ (¬ (ρ 23 ≠ 3)) ∧ (¬ (2 ≥ ρ 21)) ∧ (¬ (ρ 24 ≠ 3)) ∧ (¬ (3 ≥ ρ 21)) ∧ (ρ 25 ≠ 3) := ⟨by omega, by omega, by omega, by omega, by omega, by omega, by omega, by omega, by omega, by omega, by omega, by omega⟩
  obtain ⟨-, -, m2, -, -, -, m6, -, -, -, -, -, -, -, -, m15, m16, -, -, m19, m20, m21, m22, m23, m24, m25, -⟩ := hm
  have m2 : γ 0 71 0 (ρ 0) = ρ 3 := m2
  have m6 : γ 0 69 0 (ρ 0) = ρ 7 := m6
  have m15 : γ 1 15 0 77 = ρ 17 := m15
  have m16 : γ 1 15 0 90 = ρ 18 := m16
  have m19 : γ 1 106 0 (ρ 15) = ρ 20 := m19
  have m20 : γ 0 66 0 (ρ 7) = ρ 21 := m20
  have m21 : γ 0 70 0 (4 * ρ 0) = ρ 22 := m21
  have m22 : γ 0 70 0 (4 * ρ 0 + 1) = ρ 23 := m22
  have m23 : γ 0 70 0 (4 * ρ 0 + 2) = ρ 24 := m23
  have m24 : γ 0 70 0 (4 * ρ 0 + 3) = ρ 25 := m24
  have m25 : γ 1 105 0 (4 * ρ 15 + 3) = ρ 26 := m25
  obtain ⟨⟨⟨⟨⟨-, c2⟩, c3⟩, c4⟩, c5⟩, -⟩ := hc
  have c2 : γ 2 = rUp (γ 1) 102 0 0 (ρ 20) := c2
  have c3 : γ 3 = rUp (γ 2) 102 0 1 (ρ 20) := c3
  have c4 : γ 4 = rUp (γ 3) 102 0 2 (ρ 20) := c4
  have c5 : γ 5 = rUp (γ 4) 102 0 3 (ρ 26) := c5
  obtain ⟨l0, -⟩ := hl
  have l0 : sn57 [ρ 7, ρ 0, ρ 2, ρ 19, ρ 27, ρ 28, ρ 29, ρ 10, ρ 17] (γ 5) 0 0 (γ 6) := hS57 _ _ _ _ _ l0
  show jn75 [ρ 0, ρ 1, ρ 2, ρ 3, ρ 4, ρ 5, ρ 6, ρ 7, ρ 8, ρ 9, ρ 10, ρ 11, ρ 12, ρ 13, ρ 14] (γ 0) 0 [ρ 0, ρ 1, ρ 2, ρ 3, ρ 4, ρ 5, ρ 6, ρ 7, ρ 8, ρ 9, ρ 10, ρ 11, ρ 12, ρ 13, ρ 14, ρ 15 + 1, ρ 16, ρ 34, ρ 18, ρ 30] (γ 6)
  have hD : en75 (γ 0) (0, [ρ 0, ρ 15], γ 1) = .inl (0, [ρ 0, ρ 15 + 1], γ 6) := by
    unfold en75
    refine (if_pos (show (0 : Nat) = 0 by decide)).trans ?_
    refine (zLet_eq (show _ = γ 1 from rfl)).trans ?_
    refine (zLet_eq (show _ = ρ 0 from rfl)).trans ?_
    refine (zLet_eq (show _ = ρ 15 from rfl)).trans ?_
    refine (zLet_eq m2).trans ?_
    refine (zLet_eq m6).trans ?_
    refine (zLet_eq m15).trans ?_
    refine (zLet_eq m16).trans ?_
    refine (if_neg w_0).trans ?_
    refine (if_neg w_1).trans ?_
    refine (if_pos w_2).trans ?_
    refine (if_neg w_3).trans ?_
    refine (zLet_eq m19).trans ?_
    refine (zLet_eq m20).trans ?_
    refine (if_neg w_4).trans ?_
    refine (zLet_eq m21).trans ?_
    refine (if_neg w_5).trans ?_
    refine (zLet_eq c2.symm).trans ?_
    refine (if_neg w_6).trans ?_
    refine (zLet_eq m22).trans ?_
    refine (if_neg w_7).trans ?_
    refine (zLet_eq c3.symm).trans ?_
    refine (if_neg w_8).trans ?_
    refine (zLet_eq m23).trans ?_
    refine (if_neg w_9).trans ?_
    refine (zLet_eq c4.symm).trans ?_
    refine (if_neg w_10).trans ?_
    refine (zLet_eq m24).trans ?_
    refine (if_pos w_11).trans ?_
    refine (zLet_eq m25).trans ?_
    refine (zLet_eq c5.symm).trans ?_
    refine (zLet_eq (show fn57 [ρ 7, ρ 0] (γ 5) = (0, 0, γ 6) from l0.symm)).trans ?_
    refine (zLet_eq (show _ = γ 6 from rfl)).trans ?_
    rfl
  exact zGoo_ato hJ hD
theorem vn75a0_63 {S : Nat → zSpc} (hS57 : ∀ x g o v gz, S 57 x g o v gz → sn57 x g o v gz) (hS73 : ∀ x g o v gz, S 73 x g o v gz → sn73 x g o v gz) {a : List Int} {g : rHp} : ∀ (ρ : Nat → Int) (γ : Nat → rHp), jn75 a g 0 (zAg (zNA a75_ 0) ρ) (γ 1) → zO 15 S a g q75a0_63 ρ γ → zGl (fun i vs g1 => jn75 a g i vs g1) (sn75 a g) q75a0_63 ρ γ := by
  intro ρ γ hJ h
  obtain ⟨ha, hg, hr, hf, hm, hc, hl⟩ := h
  have ha : a = [ρ 0, ρ 1, ρ 2, ρ 3, ρ 4, ρ 5, ρ 6, ρ 7, ρ 8, ρ 9, ρ 10, ρ 11, ρ 12, ρ 13, ρ 14] := ha
  subst ha
  subst hg
  have hJ : jn75 [ρ 0, ρ 1, ρ 2, ρ 3, ρ 4, ρ 5, ρ 6, ρ 7, ρ 8, ρ 9, ρ 10, ρ 11, ρ 12, ρ 13, ρ 14] (γ 0) 0 [ρ 0, ρ 1, ρ 2, ρ 3, ρ 4, ρ 5, ρ 6, ρ 7, ρ 8, ρ 9, ρ 10, ρ 11, ρ 12, ρ 13, ρ 14, ρ 15, ρ 16, ρ 17, ρ 18, ρ 19] (γ 1) := hJ
  obtain ⟨-, -, -, r3, -, -, -, -, -, -, -, -, -, -, -, -, -, r17, -, -, -, r21, r22, r23, r24, r25, -⟩ := hr
  have r3 : (1 : Int) ≤ ρ 3 ∧ ρ 3 ≤ 1 := r3
  have r17 : (0 : Int) ≤ ρ 17 ∧ ρ 17 ≤ 0 := r17
  have r21 : (4 : Int) ≤ ρ 21 ∧ ρ 21 ≤ 4 := r21
  have r22 : (3 : Int) ≤ ρ 22 ∧ ρ 22 ≤ 3 := r22
  have r23 : (3 : Int) ≤ ρ 23 ∧ ρ 23 ≤ 3 := r23
  have r24 : (3 : Int) ≤ ρ 24 ∧ ρ 24 ≤ 3 := r24
  have r25 : (3 : Int) ≤ ρ 25 ∧ ρ 25 ≤ 3 := r25
  obtain ⟨-, -, -, f3, -⟩ := hf
  have f3 : (0 : Int) ≤ ρ 18 + -ρ 15 + (-1) := f3
  obtain ⟨w_0, w_1, w_2, w_3, w_4, w_5, w_6, w_7, w_8, w_9, w_10, w_11⟩ : (¬ (ρ 15 ≥ ρ 18)) ∧ (¬ (ρ 17 ≠ 0)) ∧ (ρ 3 ≤ 2) ∧ (¬ (ρ 3 ≠ 1)) ∧ (¬ (0 ≥ ρ 21)) ∧ (¬ (ρ 22 ≠ 3)) ∧ (¬ (1 ≥ ρ 21)) ∧ (¬ (ρ 23 ≠ 3)) ∧ (¬ (2 ≥ ρ 21)) ∧ (¬ (ρ 24 ≠ 3)) ∧ (¬ (3 ≥ ρ 21)) ∧ (¬ (ρ 25 ≠ 3)) := ⟨by omega, by omega, by omega, by omega, by omega, by omega, by omega, by omega, by omega, by omega, by omega, by omega⟩
  obtain ⟨-, -, m2, -, -, -, m6, -, -, -, -, -, -, -, -, m15, m16, -, -, m19, m20, m21, m22, m23, m24, -⟩ := hm
  have m2 : γ 0 71 0 (ρ 0) = ρ 3 := m2
  have m6 : γ 0 69 0 (ρ 0) = ρ 7 := m6
  have m15 : γ 1 15 0 77 = ρ 17 := m15
  have m16 : γ 1 15 0 90 = ρ 18 := m16
  have m19 : γ 1 106 0 (ρ 15) = ρ 20 := m19
  have m20 : γ 0 66 0 (ρ 7) = ρ 21 := m20
  have m21 : γ 0 70 0 (4 * ρ 0) = ρ 22 := m21
  have m22 : γ 0 70 0 (4 * ρ 0 + 1) = ρ 23 := m22
  have m23 : γ 0 70 0 (4 * ρ 0 + 2) = ρ 24 := m23
  have m24 : γ 0 70 0 (4 * ρ 0 + 3) = ρ 25 := m24
  obtain ⟨⟨⟨⟨⟨-, c2⟩, c3⟩, c4⟩, c5⟩, -⟩ := hc
  have c2 : γ 2 = rUp (γ 1) 102 0 0 (ρ 20) := c2
  have c3 : γ 3 = rUp (γ 2) 102 0 1 (ρ 20) := c3
  have c4 : γ 4 = rUp (γ 3) 102 0 2 (ρ 20) := c4
  have c5 : γ 5 = rUp (γ 4) 102 0 3 (ρ 20) := c5
  obtain ⟨l0, -⟩ := hl
  have l0 : sn57 [ρ 7, ρ 0, ρ 2, ρ 19, ρ 26, ρ 27, ρ 28, ρ 10, ρ 17] (γ 5) 0 0 (γ 6) := hS57 _ _ _ _ _ l0
  show jn75 [ρ 0, ρ 1, ρ 2, ρ 3, ρ 4, ρ 5, ρ 6, ρ 7, ρ 8, ρ 9, ρ 10, ρ 11, ρ 12, ρ 13, ρ 14] (γ 0) 0 [ρ 0, ρ 1, ρ 2, ρ 3, ρ 4, ρ 5, ρ 6, ρ 7, ρ 8, ρ 9, ρ 10, ρ 11, ρ 12, ρ 13, ρ 14, ρ 15 + 1, ρ 16, ρ 33, ρ 18, ρ 29] (γ 6)
  have hD : en75 (γ 0) (0, [ρ 0, ρ 15], γ 1) = .inl (0, [ρ 0, ρ 15 + 1], γ 6) := by
    unfold en75
    refine (if_pos (show (0 : Nat) = 0 by decide)).trans ?_
    refine (zLet_eq (show _ = γ 1 from rfl)).trans ?_
    refine (zLet_eq (show _ = ρ 0 from rfl)).trans ?_
    refine (zLet_eq (show _ = ρ 15 from rfl)).trans ?_
    refine (zLet_eq m2).trans ?_
    refine (zLet_eq m6).trans ?_
    refine (zLet_eq m15).trans ?_
    refine (zLet_eq m16).trans ?_
    refine (if_neg w_0).trans ?_
    refine (if_neg w_1).trans ?_
    refine (if_pos w_2).trans ?_
    refine (if_neg w_3).trans ?_
    refine (zLet_eq m19).trans ?_
    refine (zLet_eq m20).trans ?_
    refine (if_neg w_4).trans ?_
    refine (zLet_eq m21).trans ?_
    refine (if_neg w_5).trans ?_
    refine (zLet_eq c2.symm).trans ?_
    refine (if_neg w_6).trans ?_
    refine (zLet_eq m22).trans ?_
    refine (if_neg w_7).trans ?_
    refine (zLet_eq c3.symm).trans ?_
    refine (if_neg w_8).trans ?_
    refine (zLet_eq m23).trans ?_
    refine (if_neg w_9).trans ?_
    refine (zLet_eq c4.symm).trans ?_
    refine (if_neg w_10).trans ?_
    refine (zLet_eq m24).trans ?_
    refine (if_neg w_11).trans ?_
    refine (zLet_eq c5.symm).trans ?_
    refine (zLet_eq (show fn57 [ρ 7, ρ 0] (γ 5) = (0, 0, γ 6) from l0.symm)).trans ?_
    refine (zLet_eq (show _ = γ 6 from rfl)).trans ?_
    rfl
  exact zGoo_ato hJ hD
theorem vn75a0_64 {S : Nat → zSpc} (hS57 : ∀ x g o v gz, S 57 x g o v gz → sn57 x g o v gz) (hS73 : ∀ x g o v gz, S 73 x g o v gz → sn73 x g o v gz) {a : List Int} {g : rHp} : ∀ (ρ : Nat → Int) (γ : Nat → rHp), jn75 a g 0 (zAg (zNA a75_ 0) ρ) (γ 1) → zO 15 S a g q75a0_64 ρ γ → zGl (fun i vs g1 => jn75 a g i vs g1) (sn75 a g) q75a0_64 ρ γ := by
  intro ρ γ hJ h
  obtain ⟨ha, hg, hr, hf, hm, hc, hl⟩ := h
  have ha : a = [ρ 0, ρ 1, ρ 2, ρ 3, ρ 4, ρ 5, ρ 6, ρ 7, ρ 8, ρ 9, ρ 10, ρ 11, ρ 12, ρ 13, ρ 14] := ha
  subst ha
  subst hg
  have hJ : jn75 [ρ 0, ρ 1, ρ 2, ρ 3, ρ 4, ρ 5, ρ 6, ρ 7, ρ 8, ρ 9, ρ 10, ρ 11, ρ 12, ρ 13, ρ 14] (γ 0) 0 [ρ 0, ρ 1, ρ 2, ρ 3, ρ 4, ρ 5, ρ 6, ρ 7, ρ 8, ρ 9, ρ 10, ρ 11, ρ 12, ρ 13, ρ 14, ρ 15, ρ 16, ρ 17, ρ 18, ρ 19] (γ 1) := hJ
  obtain ⟨-, -, -, r3, -, -, -, -, -, -, -, -, -, -, -, -, -, r17, -, -, r20, -, r22, -⟩ := hr
  have r3 : (3 : Int) ≤ ρ 3 ∧ ρ 3 ≤ 4 := r3
  have r17 : (0 : Int) ≤ ρ 17 ∧ ρ 17 ≤ 0 := r17
  have r20 : (1 : Int) ≤ ρ 20 ∧ ρ 20 ≤ 1 := r20
  have r22 : (0 : Int) ≤ ρ 22 ∧ ρ 22 ≤ 0 := r22
  obtain ⟨-, -, -, f3, -⟩ := hf
  have f3 : (0 : Int) ≤ ρ 18 + -ρ 15 + (-1) := f3
  obtain ⟨w_0, w_1, w_2, w_3, w_4⟩ : (¬ (ρ 15 ≥ ρ 18)) ∧ (¬ (ρ 17 ≠ 0)) ∧ (¬ (ρ 3 ≤ 2)) ∧ (ρ 20 ≠ 0) ∧ (0 ≥ ρ 22) := ⟨by omega, by omega, by omega, by omega, by omega⟩
  obtain ⟨-, -, m2, -, -, -, m6, -, -, -, -, -, -, -, -, m15, m16, -, -, m19, m20, m21, m22, m23, m24, m25, -⟩ := hm
  have m2 : γ 0 71 0 (ρ 0) = ρ 3 := m2
  have m6 : γ 0 69 0 (ρ 0) = ρ 7 := m6
  have m15 : γ 1 15 0 77 = ρ 17 := m15
  have m16 : γ 1 15 0 90 = ρ 18 := m16
  have m19 : γ 1 109 0 (ρ 15) = ρ 20 := m19
  have m20 : γ 1 108 0 (ρ 15) = ρ 21 := m20
  have m21 : γ 0 66 0 (ρ 7) = ρ 22 := m21
  have m22 : γ 1 105 0 (4 * ρ 15) = ρ 23 := m22
  have m23 : γ 1 105 0 (4 * ρ 15 + 1) = ρ 24 := m23
  have m24 : γ 1 105 0 (4 * ρ 15 + 2) = ρ 25 := m24
  have m25 : γ 1 105 0 (4 * ρ 15 + 3) = ρ 26 := m25
  obtain ⟨⟨⟨⟨⟨-, c2⟩, c3⟩, c4⟩, c5⟩, -⟩ := hc
  have c2 : γ 2 = rUp (γ 1) 102 0 0 (ρ 23) := c2
  have c3 : γ 3 = rUp (γ 2) 102 0 1 (ρ 24) := c3
  have c4 : γ 4 = rUp (γ 3) 102 0 2 (ρ 25) := c4
  have c5 : γ 5 = rUp (γ 4) 102 0 3 (ρ 26) := c5
  obtain ⟨l0, -⟩ := hl
  have l0 : sn57 [ρ 7, ρ 0, ρ 2, ρ 19, ρ 27, ρ 28, ρ 29, ρ 10, ρ 17] (γ 5) 0 0 (γ 6) := hS57 _ _ _ _ _ l0
  show jn75 [ρ 0, ρ 1, ρ 2, ρ 3, ρ 4, ρ 5, ρ 6, ρ 7, ρ 8, ρ 9, ρ 10, ρ 11, ρ 12, ρ 13, ρ 14] (γ 0) 0 [ρ 0, ρ 1, ρ 2, ρ 3, ρ 4, ρ 5, ρ 6, ρ 7, ρ 8, ρ 9, ρ 10, ρ 11, ρ 12, ρ 13, ρ 14, ρ 15 + 1, ρ 16, ρ 34, ρ 18, ρ 30] (γ 6)
  have hD : en75 (γ 0) (0, [ρ 0, ρ 15], γ 1) = .inl (0, [ρ 0, ρ 15 + 1], γ 6) := by
    unfold en75
    refine (if_pos (show (0 : Nat) = 0 by decide)).trans ?_
    refine (zLet_eq (show _ = γ 1 from rfl)).trans ?_
    refine (zLet_eq (show _ = ρ 0 from rfl)).trans ?_
    refine (zLet_eq (show _ = ρ 15 from rfl)).trans ?_
    refine (zLet_eq m2).trans ?_
    refine (zLet_eq m6).trans ?_
    refine (zLet_eq m15).trans ?_
    refine (zLet_eq m16).trans ?_
    refine (if_neg w_0).trans ?_
    refine (if_neg w_1).trans ?_
    refine (if_neg w_2).trans ?_
    refine (zLet_eq m19).trans ?_
    refine (if_pos w_3).trans ?_
    refine (zLet_eq m20).trans ?_
    refine (zLet_eq m21).trans ?_
    refine (if_pos w_4).trans ?_
    refine (zLet_eq m22).trans ?_
    refine (zLet_eq c2.symm).trans ?_
    refine (zLet_eq m23).trans ?_
    refine (zLet_eq c3.symm).trans ?_
    refine (zLet_eq m24).trans ?_
    refine (zLet_eq c4.symm).trans ?_
    refine (zLet_eq m25).trans ?_
    refine (zLet_eq c5.symm).trans ?_
    refine (zLet_eq (show fn57 [ρ 7, ρ 0] (γ 5) = (0, 0, γ 6) from l0.symm)).trans ?_
    refine (zLet_eq (show _ = γ 6 from rfl)).trans ?_
    rfl
  exact zGoo_ato hJ hD
theorem vn75a0_65 {S : Nat → zSpc} (hS57 : ∀ x g o v gz, S 57 x g o v gz → sn57 x g o v gz) (hS73 : ∀ x g o v gz, S 73 x g o v gz → sn73 x g o v gz) {a : List Int} {g : rHp} : ∀ (ρ : Nat → Int) (γ : Nat → rHp), jn75 a g 0 (zAg (zNA a75_ 0) ρ) (γ 1) → zO 15 S a g q75a0_65 ρ γ → zGl (fun i vs g1 => jn75 a g i vs g1) (sn75 a g) q75a0_65 ρ γ := by
  intro ρ γ hJ h
  obtain ⟨ha, hg, hr, hf, hm, hc, hl⟩ := h
  have ha : a = [ρ 0, ρ 1, ρ 2, ρ 3, ρ 4, ρ 5, ρ 6, ρ 7, ρ 8, ρ 9, ρ 10, ρ 11, ρ 12, ρ 13, ρ 14] := ha
  subst ha
  subst hg
  have hJ : jn75 [ρ 0, ρ 1, ρ 2, ρ 3, ρ 4, ρ 5, ρ 6, ρ 7, ρ 8, ρ 9, ρ 10, ρ 11, ρ 12, ρ 13, ρ 14] (γ 0) 0 [ρ 0, ρ 1, ρ 2, ρ 3, ρ 4, ρ 5, ρ 6, ρ 7, ρ 8, ρ 9, ρ 10, ρ 11, ρ 12, ρ 13, ρ 14, ρ 15, ρ 16, ρ 17, ρ 18, ρ 19] (γ 1) := hJ
  obtain ⟨-, -, -, r3, -, -, -, -, -, -, -, -, -, -, -, -, -, r17, -, -, r20, -, r22, r23, -⟩ := hr
  have r3 : (3 : Int) ≤ ρ 3 ∧ ρ 3 ≤ 4 := r3
  have r17 : (0 : Int) ≤ ρ 17 ∧ ρ 17 ≤ 0 := r17
  have r20 : (1 : Int) ≤ ρ 20 ∧ ρ 20 ≤ 1 := r20
  have r22 : (1 : Int) ≤ ρ 22 ∧ ρ 22 ≤ 1 := r22
  have r23 : (0 : Int) ≤ ρ 23 ∧ ρ 23 ≤ 2 := r23
  obtain ⟨-, -, -, f3, -⟩ := hf
  have f3 : (0 : Int) ≤ ρ 18 + -ρ 15 + (-1) := f3
  obtain ⟨w_0, w_1, w_2, w_3, w_4, w_5, w_6⟩ : (¬ (ρ 15 ≥ ρ 18)) ∧ (¬ (ρ 17 ≠ 0)) ∧ (¬ (ρ 3 ≤ 2)) ∧ (ρ 20 ≠ 0) ∧ (¬ (0 ≥ ρ 22)) ∧ (ρ 23 ≠ 3) ∧ (1 ≥ ρ 22) := ⟨by omega, by omega, by omega, by omega, by omega, by omega, by omega⟩
  obtain ⟨-, -, m2, -, -, -, m6, -, -, -, -, -, -, -, -, m15, m16, -, -, m19, m20, m21, m22, m23, m24, m25, m26, -⟩ := hm
  have m2 : γ 0 71 0 (ρ 0) = ρ 3 := m2
  have m6 : γ 0 69 0 (ρ 0) = ρ 7 := m6
  have m15 : γ 1 15 0 77 = ρ 17 := m15
  have m16 : γ 1 15 0 90 = ρ 18 := m16
  have m19 : γ 1 109 0 (ρ 15) = ρ 20 := m19
  have m20 : γ 1 108 0 (ρ 15) = ρ 21 := m20
  have m21 : γ 0 66 0 (ρ 7) = ρ 22 := m21
  have m22 : γ 0 70 0 (4 * ρ 0) = ρ 23 := m22
  have m23 : γ 1 105 0 (4 * ρ 15) = ρ 24 := m23
  have m24 : γ 1 105 0 (4 * ρ 15 + 1) = ρ 25 := m24
  have m25 : γ 1 105 0 (4 * ρ 15 + 2) = ρ 26 := m25
  have m26 : γ 1 105 0 (4 * ρ 15 + 3) = ρ 27 := m26
  obtain ⟨⟨⟨⟨⟨-, c2⟩, c3⟩, c4⟩, c5⟩, -⟩ := hc
  have c2 : γ 2 = rUp (γ 1) 102 0 0 (ρ 24) := c2
  have c3 : γ 3 = rUp (γ 2) 102 0 1 (ρ 25) := c3
  have c4 : γ 4 = rUp (γ 3) 102 0 2 (ρ 26) := c4
  have c5 : γ 5 = rUp (γ 4) 102 0 3 (ρ 27) := c5
  obtain ⟨l0, -⟩ := hl
  have l0 : sn57 [ρ 7, ρ 0, ρ 2, ρ 19, ρ 28, ρ 29, ρ 30, ρ 10, ρ 17] (γ 5) 0 0 (γ 6) := hS57 _ _ _ _ _ l0
  show jn75 [ρ 0, ρ 1, ρ 2, ρ 3, ρ 4, ρ 5, ρ 6, ρ 7, ρ 8, ρ 9, ρ 10, ρ 11, ρ 12, ρ 13, ρ 14] (γ 0) 0 [ρ 0, ρ 1, ρ 2, ρ 3, ρ 4, ρ 5, ρ 6, ρ 7, ρ 8, ρ 9, ρ 10, ρ 11, ρ 12, ρ 13, ρ 14, ρ 15 + 1, ρ 16, ρ 35, ρ 18, ρ 31] (γ 6)
  have hD : en75 (γ 0) (0, [ρ 0, ρ 15], γ 1) = .inl (0, [ρ 0, ρ 15 + 1], γ 6) := by
    unfold en75
    refine (if_pos (show (0 : Nat) = 0 by decide)).trans ?_
    refine (zLet_eq (show _ = γ 1 from rfl)).trans ?_
    refine (zLet_eq (show _ = ρ 0 from rfl)).trans ?_
    refine (zLet_eq (show _ = ρ 15 from rfl)).trans ?_
    refine (zLet_eq m2).trans ?_
    refine (zLet_eq m6).trans ?_
    refine (zLet_eq m15).trans ?_
    refine (zLet_eq m16).trans ?_
    refine (if_neg w_0).trans ?_
    refine (if_neg w_1).trans ?_
    refine (if_neg w_2).trans ?_
    refine (zLet_eq m19).trans ?_
    refine (if_pos w_3).trans ?_
    refine (zLet_eq m20).trans ?_
    refine (zLet_eq m21).trans ?_
    refine (if_neg w_4).trans ?_
    refine (zLet_eq m22).trans ?_
    refine (if_pos w_5).trans ?_
    refine (zLet_eq m23).trans ?_
    refine (zLet_eq c2.symm).trans ?_
    refine (if_pos w_6).trans ?_
    refine (zLet_eq m24).trans ?_
    refine (zLet_eq c3.symm).trans ?_
    refine (zLet_eq m25).trans ?_
    refine (zLet_eq c4.symm).trans ?_
    refine (zLet_eq m26).trans ?_
    refine (zLet_eq c5.symm).trans ?_
    refine (zLet_eq (show fn57 [ρ 7, ρ 0] (γ 5) = (0, 0, γ 6) from l0.symm)).trans ?_
    refine (zLet_eq (show _ = γ 6 from rfl)).trans ?_
    rfl
  exact zGoo_ato hJ hD
theorem vn75a0_66 {S : Nat → zSpc} (hS57 : ∀ x g o v gz, S 57 x g o v gz → sn57 x g o v gz) (hS73 : ∀ x g o v gz, S 73 x g o v gz → sn73 x g o v gz) {a : List Int} {g : rHp} : ∀ (ρ : Nat → Int) (γ : Nat → rHp), jn75 a g 0 (zAg (zNA a75_ 0) ρ) (γ 1) → zO 15 S a g q75a0_66 ρ γ → zGl (fun i vs g1 => jn75 a g i vs g1) (sn75 a g) q75a0_66 ρ γ := by
  intro ρ γ hJ h
  obtain ⟨ha, hg, hr, hf, hm, hc, hl⟩ := h
  have ha : a = [ρ 0, ρ 1, ρ 2, ρ 3, ρ 4, ρ 5, ρ 6, ρ 7, ρ 8, ρ 9, ρ 10, ρ 11, ρ 12, ρ 13, ρ 14] := ha
  subst ha
  subst hg
  have hJ : jn75 [ρ 0, ρ 1, ρ 2, ρ 3, ρ 4, ρ 5, ρ 6, ρ 7, ρ 8, ρ 9, ρ 10, ρ 11, ρ 12, ρ 13, ρ 14] (γ 0) 0 [ρ 0, ρ 1, ρ 2, ρ 3, ρ 4, ρ 5, ρ 6, ρ 7, ρ 8, ρ 9, ρ 10, ρ 11, ρ 12, ρ 13, ρ 14, ρ 15, ρ 16, ρ 17, ρ 18, ρ 19] (γ 1) := hJ
  obtain ⟨-, -, -, r3, -, -, -, -, -, -, -, -, -, -, -, -, -, r17, -, -, r20, -, r22, r23, -, r25, -⟩ := hr
  have r3 : (3 : Int) ≤ ρ 3 ∧ ρ 3 ≤ 4 := r3
  have r17 : (0 : Int) ≤ ρ 17 ∧ ρ 17 ≤ 0 := r17
  have r20 : (1 : Int) ≤ ρ 20 ∧ ρ 20 ≤ 1 := r20
  have r22 : (2 : Int) ≤ ρ 22 ∧ ρ 22 ≤ 2 := r22
  have r23 : (0 : Int) ≤ ρ 23 ∧ ρ 23 ≤ 2 := r23
  have r25 : (0 : Int) ≤ ρ 25 ∧ ρ 25 ≤ 2 := r25
  obtain ⟨-, -, -, f3, -⟩ := hf
  have f3 : (0 : Int) ≤ ρ 18 + -ρ 15 + (-1) := f3
  obtain ⟨w_0, w_1, w_2, w_3, w_4, w_5, w_6, w_7, w_8⟩ : (¬ (ρ 15 ≥ ρ 18)) ∧ (¬ (ρ 17 ≠ 0)) ∧ (¬ (ρ 3 ≤ 2)) ∧ (ρ 20 ≠ 0) ∧ (¬ (0 ≥ ρ 22)) ∧ (ρ 23 ≠ 3) ∧ (¬ (1 ≥ ρ 22)) ∧ (ρ 25 ≠ 3) ∧ (2 ≥ ρ 22) := ⟨by omega, by omega, by omega, by omega, by omega, by omega, by omega, by omega, by omega⟩
  obtain ⟨-, -, m2, -, -, -, m6, -, -, -, -, -, -, -, -, m15, m16, -, -, m19, m20, m21, m22, m23, m24, m25, m26, m27, -⟩ := hm
  have m2 : γ 0 71 0 (ρ 0) = ρ 3 := m2
  have m6 : γ 0 69 0 (ρ 0) = ρ 7 := m6
  have m15 : γ 1 15 0 77 = ρ 17 := m15
  have m16 : γ 1 15 0 90 = ρ 18 := m16
  have m19 : γ 1 109 0 (ρ 15) = ρ 20 := m19
  have m20 : γ 1 108 0 (ρ 15) = ρ 21 := m20
  have m21 : γ 0 66 0 (ρ 7) = ρ 22 := m21
  have m22 : γ 0 70 0 (4 * ρ 0) = ρ 23 := m22
  have m23 : γ 1 105 0 (4 * ρ 15) = ρ 24 := m23
  have m24 : γ 0 70 0 (4 * ρ 0 + 1) = ρ 25 := m24
  have m25 : γ 1 105 0 (4 * ρ 15 + 1) = ρ 26 := m25
  have m26 : γ 1 105 0 (4 * ρ 15 + 2) = ρ 27 := m26
  have m27 : γ 1 105 0 (4 * ρ 15 + 3) = ρ 28 := m27
  obtain ⟨⟨⟨⟨⟨-, c2⟩, c3⟩, c4⟩, c5⟩, -⟩ := hc
  have c2 : γ 2 = rUp (γ 1) 102 0 0 (ρ 24) := c2
  have c3 : γ 3 = rUp (γ 2) 102 0 1 (ρ 26) := c3
  have c4 : γ 4 = rUp (γ 3) 102 0 2 (ρ 27) := c4
  have c5 : γ 5 = rUp (γ 4) 102 0 3 (ρ 28) := c5
  obtain ⟨l0, -⟩ := hl
  have l0 : sn57 [ρ 7, ρ 0, ρ 2, ρ 19, ρ 29, ρ 30, ρ 31, ρ 10, ρ 17] (γ 5) 0 0 (γ 6) := hS57 _ _ _ _ _ l0
  show jn75 [ρ 0, ρ 1, ρ 2, ρ 3, ρ 4, ρ 5, ρ 6, ρ 7, ρ 8, ρ 9, ρ 10, ρ 11, ρ 12, ρ 13, ρ 14] (γ 0) 0 [ρ 0, ρ 1, ρ 2, ρ 3, ρ 4, ρ 5, ρ 6, ρ 7, ρ 8, ρ 9, ρ 10, ρ 11, ρ 12, ρ 13, ρ 14, ρ 15 + 1, ρ 16, ρ 36, ρ 18, ρ 32] (γ 6)
  have hD : en75 (γ 0) (0, [ρ 0, ρ 15], γ 1) = .inl (0, [ρ 0, ρ 15 + 1], γ 6) := by
    unfold en75
    refine (if_pos (show (0 : Nat) = 0 by decide)).trans ?_
    refine (zLet_eq (show _ = γ 1 from rfl)).trans ?_
    refine (zLet_eq (show _ = ρ 0 from rfl)).trans ?_
    refine (zLet_eq (show _ = ρ 15 from rfl)).trans ?_
    refine (zLet_eq m2).trans ?_
    refine (zLet_eq m6).trans ?_
    refine (zLet_eq m15).trans ?_
    refine (zLet_eq m16).trans ?_
    refine (if_neg w_0).trans ?_
    refine (if_neg w_1).trans ?_
    refine (if_neg w_2).trans ?_
    refine (zLet_eq m19).trans ?_
    refine (if_pos w_3).trans ?_
    refine (zLet_eq m20).trans ?_
    refine (zLet_eq m21).trans ?_
    refine (if_neg w_4).trans ?_
    refine (zLet_eq m22).trans ?_
    refine (if_pos w_5).trans ?_
    refine (zLet_eq m23).trans ?_
    refine (zLet_eq c2.symm).trans ?_
    refine (if_neg w_6).trans ?_
    refine (zLet_eq m24).trans ?_
    refine (if_pos w_7).trans ?_
    refine (zLet_eq m25).trans ?_
    refine (zLet_eq c3.symm).trans ?_
    refine (if_pos w_8).trans ?_
    refine (zLet_eq m26).trans ?_
    refine (zLet_eq c4.symm).trans ?_
    refine (zLet_eq m27).trans ?_
    refine (zLet_eq c5.symm).trans ?_
    refine (zLet_eq (show fn57 [ρ 7, ρ 0] (γ 5) = (0, 0, γ 6) from l0.symm)).trans ?_
    refine (zLet_eq (show _ = γ 6 from rfl)).trans ?_
    rfl
  exact zGoo_ato hJ hD
theorem vn75a0_67 {S : Nat → zSpc} (hS57 : ∀ x g o v gz, S 57 x g o v gz → sn57 x g o v gz) (hS73 : ∀ x g o v gz, S 73 x g o v gz → sn73 x g o v gz) {a : List Int} {g : rHp} : ∀ (ρ : Nat → Int) (γ : Nat → rHp), jn75 a g 0 (zAg (zNA a75_ 0) ρ) (γ 1) → zO 15 S a g q75a0_67 ρ γ → zGl (fun i vs g1 => jn75 a g i vs g1) (sn75 a g) q75a0_67 ρ γ := by
  intro ρ γ hJ h
  obtain ⟨ha, hg, hr, hf, hm, hc, hl⟩ := h
  have ha : a = [ρ 0, ρ 1, ρ 2, ρ 3, ρ 4, ρ 5, ρ 6, ρ 7, ρ 8, ρ 9, ρ 10, ρ 11, ρ 12, ρ 13, ρ 14] := ha
  subst ha
  subst hg
  have hJ : jn75 [ρ 0, ρ 1, ρ 2, ρ 3, ρ 4, ρ 5, ρ 6, ρ 7, ρ 8, ρ 9, ρ 10, ρ 11, ρ 12, ρ 13, ρ 14] (γ 0) 0 [ρ 0, ρ 1, ρ 2, ρ 3, ρ 4, ρ 5, ρ 6, ρ 7, ρ 8, ρ 9, ρ 10, ρ 11, ρ 12, ρ 13, ρ 14, ρ 15, ρ 16, ρ 17, ρ 18, ρ 19] (γ 1) := hJ
  obtain ⟨-, -, -, r3, -, -, -, -, -, -, -, -, -, -, -, -, -, r17, -, -, r20, -, r22, r23, -, r25, -, r27, -⟩ := hr
  have r3 : (3 : Int) ≤ ρ 3 ∧ ρ 3 ≤ 4 := r3
  have r17 : (0 : Int) ≤ ρ 17 ∧ ρ 17 ≤ 0 := r17
  have r20 : (1 : Int) ≤ ρ 20 ∧ ρ 20 ≤ 1 := r20
  have r22 : (3 : Int) ≤ ρ 22 ∧ ρ 22 ≤ 3 := r22
  have r23 : (0 : Int) ≤ ρ 23 ∧ ρ 23 ≤ 2 := r23
  have r25 : (0 : Int) ≤ ρ 25 ∧ ρ 25 ≤ 2 := r25
  have r27 : (0 : Int) ≤ ρ 27 ∧ ρ 27 ≤ 2 := r27
  obtain ⟨-, -, -, f3, -⟩ := hf
  have f3 : (0 : Int) ≤ ρ 18 + -ρ 15 + (-1) := f3
  obtain ⟨w_0, w_1, w_2, w_3, w_4, w_5, w_6, w_7, w_8, w_9, w_10⟩ : (¬ (ρ 15 ≥ ρ 18)) ∧ (¬ (ρ 17 ≠ 0)) ∧ (¬ (ρ 3 ≤ 2)) ∧ (ρ 20 ≠ 0) ∧ (¬ (0 ≥ ρ 22)) ∧ (ρ 23 ≠ 3) ∧ (¬ (1 ≥ ρ 22)) ∧ (ρ 25 ≠ 3) ∧ (¬ (2 ≥ ρ 22)) ∧ (ρ 27 ≠ 3) ∧ (3 ≥ ρ 22) := ⟨by omega, by omega, by omega, by omega, by omega, by omega, by omega, by omega, by omega, by omega, by omega⟩
  obtain ⟨-, -, m2, -, -, -, m6, -, -, -, -, -, -, -, -, m15, m16, -, -, m19, m20, m21, m22, m23, m24, m25, m26, m27, m28, -⟩ := hm
  have m2 : γ 0 71 0 (ρ 0) = ρ 3 := m2
  have m6 : γ 0 69 0 (ρ 0) = ρ 7 := m6
  have m15 : γ 1 15 0 77 = ρ 17 := m15
  have m16 : γ 1 15 0 90 = ρ 18 := m16
  have m19 : γ 1 109 0 (ρ 15) = ρ 20 := m19
  have m20 : γ 1 108 0 (ρ 15) = ρ 21 := m20
  have m21 : γ 0 66 0 (ρ 7) = ρ 22 := m21
  have m22 : γ 0 70 0 (4 * ρ 0) = ρ 23 := m22
  have m23 : γ 1 105 0 (4 * ρ 15) = ρ 24 := m23
  have m24 : γ 0 70 0 (4 * ρ 0 + 1) = ρ 25 := m24
  have m25 : γ 1 105 0 (4 * ρ 15 + 1) = ρ 26 := m25
  have m26 : γ 0 70 0 (4 * ρ 0 + 2) = ρ 27 := m26
  have m27 : γ 1 105 0 (4 * ρ 15 + 2) = ρ 28 := m27
  have m28 : γ 1 105 0 (4 * ρ 15 + 3) = ρ 29 := m28
  obtain ⟨⟨⟨⟨⟨-, c2⟩, c3⟩, c4⟩, c5⟩, -⟩ := hc
  have c2 : γ 2 = rUp (γ 1) 102 0 0 (ρ 24) := c2
  have c3 : γ 3 = rUp (γ 2) 102 0 1 (ρ 26) := c3
  have c4 : γ 4 = rUp (γ 3) 102 0 2 (ρ 28) := c4
  have c5 : γ 5 = rUp (γ 4) 102 0 3 (ρ 29) := c5
  obtain ⟨l0, -⟩ := hl
  have l0 : sn57 [ρ 7, ρ 0, ρ 2, ρ 19, ρ 30, ρ 31, ρ 32, ρ 10, ρ 17] (γ 5) 0 0 (γ 6) := hS57 _ _ _ _ _ l0
  show jn75 [ρ 0, ρ 1, ρ 2, ρ 3, ρ 4, ρ 5, ρ 6, ρ 7, ρ 8, ρ 9, ρ 10, ρ 11, ρ 12, ρ 13, ρ 14] (γ 0) 0 [ρ 0, ρ 1, ρ 2, ρ 3, ρ 4, ρ 5, ρ 6, ρ 7, ρ 8, ρ 9, ρ 10, ρ 11, ρ 12, ρ 13, ρ 14, ρ 15 + 1, ρ 16, ρ 37, ρ 18, ρ 33] (γ 6)
  have hD : en75 (γ 0) (0, [ρ 0, ρ 15], γ 1) = .inl (0, [ρ 0, ρ 15 + 1], γ 6) := by
    unfold en75
    refine (if_pos (show (0 : Nat) = 0 by decide)).trans ?_
    refine (zLet_eq (show _ = γ 1 from rfl)).trans ?_
    refine (zLet_eq (show _ = ρ 0 from rfl)).trans ?_
    refine (zLet_eq (show _ = ρ 15 from rfl)).trans ?_
    refine (zLet_eq m2).trans ?_
    refine (zLet_eq m6).trans ?_
    refine (zLet_eq m15).trans ?_
    refine (zLet_eq m16).trans ?_
    refine (if_neg w_0).trans ?_
    refine (if_neg w_1).trans ?_
    refine (if_neg w_2).trans ?_
    refine (zLet_eq m19).trans ?_
    refine (if_pos w_3).trans ?_
    refine (zLet_eq m20).trans ?_
    refine (zLet_eq m21).trans ?_
    refine (if_neg w_4).trans ?_
    refine (zLet_eq m22).trans ?_
    refine (if_pos w_5).trans ?_
    refine (zLet_eq m23).trans ?_
    refine (zLet_eq c2.symm).trans ?_
    refine (if_neg w_6).trans ?_
    refine (zLet_eq m24).trans ?_
    refine (if_pos w_7).trans ?_
    refine (zLet_eq m25).trans ?_
    refine (zLet_eq c3.symm).trans ?_
    refine (if_neg w_8).trans ?_
    refine (zLet_eq m26).trans ?_
    refine (if_pos w_9).trans ?_
    refine (zLet_eq m27).trans ?_
    refine (zLet_eq c4.symm).trans ?_
    refine (if_pos w_10).trans ?_
    refine (zLet_eq m28).trans ?_
    refine (zLet_eq c5.symm).trans ?_
    refine (zLet_eq (show fn57 [ρ 7, ρ 0] (γ 5) = (0, 0, γ 6) from l0.symm)).trans ?_
    refine (zLet_eq (show _ = γ 6 from rfl)).trans ?_
    rfl
  exact zGoo_ato hJ hD
theorem vn75a0_68 {S : Nat → zSpc} (hS57 : ∀ x g o v gz, S 57 x g o v gz → sn57 x g o v gz) (hS73 : ∀ x g o v gz, S 73 x g o v gz → sn73 x g o v gz) {a : List Int} {g : rHp} : ∀ (ρ : Nat → Int) (γ : Nat → rHp), jn75 a g 0 (zAg (zNA a75_ 0) ρ) (γ 1) → zO 15 S a g q75a0_68 ρ γ → zGl (fun i vs g1 => jn75 a g i vs g1) (sn75 a g) q75a0_68 ρ γ := by
  intro ρ γ hJ h
  obtain ⟨ha, hg, hr, hf, hm, hc, hl⟩ := h
  have ha : a = [ρ 0, ρ 1, ρ 2, ρ 3, ρ 4, ρ 5, ρ 6, ρ 7, ρ 8, ρ 9, ρ 10, ρ 11, ρ 12, ρ 13, ρ 14] := ha
  subst ha
  subst hg
  have hJ : jn75 [ρ 0, ρ 1, ρ 2, ρ 3, ρ 4, ρ 5, ρ 6, ρ 7, ρ 8, ρ 9, ρ 10, ρ 11, ρ 12, ρ 13, ρ 14] (γ 0) 0 [ρ 0, ρ 1, ρ 2, ρ 3, ρ 4, ρ 5, ρ 6, ρ 7, ρ 8, ρ 9, ρ 10, ρ 11, ρ 12, ρ 13, ρ 14, ρ 15, ρ 16, ρ 17, ρ 18, ρ 19] (γ 1) := hJ
  obtain ⟨-, -, -, r3, -, -, -, -, -, -, -, -, -, -, -, -, -, r17, -, -, r20, -, r22, r23, -, r25, -, r27, -, r29, -⟩ := hr
  have r3 : (3 : Int) ≤ ρ 3 ∧ ρ 3 ≤ 4 := r3
  have r17 : (0 : Int) ≤ ρ 17 ∧ ρ 17 ≤ 0 := r17
  have r20 : (1 : Int) ≤ ρ 20 ∧ ρ 20 ≤ 1 := r20
  have r22 : (4 : Int) ≤ ρ 22 ∧ ρ 22 ≤ 4 := r22
  have r23 : (0 : Int) ≤ ρ 23 ∧ ρ 23 ≤ 2 := r23
  have r25 : (0 : Int) ≤ ρ 25 ∧ ρ 25 ≤ 2 := r25
  have r27 : (0 : Int) ≤ ρ 27 ∧ ρ 27 ≤ 2 := r27
  have r29 : (0 : Int) ≤ ρ 29 ∧ ρ 29 ≤ 2 := r29
  obtain ⟨-, -, -, f3, -⟩ := hf
  have f3 : (0 : Int) ≤ ρ 18 + -ρ 15 + (-1) := f3
  obtain ⟨w_0, w_1, w_2, w_3, w_4, w_5, w_6, w_7, w_8, w_9, w_10, w_11⟩ : (¬ (ρ 15 ≥ ρ 18)) ∧ (¬ (ρ 17 ≠ 0)) ∧ (¬ (ρ 3 ≤ 2)) ∧ (ρ 20 ≠ 0) ∧ (¬ (0 ≥ ρ 22)) ∧ (ρ 23 ≠ 3) ∧ (¬ (1 ≥ ρ 22)) ∧ (ρ 25 ≠ 3) ∧ (¬ (2 ≥ ρ 22)) ∧ (ρ 27 ≠ 3) ∧ (¬ (3 ≥ ρ 22)) ∧ (ρ 29 ≠ 3) := ⟨by omega, by omega, by omega, by omega, by omega, by omega, by omega, by omega, by omega, by omega, by omega, by omega⟩
  obtain ⟨-, -, m2, -, -, -, m6, -, -, -, -, -, -, -, -, m15, m16, -, -, m19, m20, m21, m22, m23, m24, m25, m26, m27, m28, m29, -⟩ := hm
  have m2 : γ 0 71 0 (ρ 0) = ρ 3 := m2
  have m6 : γ 0 69 0 (ρ 0) = ρ 7 := m6
  have m15 : γ 1 15 0 77 = ρ 17 := m15
  have m16 : γ 1 15 0 90 = ρ 18 := m16
  have m19 : γ 1 109 0 (ρ 15) = ρ 20 := m19
  have m20 : γ 1 108 0 (ρ 15) = ρ 21 := m20
  have m21 : γ 0 66 0 (ρ 7) = ρ 22 := m21
  have m22 : γ 0 70 0 (4 * ρ 0) = ρ 23 := m22
  have m23 : γ 1 105 0 (4 * ρ 15) = ρ 24 := m23
  have m24 : γ 0 70 0 (4 * ρ 0 + 1) = ρ 25 := m24
  have m25 : γ 1 105 0 (4 * ρ 15 + 1) = ρ 26 := m25
  have m26 : γ 0 70 0 (4 * ρ 0 + 2) = ρ 27 := m26
  have m27 : γ 1 105 0 (4 * ρ 15 + 2) = ρ 28 := m27
  have m28 : γ 0 70 0 (4 * ρ 0 + 3) = ρ 29 := m28
  have m29 : γ 1 105 0 (4 * ρ 15 + 3) = ρ 30 := m29
  obtain ⟨⟨⟨⟨⟨-, c2⟩, c3⟩, c4⟩, c5⟩, -⟩ := hc
  have c2 : γ 2 = rUp (γ 1) 102 0 0 (ρ 24) := c2
  have c3 : γ 3 = rUp (γ 2) 102 0 1 (ρ 26) := c3
  have c4 : γ 4 = rUp (γ 3) 102 0 2 (ρ 28) := c4
  have c5 : γ 5 = rUp (γ 4) 102 0 3 (ρ 30) := c5
  obtain ⟨l0, -⟩ := hl
  have l0 : sn57 [ρ 7, ρ 0, ρ 2, ρ 19, ρ 31, ρ 32, ρ 33, ρ 10, ρ 17] (γ 5) 0 0 (γ 6) := hS57 _ _ _ _ _ l0
  show jn75 [ρ 0, ρ 1, ρ 2, ρ 3, ρ 4, ρ 5, ρ 6, ρ 7, ρ 8, ρ 9, ρ 10, ρ 11, ρ 12, ρ 13, ρ 14] (γ 0) 0 [ρ 0, ρ 1, ρ 2, ρ 3, ρ 4, ρ 5, ρ 6, ρ 7, ρ 8, ρ 9, ρ 10, ρ 11, ρ 12, ρ 13, ρ 14, ρ 15 + 1, ρ 16, ρ 38, ρ 18, ρ 34] (γ 6)
  have hD : en75 (γ 0) (0, [ρ 0, ρ 15], γ 1) = .inl (0, [ρ 0, ρ 15 + 1], γ 6) := by
    unfold en75
    refine (if_pos (show (0 : Nat) = 0 by decide)).trans ?_
    refine (zLet_eq (show _ = γ 1 from rfl)).trans ?_
    refine (zLet_eq (show _ = ρ 0 from rfl)).trans ?_
    refine (zLet_eq (show _ = ρ 15 from rfl)).trans ?_
    refine (zLet_eq m2).trans ?_
    refine (zLet_eq m6).trans ?_
    refine (zLet_eq m15).trans ?_
    refine (zLet_eq m16).trans ?_
    refine (if_neg w_0).trans ?_
    refine (if_neg w_1).trans ?_
    refine (if_neg w_2).trans ?_
    refine (zLet_eq m19).trans ?_
    refine (if_pos w_3).trans ?_
    refine (zLet_eq m20).trans ?_
    refine (zLet_eq m21).trans ?_
    refine (if_neg w_4).trans ?_
    refine (zLet_eq m22).trans ?_
    refine (if_pos w_5).trans ?_
    refine (zLet_eq m23).trans ?_
    refine (zLet_eq c2.symm).trans ?_
    refine (if_neg w_6).trans ?_
    refine (zLet_eq m24).trans ?_
    refine (if_pos w_7).trans ?_
    refine (zLet_eq m25).trans ?_
    refine (zLet_eq c3.symm).trans ?_
    refine (if_neg w_8).trans ?_
    refine (zLet_eq m26).trans ?_
    refine (if_pos w_9).trans ?_
    refine (zLet_eq m27).trans ?_
    refine (zLet_eq c4.symm).trans ?_
    refine (if_neg w_10).trans ?_
    refine (zLet_eq m28).trans ?_
    refine (if_pos w_11).trans ?_
    refine (zLet_eq m29).trans ?_
    refine (zLet_eq c5.symm).trans ?_
    refine (zLet_eq (show fn57 [ρ 7, ρ 0] (γ 5) = (0, 0, γ 6) from l0.symm)).trans ?_
    refine (zLet_eq (show _ = γ 6 from rfl)).trans ?_
    rfl
  exact zGoo_ato hJ hD
theorem vn75a0_69 {S : Nat → zSpc} (hS57 : ∀ x g o v gz, S 57 x g o v gz → sn57 x g o v gz) (hS73 : ∀ x g o v gz, S 73 x g o v gz → sn73 x g o v gz) {a : List Int} {g : rHp} : ∀ (ρ : Nat → Int) (γ : Nat → rHp), jn75 a g 0 (zAg (zNA a75_ 0) ρ) (γ 1) → zO 15 S a g q75a0_69 ρ γ → zGl (fun i vs g1 => jn75 a g i vs g1) (sn75 a g) q75a0_69 ρ γ := by
  intro ρ γ hJ h
  obtain ⟨ha, hg, hr, hf, hm, hc, hl⟩ := h
  have ha : a = [ρ 0, ρ 1, ρ 2, ρ 3, ρ 4, ρ 5, ρ 6, ρ 7, ρ 8, ρ 9, ρ 10, ρ 11, ρ 12, ρ 13, ρ 14] := ha
  subst ha
  subst hg
  have hJ : jn75 [ρ 0, ρ 1, ρ 2, ρ 3, ρ 4, ρ 5, ρ 6, ρ 7, ρ 8, ρ 9, ρ 10, ρ 11, ρ 12, ρ 13, ρ 14] (γ 0) 0 [ρ 0, ρ 1, ρ 2, ρ 3, ρ 4, ρ 5, ρ 6, ρ 7, ρ 8, ρ 9, ρ 10, ρ 11, ρ 12, ρ 13, ρ 14, ρ 15, ρ 16, ρ 17, ρ 18, ρ 19] (γ 1) := hJ
  obtain ⟨-, -, -, r3, -, -, -, -, -, -, -, -, -, -, -, -, -, r17, -, -, r20, -, r22, r23, -, r25, -, r27, -, r29, -⟩ := hr
  have r3 : (3 : Int) ≤ ρ 3 ∧ ρ 3 ≤ 4 := r3
  have r17 : (0 : Int) ≤ ρ 17 ∧ ρ 17 ≤ 0 := r17
  have r20 : (1 : Int) ≤ ρ 20 ∧ ρ 20 ≤ 1 := r20
  have r22 : (4 : Int) ≤ ρ 22 ∧ ρ 22 ≤ 4 := r22
  have r23 : (0 : Int) ≤ ρ 23 ∧ ρ 23 ≤ 2 := r23
  have r25 : (0 : Int) ≤ ρ 25 ∧ ρ 25 ≤ 2 := r25
  have r27 : (0 : Int) ≤ ρ 27 ∧ ρ 27 ≤ 2 := r27
  have r29 : (3 : Int) ≤ ρ 29 ∧ ρ 29 ≤ 3 := r29
  obtain ⟨-, -, -, f3, -⟩ := hf
  have f3 : (0 : Int) ≤ ρ 18 + -ρ 15 + (-1) := f3
  obtain ⟨w_0, w_1, w_2, w_3, w_4, w_5, w_6, w_7, w_8, w_9, w_10, w_11⟩ : (¬ (ρ 15 ≥ ρ 18)) ∧ (¬ (ρ 17 ≠ 0)) ∧ (¬ (ρ 3 ≤ 2)) ∧ (ρ 20 ≠ 0) ∧ (¬ (0 ≥ ρ 22)) ∧ (ρ 23 ≠ 3) ∧ (¬ (1 ≥ ρ 22)) ∧ (ρ 25 ≠ 3) ∧ (¬ (2 ≥ ρ 22)) ∧ (ρ 27 ≠ 3) ∧ (¬ (3 ≥ ρ 22)) ∧ (¬ (ρ 29 ≠ 3)) := ⟨by omega, by omega, by omega, by omega, by omega, by omega, by omega, by omega, by omega, by omega, by omega, by omega⟩
  obtain ⟨-, -, m2, -, -, -, m6, -, -, -, -, -, -, -, -, m15, m16, -, -, m19, m20, m21, m22, m23, m24, m25, m26, m27, m28, -⟩ := hm
  have m2 : γ 0 71 0 (ρ 0) = ρ 3 := m2
  have m6 : γ 0 69 0 (ρ 0) = ρ 7 := m6
  have m15 : γ 1 15 0 77 = ρ 17 := m15
  have m16 : γ 1 15 0 90 = ρ 18 := m16
  have m19 : γ 1 109 0 (ρ 15) = ρ 20 := m19
  have m20 : γ 1 108 0 (ρ 15) = ρ 21 := m20
  have m21 : γ 0 66 0 (ρ 7) = ρ 22 := m21
  have m22 : γ 0 70 0 (4 * ρ 0) = ρ 23 := m22
  have m23 : γ 1 105 0 (4 * ρ 15) = ρ 24 := m23
  have m24 : γ 0 70 0 (4 * ρ 0 + 1) = ρ 25 := m24
  have m25 : γ 1 105 0 (4 * ρ 15 + 1) = ρ 26 := m25
  have m26 : γ 0 70 0 (4 * ρ 0 + 2) = ρ 27 := m26
  have m27 : γ 1 105 0 (4 * ρ 15 + 2) = ρ 28 := m27
  have m28 : γ 0 70 0 (4 * ρ 0 + 3) = ρ 29 := m28
  obtain ⟨⟨⟨⟨⟨-, c2⟩, c3⟩, c4⟩, c5⟩, -⟩ := hc
  have c2 : γ 2 = rUp (γ 1) 102 0 0 (ρ 24) := c2
  have c3 : γ 3 = rUp (γ 2) 102 0 1 (ρ 26) := c3
  have c4 : γ 4 = rUp (γ 3) 102 0 2 (ρ 28) := c4
  have c5 : γ 5 = rUp (γ 4) 102 0 3 (ρ 21) := c5
  obtain ⟨l0, -⟩ := hl
  have l0 : sn57 [ρ 7, ρ 0, ρ 2, ρ 19, ρ 30, ρ 31, ρ 32, ρ 10, ρ 17] (γ 5) 0 0 (γ 6) := hS57 _ _ _ _ _ l0
  show jn75 [ρ 0, ρ 1, ρ 2, ρ 3, ρ 4, ρ 5, ρ 6, ρ 7, ρ 8, ρ 9, ρ 10, ρ 11, ρ 12, ρ 13, ρ 14] (γ 0) 0 [ρ 0, ρ 1, ρ 2, ρ 3, ρ 4, ρ 5, ρ 6, ρ 7, ρ 8, ρ 9, ρ 10, ρ 11, ρ 12, ρ 13, ρ 14, ρ 15 + 1, ρ 16, ρ 37, ρ 18, ρ 33] (γ 6)
  have hD : en75 (γ 0) (0, [ρ 0, ρ 15], γ 1) = .inl (0, [ρ 0, ρ 15 + 1], γ 6) := by
    unfold en75
    refine (if_pos (show (0 : Nat) = 0 by decide)).trans ?_
    refine (zLet_eq (show _ = γ 1 from rfl)).trans ?_
    refine (zLet_eq (show _ = ρ 0 from rfl)).trans ?_
    refine (zLet_eq (show _ = ρ 15 from rfl)).trans ?_
    refine (zLet_eq m2).trans ?_
    refine (zLet_eq m6).trans ?_
    refine (zLet_eq m15).trans ?_
    refine (zLet_eq m16).trans ?_
    refine (if_neg w_0).trans ?_
    refine (if_neg w_1).trans ?_
    refine (if_neg w_2).trans ?_
    refine (zLet_eq m19).trans ?_
    refine (if_pos w_3).trans ?_
    refine (zLet_eq m20).trans ?_
    refine (zLet_eq m21).trans ?_
    refine (if_neg w_4).trans ?_
    refine (zLet_eq m22).trans ?_
    refine (if_pos w_5).trans ?_
    refine (zLet_eq m23).trans ?_
    refine (zLet_eq c2.symm).trans ?_
    refine (if_neg w_6).trans ?_
    refine (zLet_eq m24).trans ?_
    refine (if_pos w_7).trans ?_
    refine (zLet_eq m25).trans ?_
    refine (zLet_eq c3.symm).trans ?_
    refine (if_neg w_8).trans ?_
    refine (zLet_eq m26).trans ?_
    refine (if_pos w_9).trans ?_
    refine (zLet_eq m27).trans ?_
    refine (zLet_eq c4.symm).trans ?_
    refine (if_neg w_10).trans ?_
    refine (zLet_eq m28).trans ?_
    refine (if_neg w_11).trans ?_
    refine (zLet_eq c5.symm).trans ?_
    refine (zLet_eq (show fn57 [ρ 7, ρ 0] (γ 5) = (0, 0, γ 6) from l0.symm)).trans ?_
    refine (zLet_eq (show _ = γ 6 from rfl)).trans ?_
    rfl
  exact zGoo_ato hJ hD
theorem vn75a0_70 {S : Nat → zSpc} (hS57 : ∀ x g o v gz, S 57 x g o v gz → sn57 x g o v gz) (hS73 : ∀ x g o v gz, S 73 x g o v gz → sn73 x g o v gz) {a : List Int} {g : rHp} : ∀ (ρ : Nat → Int) (γ : Nat → rHp), jn75 a g 0 (zAg (zNA a75_ 0) ρ) (γ 1) → zO 15 S a g q75a0_70 ρ γ → zGl (fun i vs g1 => jn75 a g i vs g1) (sn75 a g) q75a0_70 ρ γ := by
  intro ρ γ hJ h
  obtain ⟨ha, hg, hr, hf, hm, hc, hl⟩ := h
  have ha : a = [ρ 0, ρ 1, ρ 2, ρ 3, ρ 4, ρ 5, ρ 6, ρ 7, ρ 8, ρ 9, ρ 10, ρ 11, ρ 12, ρ 13, ρ 14] := ha
  subst ha
  subst hg
  have hJ : jn75 [ρ 0, ρ 1, ρ 2, ρ 3, ρ 4, ρ 5, ρ 6, ρ 7, ρ 8, ρ 9, ρ 10, ρ 11, ρ 12, ρ 13, ρ 14] (γ 0) 0 [ρ 0, ρ 1, ρ 2, ρ 3, ρ 4, ρ 5, ρ 6, ρ 7, ρ 8, ρ 9, ρ 10, ρ 11, ρ 12, ρ 13, ρ 14, ρ 15, ρ 16, ρ 17, ρ 18, ρ 19] (γ 1) := hJ
  obtain ⟨-, -, -, r3, -, -, -, -, -, -, -, -, -, -, -, -, -, r17, -, -, r20, -, r22, r23, -, r25, -, r27, -⟩ := hr
  have r3 : (3 : Int) ≤ ρ 3 ∧ ρ 3 ≤ 4 := r3
  have r17 : (0 : Int) ≤ ρ 17 ∧ ρ 17 ≤ 0 := r17
  have r20 : (1 : Int) ≤ ρ 20 ∧ ρ 20 ≤ 1 := r20
  have r22 : (3 : Int) ≤ ρ 22 ∧ ρ 22 ≤ 3 := r22
  have r23 : (0 : Int) ≤ ρ 23 ∧ ρ 23 ≤ 2 := r23
  have r25 : (0 : Int) ≤ ρ 25 ∧ ρ 25 ≤ 2 := r25
  have r27 : (3 : Int) ≤ ρ 27 ∧ ρ 27 ≤ 3 := r27
  obtain ⟨-, -, -, f3, -⟩ := hf
  have f3 : (0 : Int) ≤ ρ 18 + -ρ 15 + (-1) := f3
  obtain ⟨w_0, w_1, w_2, w_3, w_4, w_5, w_6, w_7, w_8, w_9, w_10⟩ : (¬ (ρ 15 ≥ ρ 18)) ∧ (¬ (ρ 17 ≠ 0)) ∧ (¬ (ρ 3 ≤ 2)) ∧ (ρ 20 ≠ 0) ∧ (¬ (0 ≥ ρ 22)) ∧ (ρ 23 ≠ 3) ∧ (¬ (1 ≥ ρ 22)) ∧ (ρ 25 ≠ 3) ∧ (¬ (2 ≥ ρ 22)) ∧ (¬ (ρ 27 ≠ 3)) ∧ (3 ≥ ρ 22) := ⟨by omega, by omega, by omega, by omega, by omega, by omega, by omega, by omega, by omega, by omega, by omega⟩
  obtain ⟨-, -, m2, -, -, -, m6, -, -, -, -, -, -, -, -, m15, m16, -, -, m19, m20, m21, m22, m23, m24, m25, m26, m27, -⟩ := hm
  have m2 : γ 0 71 0 (ρ 0) = ρ 3 := m2
  have m6 : γ 0 69 0 (ρ 0) = ρ 7 := m6
  have m15 : γ 1 15 0 77 = ρ 17 := m15
  have m16 : γ 1 15 0 90 = ρ 18 := m16
  have m19 : γ 1 109 0 (ρ 15) = ρ 20 := m19
  have m20 : γ 1 108 0 (ρ 15) = ρ 21 := m20
  have m21 : γ 0 66 0 (ρ 7) = ρ 22 := m21
  have m22 : γ 0 70 0 (4 * ρ 0) = ρ 23 := m22
  have m23 : γ 1 105 0 (4 * ρ 15) = ρ 24 := m23
  have m24 : γ 0 70 0 (4 * ρ 0 + 1) = ρ 25 := m24
  have m25 : γ 1 105 0 (4 * ρ 15 + 1) = ρ 26 := m25
  have m26 : γ 0 70 0 (4 * ρ 0 + 2) = ρ 27 := m26
  have m27 : γ 1 105 0 (4 * ρ 15 + 3) = ρ 28 := m27
  obtain ⟨⟨⟨⟨⟨-, c2⟩, c3⟩, c4⟩, c5⟩, -⟩ := hc
  have c2 : γ 2 = rUp (γ 1) 102 0 0 (ρ 24) := c2
  have c3 : γ 3 = rUp (γ 2) 102 0 1 (ρ 26) := c3
  have c4 : γ 4 = rUp (γ 3) 102 0 2 (ρ 21) := c4
  have c5 : γ 5 = rUp (γ 4) 102 0 3 (ρ 28) := c5
  obtain ⟨l0, -⟩ := hl
  have l0 : sn57 [ρ 7, ρ 0, ρ 2, ρ 19, ρ 29, ρ 30, ρ 31, ρ 10, ρ 17] (γ 5) 0 0 (γ 6) := hS57 _ _ _ _ _ l0
  show jn75 [ρ 0, ρ 1, ρ 2, ρ 3, ρ 4, ρ 5, ρ 6, ρ 7, ρ 8, ρ 9, ρ 10, ρ 11, ρ 12, ρ 13, ρ 14] (γ 0) 0 [ρ 0, ρ 1, ρ 2, ρ 3, ρ 4, ρ 5, ρ 6, ρ 7, ρ 8, ρ 9, ρ 10, ρ 11, ρ 12, ρ 13, ρ 14, ρ 15 + 1, ρ 16, ρ 36, ρ 18, ρ 32] (γ 6)
  have hD : en75 (γ 0) (0, [ρ 0, ρ 15], γ 1) = .inl (0, [ρ 0, ρ 15 + 1], γ 6) := by
    unfold en75
    refine (if_pos (show (0 : Nat) = 0 by decide)).trans ?_
    refine (zLet_eq (show _ = γ 1 from rfl)).trans ?_
    refine (zLet_eq (show _ = ρ 0 from rfl)).trans ?_
    refine (zLet_eq (show _ = ρ 15 from rfl)).trans ?_
    refine (zLet_eq m2).trans ?_
    refine (zLet_eq m6).trans ?_
    refine (zLet_eq m15).trans ?_
    refine (zLet_eq m16).trans ?_
    refine (if_neg w_0).trans ?_
    refine (if_neg w_1).trans ?_
    refine (if_neg w_2).trans ?_
    refine (zLet_eq m19).trans ?_
    refine (if_pos w_3).trans ?_
    refine (zLet_eq m20).trans ?_
    refine (zLet_eq m21).trans ?_
    refine (if_neg w_4).trans ?_
    refine (zLet_eq m22).trans ?_
    refine (if_pos w_5).trans ?_
    refine (zLet_eq m23).trans ?_
    refine (zLet_eq c2.symm).trans ?_
    refine (if_neg w_6).trans ?_
    refine (zLet_eq m24).trans ?_
    refine (if_pos w_7).trans ?_
    refine (zLet_eq m25).trans ?_
    refine (zLet_eq c3.symm).trans ?_
    refine (if_neg w_8).trans ?_
    refine (zLet_eq m26).trans ?_
    refine (if_neg w_9).trans ?_
    refine (zLet_eq c4.symm).trans ?_
    refine (if_pos w_10).trans ?_
    refine (zLet_eq m27).trans ?_
    refine (zLet_eq c5.symm).trans ?_
    refine (zLet_eq (show fn57 [ρ 7, ρ 0] (γ 5) = (0, 0, γ 6) from l0.symm)).trans ?_
    refine (zLet_eq (show _ = γ 6 from rfl)).trans ?_
    rfl
  exact zGoo_ato hJ hD
theorem vn75a0_71 {S : Nat → zSpc} (hS57 : ∀ x g o v gz, S 57 x g o v gz → sn57 x g o v gz) (hS73 : ∀ x g o v gz, S 73 x g o v gz → sn73 x g o v gz) {a : List Int} {g : rHp} : ∀ (ρ : Nat → Int) (γ : Nat → rHp), jn75 a g 0 (zAg (zNA a75_ 0) ρ) (γ 1) → zO 15 S a g q75a0_71 ρ γ → zGl (fun i vs g1 => jn75 a g i vs g1) (sn75 a g) q75a0_71 ρ γ := by
  intro ρ γ hJ h
  obtain ⟨ha, hg, hr, hf, hm, hc, hl⟩ := h
  have ha : a = [ρ 0, ρ 1, ρ 2, ρ 3, ρ 4, ρ 5, ρ 6, ρ 7, ρ 8, ρ 9, ρ 10, ρ 11, ρ 12, ρ 13, ρ 14] := ha
  subst ha
  subst hg
  have hJ : jn75 [ρ 0, ρ 1, ρ 2, ρ 3, ρ 4, ρ 5, ρ 6, ρ 7, ρ 8, ρ 9, ρ 10, ρ 11, ρ 12, ρ 13, ρ 14] (γ 0) 0 [ρ 0, ρ 1, ρ 2, ρ 3, ρ 4, ρ 5, ρ 6, ρ 7, ρ 8, ρ 9, ρ 10, ρ 11, ρ 12, ρ 13, ρ 14, ρ 15, ρ 16, ρ 17, ρ 18, ρ 19] (γ 1) := hJ
  obtain ⟨-, -, -, r3, -, -, -, -, -, -, -, -, -, -, -, -, -, r17, -, -, r20, -, r22, r23, -, r25, -, r27, r28, -⟩ := hr
  have r3 : (3 : Int) ≤ ρ 3 ∧ ρ 3 ≤ 4 := r3
  have r17 : (0 : Int) ≤ ρ 17 ∧ ρ 17 ≤ 0 := r17
  have r20 : (1 : Int) ≤ ρ 20 ∧ ρ 20 ≤ 1 := r20
  have r22 : (4 : Int) ≤ ρ 22 ∧ ρ 22 ≤ 4 := r22
  have r23 : (0 : Int) ≤ ρ 23 ∧ ρ 23 ≤ 2 := r23
  have r25 : (0 : Int) ≤ ρ 25 ∧ ρ 25 ≤ 2 := r25
  have r27 : (3 : Int) ≤ ρ 27 ∧ ρ 27 ≤ 3 := r27
  have r28 : (0 : Int) ≤ ρ 28 ∧ ρ 28 ≤ 2 := r28
  obtain ⟨-, -, -, f3, -⟩ := hf
  have f3 : (0 : Int) ≤ ρ 18 + -ρ 15 + (-1) := f3
  obtain ⟨w_0, w_1, w_2, w_3, w_4, w_5, w_6, w_7, w_8, w_9, w_10, w_11⟩ : (¬ (ρ 15 ≥ ρ 18)) ∧ (¬ (ρ 17 ≠ 0)) ∧ (¬ (ρ 3 ≤ 2)) ∧ (ρ 20 ≠ 0) ∧ (¬ (0 ≥ ρ 22)) ∧ (ρ 23 ≠ 3) ∧ (¬ (1 ≥ ρ 22)) ∧ (ρ 25 ≠ 3) ∧ (¬ (2 ≥ ρ 22)) ∧ (¬ (ρ 27 ≠ 3)) ∧ (¬ (3 ≥ ρ 22)) ∧ (ρ 28 ≠ 3) := ⟨by omega, by omega, by omega, by omega, by omega, by omega, by omega, by omega, by omega, by omega, by omega, by omega⟩
  obtain ⟨-, -, m2, -, -, -, m6, -, -, -, -, -, -, -, -, m15, m16, -, -, m19, m20, m21, m22, m23, m24, m25, m26, m27, m28, -⟩ := hm
  have m2 : γ 0 71 0 (ρ 0) = ρ 3 := m2
  have m6 : γ 0 69 0 (ρ 0) = ρ 7 := m6
  have m15 : γ 1 15 0 77 = ρ 17 := m15
  have m16 : γ 1 15 0 90 = ρ 18 := m16
  have m19 : γ 1 109 0 (ρ 15) = ρ 20 := m19
  have m20 : γ 1 108 0 (ρ 15) = ρ 21 := m20
  have m21 : γ 0 66 0 (ρ 7) = ρ 22 := m21
  have m22 : γ 0 70 0 (4 * ρ 0) = ρ 23 := m22
  have m23 : γ 1 105 0 (4 * ρ 15) = ρ 24 := m23
  have m24 : γ 0 70 0 (4 * ρ 0 + 1) = ρ 25 := m24
  have m25 : γ 1 105 0 (4 * ρ 15 + 1) = ρ 26 := m25
  have m26 : γ 0 70 0 (4 * ρ 0 + 2) = ρ 27 := m26
  have m27 : γ 0 70 0 (4 * ρ 0 + 3) = ρ 28 := m27
  have m28 : γ 1 105 0 (4 * ρ 15 + 3) = ρ 29 := m28
  obtain ⟨⟨⟨⟨⟨-, c2⟩, c3⟩, c4⟩, c5⟩, -⟩ := hc
  have c2 : γ 2 = rUp (γ 1) 102 0 0 (ρ 24) := c2
  have c3 : γ 3 = rUp (γ 2) 102 0 1 (ρ 26) := c3
  have c4 : γ 4 = rUp (γ 3) 102 0 2 (ρ 21) := c4
  have c5 : γ 5 = rUp (γ 4) 102 0 3 (ρ 29) := c5
  obtain ⟨l0, -⟩ := hl
  have l0 : sn57 [ρ 7, ρ 0, ρ 2, ρ 19, ρ 30, ρ 31, ρ 32, ρ 10, ρ 17] (γ 5) 0 0 (γ 6) := hS57 _ _ _ _ _ l0
  show jn75 [ρ 0, ρ 1, ρ 2, ρ 3, ρ 4, ρ 5, ρ 6, ρ 7, ρ 8, ρ 9, ρ 10, ρ 11, ρ 12, ρ 13, ρ 14] (γ 0) 0 [ρ 0, ρ 1, ρ 2, ρ 3, ρ 4, ρ 5, ρ 6, ρ 7, ρ 8, ρ 9, ρ 10, ρ 11, ρ 12, ρ 13, ρ 14, ρ 15 + 1, ρ 16, ρ 37, ρ 18, ρ 33] (γ 6)
  have hD : en75 (γ 0) (0, [ρ 0, ρ 15], γ 1) = .inl (0, [ρ 0, ρ 15 + 1], γ 6) := by
    unfold en75
    refine (if_pos (show (0 : Nat) = 0 by decide)).trans ?_
    refine (zLet_eq (show _ = γ 1 from rfl)).trans ?_
    refine (zLet_eq (show _ = ρ 0 from rfl)).trans ?_
    refine (zLet_eq (show _ = ρ 15 from rfl)).trans ?_
    refine (zLet_eq m2).trans ?_
    refine (zLet_eq m6).trans ?_
    refine (zLet_eq m15).trans ?_
    refine (zLet_eq m16).trans ?_
    refine (if_neg w_0).trans ?_
    refine (if_neg w_1).trans ?_
    refine (if_neg w_2).trans ?_
    refine (zLet_eq m19).trans ?_
    refine (if_pos w_3).trans ?_
    refine (zLet_eq m20).trans ?_
    refine (zLet_eq m21).trans ?_
    refine (if_neg w_4).trans ?_
    refine (zLet_eq m22).trans ?_
    refine (if_pos w_5).trans ?_
    refine (zLet_eq m23).trans ?_
    refine (zLet_eq c2.symm).trans ?_
    refine (if_neg w_6).trans ?_
    refine (zLet_eq m24).trans ?_
    refine (if_pos w_7).trans ?_
    refine (zLet_eq m25).trans ?_
    refine (zLet_eq c3.symm).trans ?_
    refine (if_neg w_8).trans ?_
    refine (zLet_eq m26).trans ?_
    refine (if_neg w_9).trans ?_
    refine (zLet_eq c4.symm).trans ?_
    refine (if_neg w_10).trans ?_
    refine (zLet_eq m27).trans ?_
    refine (if_pos w_11).trans ?_
    refine (zLet_eq m28).trans ?_
    refine (zLet_eq c5.symm).trans ?_
    refine (zLet_eq (show fn57 [ρ 7, ρ 0] (γ 5) = (0, 0, γ 6) from l0.symm)).trans ?_
    refine (zLet_eq (show _ = γ 6 from rfl)).trans ?_
    rfl
  exact zGoo_ato hJ hD
theorem vn75a0_72 {S : Nat → zSpc} (hS57 : ∀ x g o v gz, S 57 x g o v gz → sn57 x g o v gz) (hS73 : ∀ x g o v gz, S 73 x g o v gz → sn73 x g o v gz) {a : List Int} {g : rHp} : ∀ (ρ : Nat → Int) (γ : Nat → rHp), jn75 a g 0 (zAg (zNA a75_ 0) ρ) (γ 1) → zO 15 S a g q75a0_72 ρ γ → zGl (fun i vs g1 => jn75 a g i vs g1) (sn75 a g) q75a0_72 ρ γ := by
  intro ρ γ hJ h
  obtain ⟨ha, hg, hr, hf, hm, hc, hl⟩ := h
  have ha : a = [ρ 0, ρ 1, ρ 2, ρ 3, ρ 4, ρ 5, ρ 6, ρ 7, ρ 8, ρ 9, ρ 10, ρ 11, ρ 12, ρ 13, ρ 14] := ha
  subst ha
  subst hg
  have hJ : jn75 [ρ 0, ρ 1, ρ 2, ρ 3, ρ 4, ρ 5, ρ 6, ρ 7, ρ 8, ρ 9, ρ 10, ρ 11, ρ 12, ρ 13, ρ 14] (γ 0) 0 [ρ 0, ρ 1, ρ 2, ρ 3, ρ 4, ρ 5, ρ 6, ρ 7, ρ 8, ρ 9, ρ 10, ρ 11, ρ 12, ρ 13, ρ 14, ρ 15, ρ 16, ρ 17, ρ 18, ρ 19] (γ 1) := hJ
  obtain ⟨-, -, -, r3, -, -, -, -, -, -, -, -, -, -, -, -, -, r17, -, -, r20, -, r22, r23, -, r25, -, r27, r28, -⟩ := hr
  have r3 : (3 : Int) ≤ ρ 3 ∧ ρ 3 ≤ 4 := r3
  have r17 : (0 : Int) ≤ ρ 17 ∧ ρ 17 ≤ 0 := r17
  have r20 : (1 : Int) ≤ ρ 20 ∧ ρ 20 ≤ 1 := r20
  have r22 : (4 : Int) ≤ ρ 22 ∧ ρ 22 ≤ 4 := r22
  have r23 : (0 : Int) ≤ ρ 23 ∧ ρ 23 ≤ 2 := r23
  have r25 : (0 : Int) ≤ ρ 25 ∧ ρ 25 ≤ 2 := r25
  have r27 : (3 : Int) ≤ ρ 27 ∧ ρ 27 ≤ 3 := r27
  have r28 : (3 : Int) ≤ ρ 28 ∧ ρ 28 ≤ 3 := r28
  obtain ⟨-, -, -, f3, -⟩ := hf
  have f3 : (0 : Int) ≤ ρ 18 + -ρ 15 + (-1) := f3
  obtain ⟨w_0, w_1, w_2, w_3, w_4, w_5, w_6, w_7, w_8, w_9, w_10, w_11⟩ : (¬ (ρ 15 ≥ ρ 18)) ∧ (¬ (ρ 17 ≠ 0)) ∧ (¬ (ρ 3 ≤ 2)) ∧ (ρ 20 ≠ 0) ∧ (¬ (0 ≥ ρ 22)) ∧ (ρ 23 ≠ 3) ∧ (¬ (1 ≥ ρ 22)) ∧ (ρ 25 ≠ 3) ∧ (¬ (2 ≥ ρ 22)) ∧ (¬ (ρ 27 ≠ 3)) ∧ (¬ (3 ≥ ρ 22)) ∧ (¬ (ρ 28 ≠ 3)) := ⟨by omega, by omega, by omega, by omega, by omega, by omega, by omega, by omega, by omega, by omega, by omega, by omega⟩
  obtain ⟨-, -, m2, -, -, -, m6, -, -, -, -, -, -, -, -, m15, m16, -, -, m19, m20, m21, m22, m23, m24, m25, m26, m27, -⟩ := hm
  have m2 : γ 0 71 0 (ρ 0) = ρ 3 := m2
  have m6 : γ 0 69 0 (ρ 0) = ρ 7 := m6
  have m15 : γ 1 15 0 77 = ρ 17 := m15
  have m16 : γ 1 15 0 90 = ρ 18 := m16
  have m19 : γ 1 109 0 (ρ 15) = ρ 20 := m19
  have m20 : γ 1 108 0 (ρ 15) = ρ 21 := m20
  have m21 : γ 0 66 0 (ρ 7) = ρ 22 := m21
  have m22 : γ 0 70 0 (4 * ρ 0) = ρ 23 := m22
  have m23 : γ 1 105 0 (4 * ρ 15) = ρ 24 := m23
  have m24 : γ 0 70 0 (4 * ρ 0 + 1) = ρ 25 := m24
  have m25 : γ 1 105 0 (4 * ρ 15 + 1) = ρ 26 := m25
  have m26 : γ 0 70 0 (4 * ρ 0 + 2) = ρ 27 := m26
  have m27 : γ 0 70 0 (4 * ρ 0 + 3) = ρ 28 := m27
  obtain ⟨⟨⟨⟨⟨-, c2⟩, c3⟩, c4⟩, c5⟩, -⟩ := hc
  have c2 : γ 2 = rUp (γ 1) 102 0 0 (ρ 24) := c2
  have c3 : γ 3 = rUp (γ 2) 102 0 1 (ρ 26) := c3
  have c4 : γ 4 = rUp (γ 3) 102 0 2 (ρ 21) := c4
  have c5 : γ 5 = rUp (γ 4) 102 0 3 (ρ 21) := c5
  obtain ⟨l0, -⟩ := hl
  have l0 : sn57 [ρ 7, ρ 0, ρ 2, ρ 19, ρ 29, ρ 30, ρ 31, ρ 10, ρ 17] (γ 5) 0 0 (γ 6) := hS57 _ _ _ _ _ l0
  show jn75 [ρ 0, ρ 1, ρ 2, ρ 3, ρ 4, ρ 5, ρ 6, ρ 7, ρ 8, ρ 9, ρ 10, ρ 11, ρ 12, ρ 13, ρ 14] (γ 0) 0 [ρ 0, ρ 1, ρ 2, ρ 3, ρ 4, ρ 5, ρ 6, ρ 7, ρ 8, ρ 9, ρ 10, ρ 11, ρ 12, ρ 13, ρ 14, ρ 15 + 1, ρ 16, ρ 36, ρ 18, ρ 32] (γ 6)
  have hD : en75 (γ 0) (0, [ρ 0, ρ 15], γ 1) = .inl (0, [ρ 0, ρ 15 + 1], γ 6) := by
    unfold en75
    refine (if_pos (show (0 : Nat) = 0 by decide)).trans ?_
    refine (zLet_eq (show _ = γ 1 from rfl)).trans ?_
    refine (zLet_eq (show _ = ρ 0 from rfl)).trans ?_
    refine (zLet_eq (show _ = ρ 15 from rfl)).trans ?_
    refine (zLet_eq m2).trans ?_
    refine (zLet_eq m6).trans ?_
    refine (zLet_eq m15).trans ?_
    refine (zLet_eq m16).trans ?_
    refine (if_neg w_0).trans ?_
    refine (if_neg w_1).trans ?_
    refine (if_neg w_2).trans ?_
    refine (zLet_eq m19).trans ?_
    refine (if_pos w_3).trans ?_
    refine (zLet_eq m20).trans ?_
    refine (zLet_eq m21).trans ?_
    refine (if_neg w_4).trans ?_
    refine (zLet_eq m22).trans ?_
    refine (if_pos w_5).trans ?_
    refine (zLet_eq m23).trans ?_
    refine (zLet_eq c2.symm).trans ?_
    refine (if_neg w_6).trans ?_
    refine (zLet_eq m24).trans ?_
    refine (if_pos w_7).trans ?_
    refine (zLet_eq m25).trans ?_
    refine (zLet_eq c3.symm).trans ?_
    refine (if_neg w_8).trans ?_
    refine (zLet_eq m26).trans ?_
    refine (if_neg w_9).trans ?_
    refine (zLet_eq c4.symm).trans ?_
    refine (if_neg w_10).trans ?_
    refine (zLet_eq m27).trans ?_
    refine (if_neg w_11).trans ?_
    refine (zLet_eq c5.symm).trans ?_
    refine (zLet_eq (show fn57 [ρ 7, ρ 0] (γ 5) = (0, 0, γ 6) from l0.symm)).trans ?_
    refine (zLet_eq (show _ = γ 6 from rfl)).trans ?_
    rfl
  exact zGoo_ato hJ hD
theorem vn75a0_73 {S : Nat → zSpc} (hS57 : ∀ x g o v gz, S 57 x g o v gz → sn57 x g o v gz) (hS73 : ∀ x g o v gz, S 73 x g o v gz → sn73 x g o v gz) {a : List Int} {g : rHp} : ∀ (ρ : Nat → Int) (γ : Nat → rHp), jn75 a g 0 (zAg (zNA a75_ 0) ρ) (γ 1) → zO 15 S a g q75a0_73 ρ γ → zGl (fun i vs g1 => jn75 a g i vs g1) (sn75 a g) q75a0_73 ρ γ := by
  intro ρ γ hJ h
  obtain ⟨ha, hg, hr, hf, hm, hc, hl⟩ := h
  have ha : a = [ρ 0, ρ 1, ρ 2, ρ 3, ρ 4, ρ 5, ρ 6, ρ 7, ρ 8, ρ 9, ρ 10, ρ 11, ρ 12, ρ 13, ρ 14] := ha
  subst ha
  subst hg
  have hJ : jn75 [ρ 0, ρ 1, ρ 2, ρ 3, ρ 4, ρ 5, ρ 6, ρ 7, ρ 8, ρ 9, ρ 10, ρ 11, ρ 12, ρ 13, ρ 14] (γ 0) 0 [ρ 0, ρ 1, ρ 2, ρ 3, ρ 4, ρ 5, ρ 6, ρ 7, ρ 8, ρ 9, ρ 10, ρ 11, ρ 12, ρ 13, ρ 14, ρ 15, ρ 16, ρ 17, ρ 18, ρ 19] (γ 1) := hJ
  obtain ⟨-, -, -, r3, -, -, -, -, -, -, -, -, -, -, -, -, -, r17, -, -, r20, -, r22, r23, -, r25, -⟩ := hr
  have r3 : (3 : Int) ≤ ρ 3 ∧ ρ 3 ≤ 4 := r3
  have r17 : (0 : Int) ≤ ρ 17 ∧ ρ 17 ≤ 0 := r17
  have r20 : (1 : Int) ≤ ρ 20 ∧ ρ 20 ≤ 1 := r20
  have r22 : (2 : Int) ≤ ρ 22 ∧ ρ 22 ≤ 2 := r22
  have r23 : (0 : Int) ≤ ρ 23 ∧ ρ 23 ≤ 2 := r23
  have r25 : (3 : Int) ≤ ρ 25 ∧ ρ 25 ≤ 3 := r25
  obtain ⟨-, -, -, f3, -⟩ := hf
  have f3 : (0 : Int) ≤ ρ 18 + -ρ 15 + (-1) := f3
  obtain ⟨w_0, w_1, w_2, w_3, w_4, w_5, w_6, w_7, w_8⟩ : (¬ (ρ 15 ≥ ρ 18)) ∧ (¬ (ρ 17 ≠ 0)) ∧ (¬ (ρ 3 ≤ 2)) ∧ (ρ 20 ≠ 0) ∧ (¬ (0 ≥ ρ 22)) ∧ (ρ 23 ≠ 3) ∧ (¬ (1 ≥ ρ 22)) ∧ (¬ (ρ 25 ≠ 3)) ∧ (2 ≥ ρ 22) := ⟨by omega, by omega, by omega, by omega, by omega, by omega, by omega, by omega, by omega⟩
  obtain ⟨-, -, m2, -, -, -, m6, -, -, -, -, -, -, -, -, m15, m16, -, -, m19, m20, m21, m22, m23, m24, m25, m26, -⟩ := hm
  have m2 : γ 0 71 0 (ρ 0) = ρ 3 := m2
  have m6 : γ 0 69 0 (ρ 0) = ρ 7 := m6
  have m15 : γ 1 15 0 77 = ρ 17 := m15
  have m16 : γ 1 15 0 90 = ρ 18 := m16
  have m19 : γ 1 109 0 (ρ 15) = ρ 20 := m19
  have m20 : γ 1 108 0 (ρ 15) = ρ 21 := m20
  have m21 : γ 0 66 0 (ρ 7) = ρ 22 := m21
  have m22 : γ 0 70 0 (4 * ρ 0) = ρ 23 := m22
  have m23 : γ 1 105 0 (4 * ρ 15) = ρ 24 := m23
  have m24 : γ 0 70 0 (4 * ρ 0 + 1) = ρ 25 := m24
  have m25 : γ 1 105 0 (4 * ρ 15 + 2) = ρ 26 := m25
  have m26 : γ 1 105 0 (4 * ρ 15 + 3) = ρ 27 := m26
  obtain ⟨⟨⟨⟨⟨-, c2⟩, c3⟩, c4⟩, c5⟩, -⟩ := hc
  have c2 : γ 2 = rUp (γ 1) 102 0 0 (ρ 24) := c2
  have c3 : γ 3 = rUp (γ 2) 102 0 1 (ρ 21) := c3
  have c4 : γ 4 = rUp (γ 3) 102 0 2 (ρ 26) := c4
  have c5 : γ 5 = rUp (γ 4) 102 0 3 (ρ 27) := c5
  obtain ⟨l0, -⟩ := hl
  have l0 : sn57 [ρ 7, ρ 0, ρ 2, ρ 19, ρ 28, ρ 29, ρ 30, ρ 10, ρ 17] (γ 5) 0 0 (γ 6) := hS57 _ _ _ _ _ l0
  show jn75 [ρ 0, ρ 1, ρ 2, ρ 3, ρ 4, ρ 5, ρ 6, ρ 7, ρ 8, ρ 9, ρ 10, ρ 11, ρ 12, ρ 13, ρ 14] (γ 0) 0 [ρ 0, ρ 1, ρ 2, ρ 3, ρ 4, ρ 5, ρ 6, ρ 7, ρ 8, ρ 9, ρ 10, ρ 11, ρ 12, ρ 13, ρ 14, ρ 15 + 1, ρ 16, ρ 35, ρ 18, ρ 31] (γ 6)
  have hD : en75 (γ 0) (0, [ρ 0, ρ 15], γ 1) = .inl (0, [ρ 0, ρ 15 + 1], γ 6) := by
    unfold en75
    refine (if_pos (show (0 : Nat) = 0 by decide)).trans ?_
    refine (zLet_eq (show _ = γ 1 from rfl)).trans ?_
    refine (zLet_eq (show _ = ρ 0 from rfl)).trans ?_
    refine (zLet_eq (show _ = ρ 15 from rfl)).trans ?_
    refine (zLet_eq m2).trans ?_
    refine (zLet_eq m6).trans ?_
    refine (zLet_eq m15).trans ?_
    refine (zLet_eq m16).trans ?_
    refine (if_neg w_0).trans ?_
    refine (if_neg w_1).trans ?_
    refine (if_neg w_2).trans ?_
    refine (zLet_eq m19).trans ?_
    refine (if_pos w_3).trans ?_
    refine (zLet_eq m20).trans ?_
    refine (zLet_eq m21).trans ?_
    refine (if_neg w_4).trans ?_
    refine (zLet_eq m22).trans ?_
    refine (if_pos w_5).trans ?_
    refine (zLet_eq m23).trans ?_
    refine (zLet_eq c2.symm).trans ?_
    refine (if_neg w_6).trans ?_
    refine (zLet_eq m24).trans ?_
    refine (if_neg w_7).trans ?_
    refine (zLet_eq c3.symm).trans ?_
    refine (if_pos w_8).trans ?_
    refine (zLet_eq m25).trans ?_
    refine (zLet_eq c4.symm).trans ?_
    refine (zLet_eq m26).trans ?_
    refine (zLet_eq c5.symm).trans ?_
    refine (zLet_eq (show fn57 [ρ 7, ρ 0] (γ 5) = (0, 0, γ 6) from l0.symm)).trans ?_
    refine (zLet_eq (show _ = γ 6 from rfl)).trans ?_
    rfl
  exact zGoo_ato hJ hD
theorem vn75a0_74 {S : Nat → zSpc} (hS57 : ∀ x g o v gz, S 57 x g o v gz → sn57 x g o v gz) (hS73 : ∀ x g o v gz, S 73 x g o v gz → sn73 x g o v gz) {a : List Int} {g : rHp} : ∀ (ρ : Nat → Int) (γ : Nat → rHp), jn75 a g 0 (zAg (zNA a75_ 0) ρ) (γ 1) → zO 15 S a g q75a0_74 ρ γ → zGl (fun i vs g1 => jn75 a g i vs g1) (sn75 a g) q75a0_74 ρ γ := by
  intro ρ γ hJ h
  obtain ⟨ha, hg, hr, hf, hm, hc, hl⟩ := h
  have ha : a = [ρ 0, ρ 1, ρ 2, ρ 3, ρ 4, ρ 5, ρ 6, ρ 7, ρ 8, ρ 9, ρ 10, ρ 11, ρ 12, ρ 13, ρ 14] := ha
  subst ha
  subst hg
  have hJ : jn75 [ρ 0, ρ 1, ρ 2, ρ 3, ρ 4, ρ 5, ρ 6, ρ 7, ρ 8, ρ 9, ρ 10, ρ 11, ρ 12, ρ 13, ρ 14] (γ 0) 0 [ρ 0, ρ 1, ρ 2, ρ 3, ρ 4, ρ 5, ρ 6, ρ 7, ρ 8, ρ 9, ρ 10, ρ 11, ρ 12, ρ 13, ρ 14, ρ 15, ρ 16, ρ 17, ρ 18, ρ 19] (γ 1) := hJ
  obtain ⟨-, -, -, r3, -, -, -, -, -, -, -, -, -, -, -, -, -, r17, -, -, r20, -, r22, r23, -, r25, r26, -⟩ := hr
  have r3 : (3 : Int) ≤ ρ 3 ∧ ρ 3 ≤ 4 := r3
  have r17 : (0 : Int) ≤ ρ 17 ∧ ρ 17 ≤ 0 := r17
  have r20 : (1 : Int) ≤ ρ 20 ∧ ρ 20 ≤ 1 := r20
  have r22 : (3 : Int) ≤ ρ 22 ∧ ρ 22 ≤ 3 := r22
  have r23 : (0 : Int) ≤ ρ 23 ∧ ρ 23 ≤ 2 := r23
  have r25 : (3 : Int) ≤ ρ 25 ∧ ρ 25 ≤ 3 := r25
  have r26 : (0 : Int) ≤ ρ 26 ∧ ρ 26 ≤ 2 := r26
  obtain ⟨-, -, -, f3, -⟩ := hf
  have f3 : (0 : Int) ≤ ρ 18 + -ρ 15 + (-1) := f3
  obtain ⟨w_0, w_1, w_2, w_3, w_4, w_5, w_6, w_7, w_8, w_9, w_10⟩ : (¬ (ρ 15 ≥ ρ 18)) ∧ (¬ (ρ 17 ≠ 0)) ∧ (¬ (ρ 3 ≤ 2)) ∧ (ρ 20 ≠ 0) ∧ (¬ (0 ≥ ρ 22)) ∧ (ρ 23 ≠ 3) ∧ (¬ (1 ≥ ρ 22)) ∧ (¬ (ρ 25 ≠ 3)) ∧ (¬ (2 ≥ ρ 22)) ∧ (ρ 26 ≠ 3) ∧ (3 ≥ ρ 22) := ⟨by omega, by omega, by omega, by omega, by omega, by omega, by omega, by omega, by omega, by omega, by omega⟩
  obtain ⟨-, -, m2, -, -, -, m6, -, -, -, -, -, -, -, -, m15, m16, -, -, m19, m20, m21, m22, m23, m24, m25, m26, m27, -⟩ := hm
  have m2 : γ 0 71 0 (ρ 0) = ρ 3 := m2
  have m6 : γ 0 69 0 (ρ 0) = ρ 7 := m6
  have m15 : γ 1 15 0 77 = ρ 17 := m15
  have m16 : γ 1 15 0 90 = ρ 18 := m16
  have m19 : γ 1 109 0 (ρ 15) = ρ 20 := m19
  have m20 : γ 1 108 0 (ρ 15) = ρ 21 := m20
  have m21 : γ 0 66 0 (ρ 7) = ρ 22 := m21
  have m22 : γ 0 70 0 (4 * ρ 0) = ρ 23 := m22
  have m23 : γ 1 105 0 (4 * ρ 15) = ρ 24 := m23
  have m24 : γ 0 70 0 (4 * ρ 0 + 1) = ρ 25 := m24
  have m25 : γ 0 70 0 (4 * ρ 0 + 2) = ρ 26 := m25
  have m26 : γ 1 105 0 (4 * ρ 15 + 2) = ρ 27 := m26
  have m27 : γ 1 105 0 (4 * ρ 15 + 3) = ρ 28 := m27
  obtain ⟨⟨⟨⟨⟨-, c2⟩, c3⟩, c4⟩, c5⟩, -⟩ := hc
  have c2 : γ 2 = rUp (γ 1) 102 0 0 (ρ 24) := c2
  have c3 : γ 3 = rUp (γ 2) 102 0 1 (ρ 21) := c3
  have c4 : γ 4 = rUp (γ 3) 102 0 2 (ρ 27) := c4
  have c5 : γ 5 = rUp (γ 4) 102 0 3 (ρ 28) := c5
  obtain ⟨l0, -⟩ := hl
  have l0 : sn57 [ρ 7, ρ 0, ρ 2, ρ 19, ρ 29, ρ 30, ρ 31, ρ 10, ρ 17] (γ 5) 0 0 (γ 6) := hS57 _ _ _ _ _ l0
  show jn75 [ρ 0, ρ 1, ρ 2, ρ 3, ρ 4, ρ 5, ρ 6, ρ 7, ρ 8, ρ 9, ρ 10, ρ 11, ρ 12, ρ 13, ρ 14] (γ 0) 0 [ρ 0, ρ 1, ρ 2, ρ 3, ρ 4, ρ 5, ρ 6, ρ 7, ρ 8, ρ 9, ρ 10, ρ 11, ρ 12, ρ 13, ρ 14, ρ 15 + 1, ρ 16, ρ 36, ρ 18, ρ 32] (γ 6)
  have hD : en75 (γ 0) (0, [ρ 0, ρ 15], γ 1) = .inl (0, [ρ 0, ρ 15 + 1], γ 6) := by
    unfold en75
    refine (if_pos (show (0 : Nat) = 0 by decide)).trans ?_
    refine (zLet_eq (show _ = γ 1 from rfl)).trans ?_
    refine (zLet_eq (show _ = ρ 0 from rfl)).trans ?_
    refine (zLet_eq (show _ = ρ 15 from rfl)).trans ?_
    refine (zLet_eq m2).trans ?_
    refine (zLet_eq m6).trans ?_
    refine (zLet_eq m15).trans ?_
    refine (zLet_eq m16).trans ?_
    refine (if_neg w_0).trans ?_
    refine (if_neg w_1).trans ?_
    refine (if_neg w_2).trans ?_
    refine (zLet_eq m19).trans ?_
    refine (if_pos w_3).trans ?_
    refine (zLet_eq m20).trans ?_
    refine (zLet_eq m21).trans ?_
    refine (if_neg w_4).trans ?_
    refine (zLet_eq m22).trans ?_
    refine (if_pos w_5).trans ?_
    refine (zLet_eq m23).trans ?_
    refine (zLet_eq c2.symm).trans ?_
    refine (if_neg w_6).trans ?_
    refine (zLet_eq m24).trans ?_
    refine (if_neg w_7).trans ?_
    refine (zLet_eq c3.symm).trans ?_
    refine (if_neg w_8).trans ?_
    refine (zLet_eq m25).trans ?_
    refine (if_pos w_9).trans ?_
    refine (zLet_eq m26).trans ?_
    refine (zLet_eq c4.symm).trans ?_
    refine (if_pos w_10).trans ?_
    refine (zLet_eq m27).trans ?_
    refine (zLet_eq c5.symm).trans ?_
    refine (zLet_eq (show fn57 [ρ 7, ρ 0] (γ 5) = (0, 0, γ 6) from l0.symm)).trans ?_
    refine (zLet_eq (show _ = γ 6 from rfl)).trans ?_
    rfl
  exact zGoo_ato hJ hD
theorem vn75a0_75 {S : Nat → zSpc} (hS57 : ∀ x g o v gz, S 57 x g o v gz → sn57 x g o v gz) (hS73 : ∀ x g o v gz, S 73 x g o v gz → sn73 x g o v gz) {a : List Int} {g : rHp} : ∀ (ρ : Nat → Int) (γ : Nat → rHp), jn75 a g 0 (zAg (zNA a75_ 0) ρ) (γ 1) → zO 15 S a g q75a0_75 ρ γ → zGl (fun i vs g1 => jn75 a g i vs g1) (sn75 a g) q75a0_75 ρ γ := by
  intro ρ γ hJ h
  obtain ⟨ha, hg, hr, hf, hm, hc, hl⟩ := h
  have ha : a = [ρ 0, ρ 1, ρ 2, ρ 3, ρ 4, ρ 5, ρ 6, ρ 7, ρ 8, ρ 9, ρ 10, ρ 11, ρ 12, ρ 13, ρ 14] := ha
  subst ha
  subst hg
  have hJ : jn75 [ρ 0, ρ 1, ρ 2, ρ 3, ρ 4, ρ 5, ρ 6, ρ 7, ρ 8, ρ 9, ρ 10, ρ 11, ρ 12, ρ 13, ρ 14] (γ 0) 0 [ρ 0, ρ 1, ρ 2, ρ 3, ρ 4, ρ 5, ρ 6, ρ 7, ρ 8, ρ 9, ρ 10, ρ 11, ρ 12, ρ 13, ρ 14, ρ 15, ρ 16, ρ 17, ρ 18, ρ 19] (γ 1) := hJ
  obtain ⟨-, -, -, r3, -, -, -, -, -, -, -, -, -, -, -, -, -, r17, -, -, r20, -, r22, r23, -, r25, r26, -, r28, -⟩ := hr
  have r3 : (3 : Int) ≤ ρ 3 ∧ ρ 3 ≤ 4 := r3
  have r17 : (0 : Int) ≤ ρ 17 ∧ ρ 17 ≤ 0 := r17
  have r20 : (1 : Int) ≤ ρ 20 ∧ ρ 20 ≤ 1 := r20
  have r22 : (4 : Int) ≤ ρ 22 ∧ ρ 22 ≤ 4 := r22
  have r23 : (0 : Int) ≤ ρ 23 ∧ ρ 23 ≤ 2 := r23
  have r25 : (3 : Int) ≤ ρ 25 ∧ ρ 25 ≤ 3 := r25
  have r26 : (0 : Int) ≤ ρ 26 ∧ ρ 26 ≤ 2 := r26
  have r28 : (0 : Int) ≤ ρ 28 ∧ ρ 28 ≤ 2 := r28
  obtain ⟨-, -, -, f3, -⟩ := hf
  have f3 : (0 : Int) ≤ ρ 18 + -ρ 15 + (-1) := f3
  obtain ⟨w_0, w_1, w_2, w_3, w_4, w_5, w_6, w_7, w_8, w_9, w_10, w_11⟩ : (¬ (ρ 15 ≥ ρ 18)) ∧ (¬ (ρ 17 ≠ 0)) ∧ (¬ (ρ 3 ≤ 2)) ∧ (ρ 20 ≠ 0) ∧ (¬ (0 ≥ ρ 22)) ∧ (ρ 23 ≠ 3) ∧ (¬ (1 ≥ ρ 22)) ∧ (¬ (ρ 25 ≠ 3)) ∧ (¬ (2 ≥ ρ 22)) ∧ (ρ 26 ≠ 3) ∧ (¬ (3 ≥ ρ 22)) ∧ (ρ 28 ≠ 3) := ⟨by omega, by omega, by omega, by omega, by omega, by omega, by omega, by omega, by omega, by omega, by omega, by omega⟩
  obtain ⟨-, -, m2, -, -, -, m6, -, -, -, -, -, -, -, -, m15, m16, -, -, m19, m20, m21, m22, m23, m24, m25, m26, m27, m28, -⟩ := hm
  have m2 : γ 0 71 0 (ρ 0) = ρ 3 := m2
  have m6 : γ 0 69 0 (ρ 0) = ρ 7 := m6
  have m15 : γ 1 15 0 77 = ρ 17 := m15
  have m16 : γ 1 15 0 90 = ρ 18 := m16
  have m19 : γ 1 109 0 (ρ 15) = ρ 20 := m19
  have m20 : γ 1 108 0 (ρ 15) = ρ 21 := m20
  have m21 : γ 0 66 0 (ρ 7) = ρ 22 := m21
  have m22 : γ 0 70 0 (4 * ρ 0) = ρ 23 := m22
  have m23 : γ 1 105 0 (4 * ρ 15) = ρ 24 := m23
  have m24 : γ 0 70 0 (4 * ρ 0 + 1) = ρ 25 := m24
  have m25 : γ 0 70 0 (4 * ρ 0 + 2) = ρ 26 := m25
  have m26 : γ 1 105 0 (4 * ρ 15 + 2) = ρ 27 := m26
  have m27 : γ 0 70 0 (4 * ρ 0 + 3) = ρ 28 := m27
  have m28 : γ 1 105 0 (4 * ρ 15 + 3) = ρ 29 := m28
  obtain ⟨⟨⟨⟨⟨-, c2⟩, c3⟩, c4⟩, c5⟩, -⟩ := hc
  have c2 : γ 2 = rUp (γ 1) 102 0 0 (ρ 24) := c2
  have c3 : γ 3 = rUp (γ 2) 102 0 1 (ρ 21) := c3
  have c4 : γ 4 = rUp (γ 3) 102 0 2 (ρ 27) := c4
  have c5 : γ 5 = rUp (γ 4) 102 0 3 (ρ 29) := c5
  obtain ⟨l0, -⟩ := hl
  have l0 : sn57 [ρ 7, ρ 0, ρ 2, ρ 19, ρ 30, ρ 31, ρ 32, ρ 10, ρ 17] (γ 5) 0 0 (γ 6) := hS57 _ _ _ _ _ l0
  show jn75 [ρ 0, ρ 1, ρ 2, ρ 3, ρ 4, ρ 5, ρ 6, ρ 7, ρ 8, ρ 9, ρ 10, ρ 11, ρ 12, ρ 13, ρ 14] (γ 0) 0 [ρ 0, ρ 1, ρ 2, ρ 3, ρ 4, ρ 5, ρ 6, ρ 7, ρ 8, ρ 9, ρ 10, ρ 11, ρ 12, ρ 13, ρ 14, ρ 15 + 1, ρ 16, ρ 37, ρ 18, ρ 33] (γ 6)
  have hD : en75 (γ 0) (0, [ρ 0, ρ 15], γ 1) = .inl (0, [ρ 0, ρ 15 + 1], γ 6) := by
    unfold en75
    refine (if_pos (show (0 : Nat) = 0 by decide)).trans ?_
    refine (zLet_eq (show _ = γ 1 from rfl)).trans ?_
    refine (zLet_eq (show _ = ρ 0 from rfl)).trans ?_
    refine (zLet_eq (show _ = ρ 15 from rfl)).trans ?_
    refine (zLet_eq m2).trans ?_
    refine (zLet_eq m6).trans ?_
    refine (zLet_eq m15).trans ?_
    refine (zLet_eq m16).trans ?_
    refine (if_neg w_0).trans ?_
    refine (if_neg w_1).trans ?_
    refine (if_neg w_2).trans ?_
    refine (zLet_eq m19).trans ?_
    refine (if_pos w_3).trans ?_
    refine (zLet_eq m20).trans ?_
    refine (zLet_eq m21).trans ?_
    refine (if_neg w_4).trans ?_
    refine (zLet_eq m22).trans ?_
    refine (if_pos w_5).trans ?_
    refine (zLet_eq m23).trans ?_
    refine (zLet_eq c2.symm).trans ?_
    refine (if_neg w_6).trans ?_
    refine (zLet_eq m24).trans ?_
    refine (if_neg w_7).trans ?_
    refine (zLet_eq c3.symm).trans ?_
    refine (if_neg w_8).trans ?_
    refine (zLet_eq m25).trans ?_
    refine (if_pos w_9).trans ?_
    refine (zLet_eq m26).trans ?_
    refine (zLet_eq c4.symm).trans ?_
    refine (if_neg w_10).trans ?_
    refine (zLet_eq m27).trans ?_
    refine (if_pos w_11).trans ?_
    refine (zLet_eq m28).trans ?_
    refine (zLet_eq c5.symm).trans ?_
    refine (zLet_eq (show fn57 [ρ 7, ρ 0] (γ 5) = (0, 0, γ 6) from l0.symm)).trans ?_
    refine (zLet_eq (show _ = γ 6 from rfl)).trans ?_
    rfl
  exact zGoo_ato hJ hD
theorem vn75a0_76 {S : Nat → zSpc} (hS57 : ∀ x g o v gz, S 57 x g o v gz → sn57 x g o v gz) (hS73 : ∀ x g o v gz, S 73 x g o v gz → sn73 x g o v gz) {a : List Int} {g : rHp} : ∀ (ρ : Nat → Int) (γ : Nat → rHp), jn75 a g 0 (zAg (zNA a75_ 0) ρ) (γ 1) → zO 15 S a g q75a0_76 ρ γ → zGl (fun i vs g1 => jn75 a g i vs g1) (sn75 a g) q75a0_76 ρ γ := by
  intro ρ γ hJ h
  obtain ⟨ha, hg, hr, hf, hm, hc, hl⟩ := h
  have ha : a = [ρ 0, ρ 1, ρ 2, ρ 3, ρ 4, ρ 5, ρ 6, ρ 7, ρ 8, ρ 9, ρ 10, ρ 11, ρ 12, ρ 13, ρ 14] := ha
  subst ha
  subst hg
  have hJ : jn75 [ρ 0, ρ 1, ρ 2, ρ 3, ρ 4, ρ 5, ρ 6, ρ 7, ρ 8, ρ 9, ρ 10, ρ 11, ρ 12, ρ 13, ρ 14] (γ 0) 0 [ρ 0, ρ 1, ρ 2, ρ 3, ρ 4, ρ 5, ρ 6, ρ 7, ρ 8, ρ 9, ρ 10, ρ 11, ρ 12, ρ 13, ρ 14, ρ 15, ρ 16, ρ 17, ρ 18, ρ 19] (γ 1) := hJ
  obtain ⟨-, -, -, r3, -, -, -, -, -, -, -, -, -, -, -, -, -, r17, -, -, r20, -, r22, r23, -, r25, r26, -, r28, -⟩ := hr
  have r3 : (3 : Int) ≤ ρ 3 ∧ ρ 3 ≤ 4 := r3
  have r17 : (0 : Int) ≤ ρ 17 ∧ ρ 17 ≤ 0 := r17
  have r20 : (1 : Int) ≤ ρ 20 ∧ ρ 20 ≤ 1 := r20
  have r22 : (4 : Int) ≤ ρ 22 ∧ ρ 22 ≤ 4 := r22
  have r23 : (0 : Int) ≤ ρ 23 ∧ ρ 23 ≤ 2 := r23
  have r25 : (3 : Int) ≤ ρ 25 ∧ ρ 25 ≤ 3 := r25
  have r26 : (0 : Int) ≤ ρ 26 ∧ ρ 26 ≤ 2 := r26
  have r28 : (3 : Int) ≤ ρ 28 ∧ ρ 28 ≤ 3 := r28
  obtain ⟨-, -, -, f3, -⟩ := hf
  have f3 : (0 : Int) ≤ ρ 18 + -ρ 15 + (-1) := f3
  obtain ⟨w_0, w_1, w_2, w_3, w_4, w_5, w_6, w_7, w_8, w_9, w_10, w_11⟩ : (¬ (ρ 15 ≥ ρ 18)) ∧ (¬ (ρ 17 ≠ 0)) ∧ (¬ (ρ 3 ≤ 2)) ∧ (ρ 20 ≠ 0) ∧ (¬ (0 ≥ ρ 22)) ∧ (ρ 23 ≠ 3) ∧ (¬ (1 ≥ ρ 22)) ∧ (¬ (ρ 25 ≠ 3)) ∧ (¬ (2 ≥ ρ 22)) ∧ (ρ 26 ≠ 3) ∧ (¬ (3 ≥ ρ 22)) ∧ (¬ (ρ 28 ≠ 3)) := ⟨by omega, by omega, by omega, by omega, by omega, by omega, by omega, by omega, by omega, by omega, by omega, by omega⟩
  obtain ⟨-, -, m2, -, -, -, m6, -, -, -, -, -, -, -, -, m15, m16, -, -, m19, m20, m21, m22, m23, m24, m25, m26, m27, -⟩ := hm
  have m2 : γ 0 71 0 (ρ 0) = ρ 3 := m2
  have m6 : γ 0 69 0 (ρ 0) = ρ 7 := m6
  have m15 : γ 1 15 0 77 = ρ 17 := m15
  have m16 : γ 1 15 0 90 = ρ 18 := m16
  have m19 : γ 1 109 0 (ρ 15) = ρ 20 := m19
  have m20 : γ 1 108 0 (ρ 15) = ρ 21 := m20
  have m21 : γ 0 66 0 (ρ 7) = ρ 22 := m21
  have m22 : γ 0 70 0 (4 * ρ 0) = ρ 23 := m22
  have m23 : γ 1 105 0 (4 * ρ 15) = ρ 24 := m23
  have m24 : γ 0 70 0 (4 * ρ 0 + 1) = ρ 25 := m24
  have m25 : γ 0 70 0 (4 * ρ 0 + 2) = ρ 26 := m25
  have m26 : γ 1 105 0 (4 * ρ 15 + 2) = ρ 27 := m26
  have m27 : γ 0 70 0 (4 * ρ 0 + 3) = ρ 28 := m27
  obtain ⟨⟨⟨⟨⟨-, c2⟩, c3⟩, c4⟩, c5⟩, -⟩ := hc
  have c2 : γ 2 = rUp (γ 1) 102 0 0 (ρ 24) := c2
  have c3 : γ 3 = rUp (γ 2) 102 0 1 (ρ 21) := c3
  have c4 : γ 4 = rUp (γ 3) 102 0 2 (ρ 27) := c4
  have c5 : γ 5 = rUp (γ 4) 102 0 3 (ρ 21) := c5
  obtain ⟨l0, -⟩ := hl
  have l0 : sn57 [ρ 7, ρ 0, ρ 2, ρ 19, ρ 29, ρ 30, ρ 31, ρ 10, ρ 17] (γ 5) 0 0 (γ 6) := hS57 _ _ _ _ _ l0
  show jn75 [ρ 0, ρ 1, ρ 2, ρ 3, ρ 4, ρ 5, ρ 6, ρ 7, ρ 8, ρ 9, ρ 10, ρ 11, ρ 12, ρ 13, ρ 14] (γ 0) 0 [ρ 0, ρ 1, ρ 2, ρ 3, ρ 4, ρ 5, ρ 6, ρ 7, ρ 8, ρ 9, ρ 10, ρ 11, ρ 12, ρ 13, ρ 14, ρ 15 + 1, ρ 16, ρ 36, ρ 18, ρ 32] (γ 6)
  have hD : en75 (γ 0) (0, [ρ 0, ρ 15], γ 1) = .inl (0, [ρ 0, ρ 15 + 1], γ 6) := by
    unfold en75
    refine (if_pos (show (0 : Nat) = 0 by decide)).trans ?_
    refine (zLet_eq (show _ = γ 1 from rfl)).trans ?_
    refine (zLet_eq (show _ = ρ 0 from rfl)).trans ?_
    refine (zLet_eq (show _ = ρ 15 from rfl)).trans ?_
    refine (zLet_eq m2).trans ?_
    refine (zLet_eq m6).trans ?_
    refine (zLet_eq m15).trans ?_
    refine (zLet_eq m16).trans ?_
    refine (if_neg w_0).trans ?_
    refine (if_neg w_1).trans ?_
    refine (if_neg w_2).trans ?_
    refine (zLet_eq m19).trans ?_
    refine (if_pos w_3).trans ?_
    refine (zLet_eq m20).trans ?_
    refine (zLet_eq m21).trans ?_
    refine (if_neg w_4).trans ?_
    refine (zLet_eq m22).trans ?_
    refine (if_pos w_5).trans ?_
    refine (zLet_eq m23).trans ?_
    refine (zLet_eq c2.symm).trans ?_
    refine (if_neg w_6).trans ?_
    refine (zLet_eq m24).trans ?_
    refine (if_neg w_7).trans ?_
    refine (zLet_eq c3.symm).trans ?_
    refine (if_neg w_8).trans ?_
    refine (zLet_eq m25).trans ?_
    refine (if_pos w_9).trans ?_
    refine (zLet_eq m26).trans ?_
    refine (zLet_eq c4.symm).trans ?_
    refine (if_neg w_10).trans ?_
    refine (zLet_eq m27).trans ?_
    refine (if_neg w_11).trans ?_
    refine (zLet_eq c5.symm).trans ?_
    refine (zLet_eq (show fn57 [ρ 7, ρ 0] (γ 5) = (0, 0, γ 6) from l0.symm)).trans ?_
    refine (zLet_eq (show _ = γ 6 from rfl)).trans ?_
    rfl
  exact zGoo_ato hJ hD
theorem vn75a0_77 {S : Nat → zSpc} (hS57 : ∀ x g o v gz, S 57 x g o v gz → sn57 x g o v gz) (hS73 : ∀ x g o v gz, S 73 x g o v gz → sn73 x g o v gz) {a : List Int} {g : rHp} : ∀ (ρ : Nat → Int) (γ : Nat → rHp), jn75 a g 0 (zAg (zNA a75_ 0) ρ) (γ 1) → zO 15 S a g q75a0_77 ρ γ → zGl (fun i vs g1 => jn75 a g i vs g1) (sn75 a g) q75a0_77 ρ γ := by
  intro ρ γ hJ h
  obtain ⟨ha, hg, hr, hf, hm, hc, hl⟩ := h
  have ha : a = [ρ 0, ρ 1, ρ 2, ρ 3, ρ 4, ρ 5, ρ 6, ρ 7, ρ 8, ρ 9, ρ 10, ρ 11, ρ 12, ρ 13, ρ 14] := ha
  subst ha
  subst hg
  have hJ : jn75 [ρ 0, ρ 1, ρ 2, ρ 3, ρ 4, ρ 5, ρ 6, ρ 7, ρ 8, ρ 9, ρ 10, ρ 11, ρ 12, ρ 13, ρ 14] (γ 0) 0 [ρ 0, ρ 1, ρ 2, ρ 3, ρ 4, ρ 5, ρ 6, ρ 7, ρ 8, ρ 9, ρ 10, ρ 11, ρ 12, ρ 13, ρ 14, ρ 15, ρ 16, ρ 17, ρ 18, ρ 19] (γ 1) := hJ
  obtain ⟨-, -, -, r3, -, -, -, -, -, -, -, -, -, -, -, -, -, r17, -, -, r20, -, r22, r23, -, r25, r26, -⟩ := hr
  have r3 : (3 : Int) ≤ ρ 3 ∧ ρ 3 ≤ 4 := r3
  have r17 : (0 : Int) ≤ ρ 17 ∧ ρ 17 ≤ 0 := r17
  have r20 : (1 : Int) ≤ ρ 20 ∧ ρ 20 ≤ 1 := r20
  have r22 : (3 : Int) ≤ ρ 22 ∧ ρ 22 ≤ 3 := r22
  have r23 : (0 : Int) ≤ ρ 23 ∧ ρ 23 ≤ 2 := r23
  have r25 : (3 : Int) ≤ ρ 25 ∧ ρ 25 ≤ 3 := r25
  have r26 : (3 : Int) ≤ ρ 26 ∧ ρ 26 ≤ 3 := r26
  obtain ⟨-, -, -, f3, -⟩ := hf
  have f3 : (0 : Int) ≤ ρ 18 + -ρ 15 + (-1) := f3
  obtain ⟨w_0, w_1, w_2, w_3, w_4, w_5, w_6, w_7, w_8, w_9, w_10⟩ : (¬ (ρ 15 ≥ ρ 18)) ∧ (¬ (ρ 17 ≠ 0)) ∧ (¬ (ρ 3 ≤ 2)) ∧ (ρ 20 ≠ 0) ∧ (¬ (0 ≥ ρ 22)) ∧ (ρ 23 ≠ 3) ∧ (¬ (1 ≥ ρ 22)) ∧ (¬ (ρ 25 ≠ 3)) ∧ (¬ (2 ≥ ρ 22)) ∧ (¬ (ρ 26 ≠ 3)) ∧ (3 ≥ ρ 22) := ⟨by omega, by omega, by omega, by omega, by omega, by omega, by omega, by omega, by omega, by omega, by omega⟩
  obtain ⟨-, -, m2, -, -, -, m6, -, -, -, -, -, -, -, -, m15, m16, -, -, m19, m20, m21, m22, m23, m24, m25, m26, -⟩ := hm
  have m2 : γ 0 71 0 (ρ 0) = ρ 3 := m2
  have m6 : γ 0 69 0 (ρ 0) = ρ 7 := m6
  have m15 : γ 1 15 0 77 = ρ 17 := m15
  have m16 : γ 1 15 0 90 = ρ 18 := m16
  have m19 : γ 1 109 0 (ρ 15) = ρ 20 := m19
  have m20 : γ 1 108 0 (ρ 15) = ρ 21 := m20
  have m21 : γ 0 66 0 (ρ 7) = ρ 22 := m21
  have m22 : γ 0 70 0 (4 * ρ 0) = ρ 23 := m22
  have m23 : γ 1 105 0 (4 * ρ 15) = ρ 24 := m23
  have m24 : γ 0 70 0 (4 * ρ 0 + 1) = ρ 25 := m24
  have m25 : γ 0 70 0 (4 * ρ 0 + 2) = ρ 26 := m25
  have m26 : γ 1 105 0 (4 * ρ 15 + 3) = ρ 27 := m26
  obtain ⟨⟨⟨⟨⟨-, c2⟩, c3⟩, c4⟩, c5⟩, -⟩ := hc
  have c2 : γ 2 = rUp (γ 1) 102 0 0 (ρ 24) := c2
  have c3 : γ 3 = rUp (γ 2) 102 0 1 (ρ 21) := c3
  have c4 : γ 4 = rUp (γ 3) 102 0 2 (ρ 21) := c4
  have c5 : γ 5 = rUp (γ 4) 102 0 3 (ρ 27) := c5
  obtain ⟨l0, -⟩ := hl
  have l0 : sn57 [ρ 7, ρ 0, ρ 2, ρ 19, ρ 28, ρ 29, ρ 30, ρ 10, ρ 17] (γ 5) 0 0 (γ 6) := hS57 _ _ _ _ _ l0
  show jn75 [ρ 0, ρ 1, ρ 2, ρ 3, ρ 4, ρ 5, ρ 6, ρ 7, ρ 8, ρ 9, ρ 10, ρ 11, ρ 12, ρ 13, ρ 14] (γ 0) 0 [ρ 0, ρ 1, ρ 2, ρ 3, ρ 4, ρ 5, ρ 6, ρ 7, ρ 8, ρ 9, ρ 10, ρ 11, ρ 12, ρ 13, ρ 14, ρ 15 + 1, ρ 16, ρ 35, ρ 18, ρ 31] (γ 6)
  have hD : en75 (γ 0) (0, [ρ 0, ρ 15], γ 1) = .inl (0, [ρ 0, ρ 15 + 1], γ 6) := by
    unfold en75
    refine (if_pos (show (0 : Nat) = 0 by decide)).trans ?_
    refine (zLet_eq (show _ = γ 1 from rfl)).trans ?_
    refine (zLet_eq (show _ = ρ 0 from rfl)).trans ?_
    refine (zLet_eq (show _ = ρ 15 from rfl)).trans ?_
    refine (zLet_eq m2).trans ?_
    refine (zLet_eq m6).trans ?_
    refine (zLet_eq m15).trans ?_
    refine (zLet_eq m16).trans ?_
    refine (if_neg w_0).trans ?_
    refine (if_neg w_1).trans ?_
    refine (if_neg w_2).trans ?_
    refine (zLet_eq m19).trans ?_
    refine (if_pos w_3).trans ?_
    refine (zLet_eq m20).trans ?_
    refine (zLet_eq m21).trans ?_
    refine (if_neg w_4).trans ?_
    refine (zLet_eq m22).trans ?_
    refine (if_pos w_5).trans ?_
    refine (zLet_eq m23).trans ?_
    refine (zLet_eq c2.symm).trans ?_
    refine (if_neg w_6).trans ?_
    refine (zLet_eq m24).trans ?_
    refine (if_neg w_7).trans ?_
    refine (zLet_eq c3.symm).trans ?_
    refine (if_neg w_8).trans ?_
    refine (zLet_eq m25).trans ?_
    refine (if_neg w_9).trans ?_
    refine (zLet_eq c4.symm).trans ?_
    refine (if_pos w_10).trans ?_
    refine (zLet_eq m26).trans ?_
    refine (zLet_eq c5.symm).trans ?_
    refine (zLet_eq (show fn57 [ρ 7, ρ 0] (γ 5) = (0, 0, γ 6) from l0.symm)).trans ?_
    refine (zLet_eq (show _ = γ 6 from rfl)).trans ?_
    rfl
  exact zGoo_ato hJ hD
theorem vn75a0_78 {S : Nat → zSpc} (hS57 : ∀ x g o v gz, S 57 x g o v gz → sn57 x g o v gz) (hS73 : ∀ x g o v gz, S 73 x g o v gz → sn73 x g o v gz) {a : List Int} {g : rHp} : ∀ (ρ : Nat → Int) (γ : Nat → rHp), jn75 a g 0 (zAg (zNA a75_ 0) ρ) (γ 1) → zO 15 S a g q75a0_78 ρ γ → zGl (fun i vs g1 => jn75 a g i vs g1) (sn75 a g) q75a0_78 ρ γ := by
  intro ρ γ hJ h
  obtain ⟨ha, hg, hr, hf, hm, hc, hl⟩ := h
  have ha : a = [ρ 0, ρ 1, ρ 2, ρ 3, ρ 4, ρ 5, ρ 6, ρ 7, ρ 8, ρ 9, ρ 10, ρ 11, ρ 12, ρ 13, ρ 14] := ha
  subst ha
  subst hg
  have hJ : jn75 [ρ 0, ρ 1, ρ 2, ρ 3, ρ 4, ρ 5, ρ 6, ρ 7, ρ 8, ρ 9, ρ 10, ρ 11, ρ 12, ρ 13, ρ 14] (γ 0) 0 [ρ 0, ρ 1, ρ 2, ρ 3, ρ 4, ρ 5, ρ 6, ρ 7, ρ 8, ρ 9, ρ 10, ρ 11, ρ 12, ρ 13, ρ 14, ρ 15, ρ 16, ρ 17, ρ 18, ρ 19] (γ 1) := hJ
  obtain ⟨-, -, -, r3, -, -, -, -, -, -, -, -, -, -, -, -, -, r17, -, -, r20, -, r22, r23, -, r25, r26, r27, -⟩ := hr
  have r3 : (3 : Int) ≤ ρ 3 ∧ ρ 3 ≤ 4 := r3
  have r17 : (0 : Int) ≤ ρ 17 ∧ ρ 17 ≤ 0 := r17
  have r20 : (1 : Int) ≤ ρ 20 ∧ ρ 20 ≤ 1 := r20
  have r22 : (4 : Int) ≤ ρ 22 ∧ ρ 22 ≤ 4 := r22
  have r23 : (0 : Int) ≤ ρ 23 ∧ ρ 23 ≤ 2 := r23
  have r25 : (3 : Int) ≤ ρ 25 ∧ ρ 25 ≤ 3 := r25
  have r26 : (3 : Int) ≤ ρ 26 ∧ ρ 26 ≤ 3 := r26
  have r27 : (0 : Int) ≤ ρ 27 ∧ ρ 27 ≤ 2 := r27
  obtain ⟨-, -, -, f3, -⟩ := hf
  have f3 : (0 : Int) ≤ ρ 18 + -ρ 15 + (-1) := f3
  obtain ⟨w_0, w_1, w_2, w_3, w_4, w_5, w_6, w_7, w_8, w_9, w_10, w_11⟩ : (¬ (ρ 15 ≥ ρ 18)) ∧ (¬ (ρ 17 ≠ 0)) ∧ (¬ (ρ 3 ≤ 2)) ∧ (ρ 20 ≠ 0) ∧ (¬ (0 ≥ ρ 22)) ∧ (ρ 23 ≠ 3) ∧ (¬ (1 ≥ ρ 22)) ∧ (¬ (ρ 25 ≠ 3)) ∧ (¬ (2 ≥ ρ 22)) ∧ (¬ (ρ 26 ≠ 3)) ∧ (¬ (3 ≥ ρ 22)) ∧ (ρ 27 ≠ 3) := ⟨by omega, by omega, by omega, by omega, by omega, by omega, by omega, by omega, by omega, by omega, by omega, by omega⟩
  obtain ⟨-, -, m2, -, -, -, m6, -, -, -, -, -, -, -, -, m15, m16, -, -, m19, m20, m21, m22, m23, m24, m25, m26, m27, -⟩ := hm
  have m2 : γ 0 71 0 (ρ 0) = ρ 3 := m2
  have m6 : γ 0 69 0 (ρ 0) = ρ 7 := m6
  have m15 : γ 1 15 0 77 = ρ 17 := m15
  have m16 : γ 1 15 0 90 = ρ 18 := m16
  have m19 : γ 1 109 0 (ρ 15) = ρ 20 := m19
  have m20 : γ 1 108 0 (ρ 15) = ρ 21 := m20
  have m21 : γ 0 66 0 (ρ 7) = ρ 22 := m21
  have m22 : γ 0 70 0 (4 * ρ 0) = ρ 23 := m22
  have m23 : γ 1 105 0 (4 * ρ 15) = ρ 24 := m23
  have m24 : γ 0 70 0 (4 * ρ 0 + 1) = ρ 25 := m24
  have m25 : γ 0 70 0 (4 * ρ 0 + 2) = ρ 26 := m25
  have m26 : γ 0 70 0 (4 * ρ 0 + 3) = ρ 27 := m26
  have m27 : γ 1 105 0 (4 * ρ 15 + 3) = ρ 28 := m27
  obtain ⟨⟨⟨⟨⟨-, c2⟩, c3⟩, c4⟩, c5⟩, -⟩ := hc
  have c2 : γ 2 = rUp (γ 1) 102 0 0 (ρ 24) := c2
  have c3 : γ 3 = rUp (γ 2) 102 0 1 (ρ 21) := c3
  have c4 : γ 4 = rUp (γ 3) 102 0 2 (ρ 21) := c4
  have c5 : γ 5 = rUp (γ 4) 102 0 3 (ρ 28) := c5
  obtain ⟨l0, -⟩ := hl
  have l0 : sn57 [ρ 7, ρ 0, ρ 2, ρ 19, ρ 29, ρ 30, ρ 31, ρ 10, ρ 17] (γ 5) 0 0 (γ 6) := hS57 _ _ _ _ _ l0
  show jn75 [ρ 0, ρ 1, ρ 2, ρ 3, ρ 4, ρ 5, ρ 6, ρ 7, ρ 8, ρ 9, ρ 10, ρ 11, ρ 12, ρ 13, ρ 14] (γ 0) 0 [ρ 0, ρ 1, ρ 2, ρ 3, ρ 4, ρ 5, ρ 6, ρ 7, ρ 8, ρ 9, ρ 10, ρ 11, ρ 12, ρ 13, ρ 14, ρ 15 + 1, ρ 16, ρ 36, ρ 18, ρ 32] (γ 6)
  have hD : en75 (γ 0) (0, [ρ 0, ρ 15], γ 1) = .inl (0, [ρ 0, ρ 15 + 1], γ 6) := by
    unfold en75
    refine (if_pos (show (0 : Nat) = 0 by decide)).trans ?_
    refine (zLet_eq (show _ = γ 1 from rfl)).trans ?_
    refine (zLet_eq (show _ = ρ 0 from rfl)).trans ?_
    refine (zLet_eq (show _ = ρ 15 from rfl)).trans ?_
    refine (zLet_eq m2).trans ?_
    refine (zLet_eq m6).trans ?_
    refine (zLet_eq m15).trans ?_
    refine (zLet_eq m16).trans ?_
    refine (if_neg w_0).trans ?_
    refine (if_neg w_1).trans ?_
    refine (if_neg w_2).trans ?_
    refine (zLet_eq m19).trans ?_
    refine (if_pos w_3).trans ?_
    refine (zLet_eq m20).trans ?_
    refine (zLet_eq m21).trans ?_
    refine (if_neg w_4).trans ?_
    refine (zLet_eq m22).trans ?_
    refine (if_pos w_5).trans ?_
    refine (zLet_eq m23).trans ?_
    refine (zLet_eq c2.symm).trans ?_
    refine (if_neg w_6).trans ?_
    refine (zLet_eq m24).trans ?_
    refine (if_neg w_7).trans ?_
    refine (zLet_eq c3.symm).trans ?_
    refine (if_neg w_8).trans ?_
    refine (zLet_eq m25).trans ?_
    refine (if_neg w_9).trans ?_
    refine (zLet_eq c4.symm).trans ?_
    refine (if_neg w_10).trans ?_
    refine (zLet_eq m26).trans ?_
    refine (if_pos w_11).trans ?_
    refine (zLet_eq m27).trans ?_
    refine (zLet_eq c5.symm).trans ?_
    refine (zLet_eq (show fn57 [ρ 7, ρ 0] (γ 5) = (0, 0, γ 6) from l0.symm)).trans ?_
    refine (zLet_eq (show _ = γ 6 from rfl)).trans ?_
    rfl
  exact zGoo_ato hJ hD
theorem vn75a0_79 {S : Nat → zSpc} (hS57 : ∀ x g o v gz, S 57 x g o v gz → sn57 x g o v gz) (hS73 : ∀ x g o v gz, S 73 x g o v gz → sn73 x g o v gz) {a : List Int} {g : rHp} : ∀ (ρ : Nat → Int) (γ : Nat → rHp), jn75 a g 0 (zAg (zNA a75_ 0) ρ) (γ 1) → zO 15 S a g q75a0_79 ρ γ → zGl (fun i vs g1 => jn75 a g i vs g1) (sn75 a g) q75a0_79 ρ γ := by
  intro ρ γ hJ h
  obtain ⟨ha, hg, hr, hf, hm, hc, hl⟩ := h
  have ha : a = [ρ 0, ρ 1, ρ 2, ρ 3, ρ 4, ρ 5, ρ 6, ρ 7, ρ 8, ρ 9, ρ 10, ρ 11, ρ 12, ρ 13, ρ 14] := ha
  subst ha
  subst hg
  have hJ : jn75 [ρ 0, ρ 1, ρ 2, ρ 3, ρ 4, ρ 5, ρ 6, ρ 7, ρ 8, ρ 9, ρ 10, ρ 11, ρ 12, ρ 13, ρ 14] (γ 0) 0 [ρ 0, ρ 1, ρ 2, ρ 3, ρ 4, ρ 5, ρ 6, ρ 7, ρ 8, ρ 9, ρ 10, ρ 11, ρ 12, ρ 13, ρ 14, ρ 15, ρ 16, ρ 17, ρ 18, ρ 19] (γ 1) := hJ
  obtain ⟨-, -, -, r3, -, -, -, -, -, -, -, -, -, -, -, -, -, r17, -, -, r20, -, r22, r23, -, r25, r26, r27, -⟩ := hr
  have r3 : (3 : Int) ≤ ρ 3 ∧ ρ 3 ≤ 4 := r3
  have r17 : (0 : Int) ≤ ρ 17 ∧ ρ 17 ≤ 0 := r17
  have r20 : (1 : Int) ≤ ρ 20 ∧ ρ 20 ≤ 1 := r20
  have r22 : (4 : Int) ≤ ρ 22 ∧ ρ 22 ≤ 4 := r22
  have r23 : (0 : Int) ≤ ρ 23 ∧ ρ 23 ≤ 2 := r23
  have r25 : (3 : Int) ≤ ρ 25 ∧ ρ 25 ≤ 3 := r25
  have r26 : (3 : Int) ≤ ρ 26 ∧ ρ 26 ≤ 3 := r26
  have r27 : (3 : Int) ≤ ρ 27 ∧ ρ 27 ≤ 3 := r27
  obtain ⟨-, -, -, f3, -⟩ := hf
  have f3 : (0 : Int) ≤ ρ 18 + -ρ 15 + (-1) := f3
  obtain ⟨w_0, w_1, w_2, w_3, w_4, w_5, w_6, w_7, w_8, w_9, w_10, w_11⟩ : (¬ (ρ 15 ≥ ρ 18)) ∧ (¬ (ρ 17 ≠ 0)) ∧ (¬ (ρ 3 ≤ 2)) ∧ (ρ 20 ≠ 0) ∧ (¬ (0 ≥ ρ 22)) ∧ (ρ 23 ≠ 3) ∧ (¬ (1 ≥ ρ 22)) ∧ (¬ (ρ 25 ≠ 3)) ∧ (¬ (2 ≥ ρ 22)) ∧ (¬ (ρ 26 ≠ 3)) ∧ (¬ (3 ≥ ρ 22)) ∧ (¬ (ρ 27 ≠ 3)) := ⟨by omega, by omega, by omega, by omega, by omega, by omega, by omega, by omega, by omega, by omega, by omega, by omega⟩
  obtain ⟨-, -, m2, -, -, -, m6, -, -, -, -, -, -, -, -, m15, m16, -, -, m19, m20, m21, m22, m23, m24, m25, m26, -⟩ := hm
  have m2 : γ 0 71 0 (ρ 0) = ρ 3 := m2
  have m6 : γ 0 69 0 (ρ 0) = ρ 7 := m6
  have m15 : γ 1 15 0 77 = ρ 17 := m15
  have m16 : γ 1 15 0 90 = ρ 18 := m16
  have m19 : γ 1 109 0 (ρ 15) = ρ 20 := m19
  have m20 : γ 1 108 0 (ρ 15) = ρ 21 := m20
  have m21 : γ 0 66 0 (ρ 7) = ρ 22 := m21
  have m22 : γ 0 70 0 (4 * ρ 0) = ρ 23 := m22
  have m23 : γ 1 105 0 (4 * ρ 15) = ρ 24 := m23
  have m24 : γ 0 70 0 (4 * ρ 0 + 1) = ρ 25 := m24
  have m25 : γ 0 70 0 (4 * ρ 0 + 2) = ρ 26 := m25
  have m26 : γ 0 70 0 (4 * ρ 0 + 3) = ρ 27 := m26
  obtain ⟨⟨⟨⟨⟨-, c2⟩, c3⟩, c4⟩, c5⟩, -⟩ := hc
  have c2 : γ 2 = rUp (γ 1) 102 0 0 (ρ 24) := c2
  have c3 : γ 3 = rUp (γ 2) 102 0 1 (ρ 21) := c3
  have c4 : γ 4 = rUp (γ 3) 102 0 2 (ρ 21) := c4
  have c5 : γ 5 = rUp (γ 4) 102 0 3 (ρ 21) := c5
  obtain ⟨l0, -⟩ := hl
  have l0 : sn57 [ρ 7, ρ 0, ρ 2, ρ 19, ρ 28, ρ 29, ρ 30, ρ 10, ρ 17] (γ 5) 0 0 (γ 6) := hS57 _ _ _ _ _ l0
  show jn75 [ρ 0, ρ 1, ρ 2, ρ 3, ρ 4, ρ 5, ρ 6, ρ 7, ρ 8, ρ 9, ρ 10, ρ 11, ρ 12, ρ 13, ρ 14] (γ 0) 0 [ρ 0, ρ 1, ρ 2, ρ 3, ρ 4, ρ 5, ρ 6, ρ 7, ρ 8, ρ 9, ρ 10, ρ 11, ρ 12, ρ 13, ρ 14, ρ 15 + 1, ρ 16, ρ 35, ρ 18, ρ 31] (γ 6)
  have hD : en75 (γ 0) (0, [ρ 0, ρ 15], γ 1) = .inl (0, [ρ 0, ρ 15 + 1], γ 6) := by
    unfold en75
    refine (if_pos (show (0 : Nat) = 0 by decide)).trans ?_
    refine (zLet_eq (show _ = γ 1 from rfl)).trans ?_
    refine (zLet_eq (show _ = ρ 0 from rfl)).trans ?_
    refine (zLet_eq (show _ = ρ 15 from rfl)).trans ?_
    refine (zLet_eq m2).trans ?_
    refine (zLet_eq m6).trans ?_
    refine (zLet_eq m15).trans ?_
    refine (zLet_eq m16).trans ?_
    refine (if_neg w_0).trans ?_
    refine (if_neg w_1).trans ?_
    refine (if_neg w_2).trans ?_
    refine (zLet_eq m19).trans ?_
    refine (if_pos w_3).trans ?_
    refine (zLet_eq m20).trans ?_
    refine (zLet_eq m21).trans ?_
    refine (if_neg w_4).trans ?_
    refine (zLet_eq m22).trans ?_
    refine (if_pos w_5).trans ?_
    refine (zLet_eq m23).trans ?_
    refine (zLet_eq c2.symm).trans ?_
    refine (if_neg w_6).trans ?_
    refine (zLet_eq m24).trans ?_
    refine (if_neg w_7).trans ?_
    refine (zLet_eq c3.symm).trans ?_
    refine (if_neg w_8).trans ?_
    refine (zLet_eq m25).trans ?_
    refine (if_neg w_9).trans ?_
    refine (zLet_eq c4.symm).trans ?_
    refine (if_neg w_10).trans ?_
    refine (zLet_eq m26).trans ?_
    refine (if_neg w_11).trans ?_
    refine (zLet_eq c5.symm).trans ?_
    refine (zLet_eq (show fn57 [ρ 7, ρ 0] (γ 5) = (0, 0, γ 6) from l0.symm)).trans ?_
    refine (zLet_eq (show _ = γ 6 from rfl)).trans ?_
    rfl
  exact zGoo_ato hJ hD
theorem vn75a0_80 {S : Nat → zSpc} (hS57 : ∀ x g o v gz, S 57 x g o v gz → sn57 x g o v gz) (hS73 : ∀ x g o v gz, S 73 x g o v gz → sn73 x g o v gz) {a : List Int} {g : rHp} : ∀ (ρ : Nat → Int) (γ : Nat → rHp), jn75 a g 0 (zAg (zNA a75_ 0) ρ) (γ 1) → zO 15 S a g q75a0_80 ρ γ → zGl (fun i vs g1 => jn75 a g i vs g1) (sn75 a g) q75a0_80 ρ γ := by
  intro ρ γ hJ h
  obtain ⟨ha, hg, hr, hf, hm, hc, hl⟩ := h
  have ha : a = [ρ 0, ρ 1, ρ 2, ρ 3, ρ 4, ρ 5, ρ 6, ρ 7, ρ 8, ρ 9, ρ 10, ρ 11, ρ 12, ρ 13, ρ 14] := ha
  subst ha
  subst hg
  have hJ : jn75 [ρ 0, ρ 1, ρ 2, ρ 3, ρ 4, ρ 5, ρ 6, ρ 7, ρ 8, ρ 9, ρ 10, ρ 11, ρ 12, ρ 13, ρ 14] (γ 0) 0 [ρ 0, ρ 1, ρ 2, ρ 3, ρ 4, ρ 5, ρ 6, ρ 7, ρ 8, ρ 9, ρ 10, ρ 11, ρ 12, ρ 13, ρ 14, ρ 15, ρ 16, ρ 17, ρ 18, ρ 19] (γ 1) := hJ
  obtain ⟨-, -, -, r3, -, -, -, -, -, -, -, -, -, -, -, -, -, r17, -, -, r20, -, r22, r23, -⟩ := hr
  have r3 : (3 : Int) ≤ ρ 3 ∧ ρ 3 ≤ 4 := r3
  have r17 : (0 : Int) ≤ ρ 17 ∧ ρ 17 ≤ 0 := r17
  have r20 : (1 : Int) ≤ ρ 20 ∧ ρ 20 ≤ 1 := r20
  have r22 : (1 : Int) ≤ ρ 22 ∧ ρ 22 ≤ 1 := r22
  have r23 : (3 : Int) ≤ ρ 23 ∧ ρ 23 ≤ 3 := r23
  obtain ⟨-, -, -, f3, -⟩ := hf
  have f3 : (0 : Int) ≤ ρ 18 + -ρ 15 + (-1) := f3
  obtain ⟨w_0, w_1, w_2, w_3, w_4, w_5, w_6⟩ : (¬ (ρ 15 ≥ ρ 18)) ∧ (¬ (ρ 17 ≠ 0)) ∧ (¬ (ρ 3 ≤ 2)) ∧ (ρ 20 ≠ 0) ∧ (¬ (0 ≥ ρ 22)) ∧ (¬ (ρ 23 ≠ 3)) ∧ (1 ≥ ρ 22) := ⟨by omega, by omega, by omega, by omega, by omega, by omega, by omega⟩
  obtain ⟨-, -, m2, -, -, -, m6, -, -, -, -, -, -, -, -, m15, m16, -, -, m19, m20, m21, m22, m23, m24, m25, -⟩ := hm
  have m2 : γ 0 71 0 (ρ 0) = ρ 3 := m2
  have m6 : γ 0 69 0 (ρ 0) = ρ 7 := m6
  have m15 : γ 1 15 0 77 = ρ 17 := m15
  have m16 : γ 1 15 0 90 = ρ 18 := m16
  have m19 : γ 1 109 0 (ρ 15) = ρ 20 := m19
  have m20 : γ 1 108 0 (ρ 15) = ρ 21 := m20
  have m21 : γ 0 66 0 (ρ 7) = ρ 22 := m21
  have m22 : γ 0 70 0 (4 * ρ 0) = ρ 23 := m22
  have m23 : γ 1 105 0 (4 * ρ 15 + 1) = ρ 24 := m23
  have m24 : γ 1 105 0 (4 * ρ 15 + 2) = ρ 25 := m24
  have m25 : γ 1 105 0 (4 * ρ 15 + 3) = ρ 26 := m25
  obtain ⟨⟨⟨⟨⟨-, c2⟩, c3⟩, c4⟩, c5⟩, -⟩ := hc
  have c2 : γ 2 = rUp (γ 1) 102 0 0 (ρ 21) := c2
  have c3 : γ 3 = rUp (γ 2) 102 0 1 (ρ 24) := c3
  have c4 : γ 4 = rUp (γ 3) 102 0 2 (ρ 25) := c4
  have c5 : γ 5 = rUp (γ 4) 102 0 3 (ρ 26) := c5
  obtain ⟨l0, -⟩ := hl
  have l0 : sn57 [ρ 7, ρ 0, ρ 2, ρ 19, ρ 27, ρ 28, ρ 29, ρ 10, ρ 17] (γ 5) 0 0 (γ 6) := hS57 _ _ _ _ _ l0
  show jn75 [ρ 0, ρ 1, ρ 2, ρ 3, ρ 4, ρ 5, ρ 6, ρ 7, ρ 8, ρ 9, ρ 10, ρ 11, ρ 12, ρ 13, ρ 14] (γ 0) 0 [ρ 0, ρ 1, ρ 2, ρ 3, ρ 4, ρ 5, ρ 6, ρ 7, ρ 8, ρ 9, ρ 10, ρ 11, ρ 12, ρ 13, ρ 14, ρ 15 + 1, ρ 16, ρ 34, ρ 18, ρ 30] (γ 6)
  have hD : en75 (γ 0) (0, [ρ 0, ρ 15], γ 1) = .inl (0, [ρ 0, ρ 15 + 1], γ 6) := by
    unfold en75
    refine (if_pos (show (0 : Nat) = 0 by decide)).trans ?_
    refine (zLet_eq (show _ = γ 1 from rfl)).trans ?_
    refine (zLet_eq (show _ = ρ 0 from rfl)).trans ?_
    refine (zLet_eq (show _ = ρ 15 from rfl)).trans ?_
    refine (zLet_eq m2).trans ?_
    refine (zLet_eq m6).trans ?_
    refine (zLet_eq m15).trans ?_
    refine (zLet_eq m16).trans ?_
    refine (if_neg w_0).trans ?_
    refine (if_neg w_1).trans ?_
    refine (if_neg w_2).trans ?_
    refine (zLet_eq m19).trans ?_
    refine (if_pos w_3).trans ?_
    refine (zLet_eq m20).trans ?_
    refine (zLet_eq m21).trans ?_
    refine (if_neg w_4).trans ?_
    refine (zLet_eq m22).trans ?_
    refine (if_neg w_5).trans ?_
    refine (zLet_eq c2.symm).trans ?_
    refine (if_pos w_6).trans ?_
    refine (zLet_eq m23).trans ?_
    refine (zLet_eq c3.symm).trans ?_
    refine (zLet_eq m24).trans ?_
    refine (zLet_eq c4.symm).trans ?_
    refine (zLet_eq m25).trans ?_
    refine (zLet_eq c5.symm).trans ?_
    refine (zLet_eq (show fn57 [ρ 7, ρ 0] (γ 5) = (0, 0, γ 6) from l0.symm)).trans ?_
    refine (zLet_eq (show _ = γ 6 from rfl)).trans ?_
    rfl
  exact zGoo_ato hJ hD
theorem vn75a0_81 {S : Nat → zSpc} (hS57 : ∀ x g o v gz, S 57 x g o v gz → sn57 x g o v gz) (hS73 : ∀ x g o v gz, S 73 x g o v gz → sn73 x g o v gz) {a : List Int} {g : rHp} : ∀ (ρ : Nat → Int) (γ : Nat → rHp), jn75 a g 0 (zAg (zNA a75_ 0) ρ) (γ 1) → zO 15 S a g q75a0_81 ρ γ → zGl (fun i vs g1 => jn75 a g i vs g1) (sn75 a g) q75a0_81 ρ γ := by
  intro ρ γ hJ h
  obtain ⟨ha, hg, hr, hf, hm, hc, hl⟩ := h
  have ha : a = [ρ 0, ρ 1, ρ 2, ρ 3, ρ 4, ρ 5, ρ 6, ρ 7, ρ 8, ρ 9, ρ 10, ρ 11, ρ 12, ρ 13, ρ 14] := ha
  subst ha
  subst hg
  have hJ : jn75 [ρ 0, ρ 1, ρ 2, ρ 3, ρ 4, ρ 5, ρ 6, ρ 7, ρ 8, ρ 9, ρ 10, ρ 11, ρ 12, ρ 13, ρ 14] (γ 0) 0 [ρ 0, ρ 1, ρ 2, ρ 3, ρ 4, ρ 5, ρ 6, ρ 7, ρ 8, ρ 9, ρ 10, ρ 11, ρ 12, ρ 13, ρ 14, ρ 15, ρ 16, ρ 17, ρ 18, ρ 19] (γ 1) := hJ
  obtain ⟨-, -, -, r3, -, -, -, -, -, -, -, -, -, -, -, -, -, r17, -, -, r20, -, r22, r23, r24, -⟩ := hr
  have r3 : (3 : Int) ≤ ρ 3 ∧ ρ 3 ≤ 4 := r3
  have r17 : (0 : Int) ≤ ρ 17 ∧ ρ 17 ≤ 0 := r17
  have r20 : (1 : Int) ≤ ρ 20 ∧ ρ 20 ≤ 1 := r20
  have r22 : (2 : Int) ≤ ρ 22 ∧ ρ 22 ≤ 2 := r22
  have r23 : (3 : Int) ≤ ρ 23 ∧ ρ 23 ≤ 3 := r23
  have r24 : (0 : Int) ≤ ρ 24 ∧ ρ 24 ≤ 2 := r24
  obtain ⟨-, -, -, f3, -⟩ := hf
  have f3 : (0 : Int) ≤ ρ 18 + -ρ 15 + (-1) := f3
  obtain ⟨w_0, w_1, w_2, w_3, w_4, w_5, w_6, w_7, w_8⟩ : (¬ (ρ 15 ≥ ρ 18)) ∧ (¬ (ρ 17 ≠ 0)) ∧ (¬ (ρ 3 ≤ 2)) ∧ (ρ 20 ≠ 0) ∧ (¬ (0 ≥ ρ 22)) ∧ (¬ (ρ 23 ≠ 3)) ∧ (¬ (1 ≥ ρ 22)) ∧ (ρ 24 ≠ 3) ∧ (2 ≥ ρ 22) := ⟨by omega, by omega, by omega, by omega, by omega, by omega, by omega, by omega, by omega⟩
  obtain ⟨-, -, m2, -, -, -, m6, -, -, -, -, -, -, -, -, m15, m16, -, -, m19, m20, m21, m22, m23, m24, m25, m26, -⟩ := hm
  have m2 : γ 0 71 0 (ρ 0) = ρ 3 := m2
  have m6 : γ 0 69 0 (ρ 0) = ρ 7 := m6
  have m15 : γ 1 15 0 77 = ρ 17 := m15
  have m16 : γ 1 15 0 90 = ρ 18 := m16
  have m19 : γ 1 109 0 (ρ 15) = ρ 20 := m19
  have m20 : γ 1 108 0 (ρ 15) = ρ 21 := m20
  have m21 : γ 0 66 0 (ρ 7) = ρ 22 := m21
  have m22 : γ 0 70 0 (4 * ρ 0) = ρ 23 := m22
  have m23 : γ 0 70 0 (4 * ρ 0 + 1) = ρ 24 := m23
  have m24 : γ 1 105 0 (4 * ρ 15 + 1) = ρ 25 := m24
  have m25 : γ 1 105 0 (4 * ρ 15 + 2) = ρ 26 := m25
  have m26 : γ 1 105 0 (4 * ρ 15 + 3) = ρ 27 := m26
  obtain ⟨⟨⟨⟨⟨-, c2⟩, c3⟩, c4⟩, c5⟩, -⟩ := hc
  have c2 : γ 2 = rUp (γ 1) 102 0 0 (ρ 21) := c2
  have c3 : γ 3 = rUp (γ 2) 102 0 1 (ρ 25) := c3
  have c4 : γ 4 = rUp (γ 3) 102 0 2 (ρ 26) := c4
  have c5 : γ 5 = rUp (γ 4) 102 0 3 (ρ 27) := c5
  obtain ⟨l0, -⟩ := hl
  have l0 : sn57 [ρ 7, ρ 0, ρ 2, ρ 19, ρ 28, ρ 29, ρ 30, ρ 10, ρ 17] (γ 5) 0 0 (γ 6) := hS57 _ _ _ _ _ l0
  show jn75 [ρ 0, ρ 1, ρ 2, ρ 3, ρ 4, ρ 5, ρ 6, ρ 7, ρ 8, ρ 9, ρ 10, ρ 11, ρ 12, ρ 13, ρ 14] (γ 0) 0 [ρ 0, ρ 1, ρ 2, ρ 3, ρ 4, ρ 5, ρ 6, ρ 7, ρ 8, ρ 9, ρ 10, ρ 11, ρ 12, ρ 13, ρ 14, ρ 15 + 1, ρ 16, ρ 35, ρ 18, ρ 31] (γ 6)
  have hD : en75 (γ 0) (0, [ρ 0, ρ 15], γ 1) = .inl (0, [ρ 0, ρ 15 + 1], γ 6) := by
    unfold en75
    refine (if_pos (show (0 : Nat) = 0 by decide)).trans ?_
    refine (zLet_eq (show _ = γ 1 from rfl)).trans ?_
    refine (zLet_eq (show _ = ρ 0 from rfl)).trans ?_
    refine (zLet_eq (show _ = ρ 15 from rfl)).trans ?_
    refine (zLet_eq m2).trans ?_
    refine (zLet_eq m6).trans ?_
    refine (zLet_eq m15).trans ?_
    refine (zLet_eq m16).trans ?_
    refine (if_neg w_0).trans ?_
    refine (if_neg w_1).trans ?_
    refine (if_neg w_2).trans ?_
    refine (zLet_eq m19).trans ?_
    refine (if_pos w_3).trans ?_
    refine (zLet_eq m20).trans ?_
    refine (zLet_eq m21).trans ?_
    refine (if_neg w_4).trans ?_
    refine (zLet_eq m22).trans ?_
    refine (if_neg w_5).trans ?_
    refine (zLet_eq c2.symm).trans ?_
    refine (if_neg w_6).trans ?_
    refine (zLet_eq m23).trans ?_
    refine (if_pos w_7).trans ?_
    refine (zLet_eq m24).trans ?_
    refine (zLet_eq c3.symm).trans ?_
    refine (if_pos w_8).trans ?_
    refine (zLet_eq m25).trans ?_
    refine (zLet_eq c4.symm).trans ?_
    refine (zLet_eq m26).trans ?_
    refine (zLet_eq c5.symm).trans ?_
    refine (zLet_eq (show fn57 [ρ 7, ρ 0] (γ 5) = (0, 0, γ 6) from l0.symm)).trans ?_
    refine (zLet_eq (show _ = γ 6 from rfl)).trans ?_
    rfl
  exact zGoo_ato hJ hD
theorem vn75a0_82 {S : Nat → zSpc} (hS57 : ∀ x g o v gz, S 57 x g o v gz → sn57 x g o v gz) (hS73 : ∀ x g o v gz, S 73 x g o v gz → sn73 x g o v gz) {a : List Int} {g : rHp} : ∀ (ρ : Nat → Int) (γ : Nat → rHp), jn75 a g 0 (zAg (zNA a75_ 0) ρ) (γ 1) → zO 15 S a g q75a0_82 ρ γ → zGl (fun i vs g1 => jn75 a g i vs g1) (sn75 a g) q75a0_82 ρ γ := by
  intro ρ γ hJ h
  obtain ⟨ha, hg, hr, hf, hm, hc, hl⟩ := h
  have ha : a = [ρ 0, ρ 1, ρ 2, ρ 3, ρ 4, ρ 5, ρ 6, ρ 7, ρ 8, ρ 9, ρ 10, ρ 11, ρ 12, ρ 13, ρ 14] := ha
  subst ha
  subst hg
  have hJ : jn75 [ρ 0, ρ 1, ρ 2, ρ 3, ρ 4, ρ 5, ρ 6, ρ 7, ρ 8, ρ 9, ρ 10, ρ 11, ρ 12, ρ 13, ρ 14] (γ 0) 0 [ρ 0, ρ 1, ρ 2, ρ 3, ρ 4, ρ 5, ρ 6, ρ 7, ρ 8, ρ 9, ρ 10, ρ 11, ρ 12, ρ 13, ρ 14, ρ 15, ρ 16, ρ 17, ρ 18, ρ 19] (γ 1) := hJ
  obtain ⟨-, -, -, r3, -, -, -, -, -, -, -, -, -, -, -, -, -, r17, -, -, r20, -, r22, r23, r24, -, r26, -⟩ := hr
  have r3 : (3 : Int) ≤ ρ 3 ∧ ρ 3 ≤ 4 := r3
  have r17 : (0 : Int) ≤ ρ 17 ∧ ρ 17 ≤ 0 := r17
  have r20 : (1 : Int) ≤ ρ 20 ∧ ρ 20 ≤ 1 := r20
  have r22 : (3 : Int) ≤ ρ 22 ∧ ρ 22 ≤ 3 := r22
  have r23 : (3 : Int) ≤ ρ 23 ∧ ρ 23 ≤ 3 := r23
  have r24 : (0 : Int) ≤ ρ 24 ∧ ρ 24 ≤ 2 := r24
  have r26 : (0 : Int) ≤ ρ 26 ∧ ρ 26 ≤ 2 := r26
  obtain ⟨-, -, -, f3, -⟩ := hf
  have f3 : (0 : Int) ≤ ρ 18 + -ρ 15 + (-1) := f3
  obtain ⟨w_0, w_1, w_2, w_3, w_4, w_5, w_6, w_7, w_8, w_9, w_10⟩ : (¬ (ρ 15 ≥ ρ 18)) ∧ (¬ (ρ 17 ≠ 0)) ∧ (¬ (ρ 3 ≤ 2)) ∧ (ρ 20 ≠ 0) ∧ (¬ (0 ≥ ρ 22)) ∧ (¬ (ρ 23 ≠ 3)) ∧ (¬ (1 ≥ ρ 22)) ∧ (ρ 24 ≠ 3) ∧ (¬ (2 ≥ ρ 22)) ∧ (ρ 26 ≠ 3) ∧ (3 ≥ ρ 22) := ⟨by omega, by omega, by omega, by omega, by omega, by omega, by omega, by omega, by omega, by omega, by omega⟩
  obtain ⟨-, -, m2, -, -, -, m6, -, -, -, -, -, -, -, -, m15, m16, -, -, m19, m20, m21, m22, m23, m24, m25, m26, m27, -⟩ := hm
  have m2 : γ 0 71 0 (ρ 0) = ρ 3 := m2
  have m6 : γ 0 69 0 (ρ 0) = ρ 7 := m6
  have m15 : γ 1 15 0 77 = ρ 17 := m15
  have m16 : γ 1 15 0 90 = ρ 18 := m16
  have m19 : γ 1 109 0 (ρ 15) = ρ 20 := m19
  have m20 : γ 1 108 0 (ρ 15) = ρ 21 := m20
  have m21 : γ 0 66 0 (ρ 7) = ρ 22 := m21
  have m22 : γ 0 70 0 (4 * ρ 0) = ρ 23 := m22
  have m23 : γ 0 70 0 (4 * ρ 0 + 1) = ρ 24 := m23
  have m24 : γ 1 105 0 (4 * ρ 15 + 1) = ρ 25 := m24
  have m25 : γ 0 70 0 (4 * ρ 0 + 2) = ρ 26 := m25
  have m26 : γ 1 105 0 (4 * ρ 15 + 2) = ρ 27 := m26
  have m27 : γ 1 105 0 (4 * ρ 15 + 3) = ρ 28 := m27
  obtain ⟨⟨⟨⟨⟨-, c2⟩, c3⟩, c4⟩, c5⟩, -⟩ := hc
  have c2 : γ 2 = rUp (γ 1) 102 0 0 (ρ 21) := c2
  have c3 : γ 3 = rUp (γ 2) 102 0 1 (ρ 25) := c3
  have c4 : γ 4 = rUp (γ 3) 102 0 2 (ρ 27) := c4
  have c5 : γ 5 = rUp (γ 4) 102 0 3 (ρ 28) := c5
  obtain ⟨l0, -⟩ := hl
  have l0 : sn57 [ρ 7, ρ 0, ρ 2, ρ 19, ρ 29, ρ 30, ρ 31, ρ 10, ρ 17] (γ 5) 0 0 (γ 6) := hS57 _ _ _ _ _ l0
  show jn75 [ρ 0, ρ 1, ρ 2, ρ 3, ρ 4, ρ 5, ρ 6, ρ 7, ρ 8, ρ 9, ρ 10, ρ 11, ρ 12, ρ 13, ρ 14] (γ 0) 0 [ρ 0, ρ 1, ρ 2, ρ 3, ρ 4, ρ 5, ρ 6, ρ 7, ρ 8, ρ 9, ρ 10, ρ 11, ρ 12, ρ 13, ρ 14, ρ 15 + 1, ρ 16, ρ 36, ρ 18, ρ 32] (γ 6)
  have hD : en75 (γ 0) (0, [ρ 0, ρ 15], γ 1) = .inl (0, [ρ 0, ρ 15 + 1], γ 6) := by
    unfold en75
    refine (if_pos (show (0 : Nat) = 0 by decide)).trans ?_
    refine (zLet_eq (show _ = γ 1 from rfl)).trans ?_
    refine (zLet_eq (show _ = ρ 0 from rfl)).trans ?_
    refine (zLet_eq (show _ = ρ 15 from rfl)).trans ?_
    refine (zLet_eq m2).trans ?_
    refine (zLet_eq m6).trans ?_
    refine (zLet_eq m15).trans ?_
    refine (zLet_eq m16).trans ?_
    refine (if_neg w_0).trans ?_
    refine (if_neg w_1).trans ?_
    refine (if_neg w_2).trans ?_
    refine (zLet_eq m19).trans ?_
    refine (if_pos w_3).trans ?_
    refine (zLet_eq m20).trans ?_
    refine (zLet_eq m21).trans ?_
    refine (if_neg w_4).trans ?_
    refine (zLet_eq m22).trans ?_
    refine (if_neg w_5).trans ?_
    refine (zLet_eq c2.symm).trans ?_
    refine (if_neg w_6).trans ?_
    refine (zLet_eq m23).trans ?_
    refine (if_pos w_7).trans ?_
    refine (zLet_eq m24).trans ?_
    refine (zLet_eq c3.symm).trans ?_
    refine (if_neg w_8).trans ?_
    refine (zLet_eq m25).trans ?_
    refine (if_pos w_9).trans ?_
    refine (zLet_eq m26).trans ?_
    refine (zLet_eq c4.symm).trans ?_
    refine (if_pos w_10).trans ?_
    refine (zLet_eq m27).trans ?_
    refine (zLet_eq c5.symm).trans ?_
    refine (zLet_eq (show fn57 [ρ 7, ρ 0] (γ 5) = (0, 0, γ 6) from l0.symm)).trans ?_
    refine (zLet_eq (show _ = γ 6 from rfl)).trans ?_
    rfl
  exact zGoo_ato hJ hD
theorem vn75a0_83 {S : Nat → zSpc} (hS57 : ∀ x g o v gz, S 57 x g o v gz → sn57 x g o v gz) (hS73 : ∀ x g o v gz, S 73 x g o v gz → sn73 x g o v gz) {a : List Int} {g : rHp} : ∀ (ρ : Nat → Int) (γ : Nat → rHp), jn75 a g 0 (zAg (zNA a75_ 0) ρ) (γ 1) → zO 15 S a g q75a0_83 ρ γ → zGl (fun i vs g1 => jn75 a g i vs g1) (sn75 a g) q75a0_83 ρ γ := by
  intro ρ γ hJ h
  obtain ⟨ha, hg, hr, hf, hm, hc, hl⟩ := h
  have ha : a = [ρ 0, ρ 1, ρ 2, ρ 3, ρ 4, ρ 5, ρ 6, ρ 7, ρ 8, ρ 9, ρ 10, ρ 11, ρ 12, ρ 13, ρ 14] := ha
  subst ha
  subst hg
  have hJ : jn75 [ρ 0, ρ 1, ρ 2, ρ 3, ρ 4, ρ 5, ρ 6, ρ 7, ρ 8, ρ 9, ρ 10, ρ 11, ρ 12, ρ 13, ρ 14] (γ 0) 0 [ρ 0, ρ 1, ρ 2, ρ 3, ρ 4, ρ 5, ρ 6, ρ 7, ρ 8, ρ 9, ρ 10, ρ 11, ρ 12, ρ 13, ρ 14, ρ 15, ρ 16, ρ 17, ρ 18, ρ 19] (γ 1) := hJ
  obtain ⟨-, -, -, r3, -, -, -, -, -, -, -, -, -, -, -, -, -, r17, -, -, r20, -, r22, r23, r24, -, r26, -, r28, -⟩ := hr
  have r3 : (3 : Int) ≤ ρ 3 ∧ ρ 3 ≤ 4 := r3
  have r17 : (0 : Int) ≤ ρ 17 ∧ ρ 17 ≤ 0 := r17
  have r20 : (1 : Int) ≤ ρ 20 ∧ ρ 20 ≤ 1 := r20
  have r22 : (4 : Int) ≤ ρ 22 ∧ ρ 22 ≤ 4 := r22
  have r23 : (3 : Int) ≤ ρ 23 ∧ ρ 23 ≤ 3 := r23
  have r24 : (0 : Int) ≤ ρ 24 ∧ ρ 24 ≤ 2 := r24
  have r26 : (0 : Int) ≤ ρ 26 ∧ ρ 26 ≤ 2 := r26
  have r28 : (0 : Int) ≤ ρ 28 ∧ ρ 28 ≤ 2 := r28
  obtain ⟨-, -, -, f3, -⟩ := hf
  have f3 : (0 : Int) ≤ ρ 18 + -ρ 15 + (-1) := f3
  obtain ⟨w_0, w_1, w_2, w_3, w_4, w_5, w_6, w_7, w_8, w_9, w_10, w_11⟩ : (¬ (ρ 15 ≥ ρ 18)) ∧ (¬ (ρ 17 ≠ 0)) ∧ (¬ (ρ 3 ≤ 2)) ∧ (ρ 20 ≠ 0) ∧ (¬ (0 ≥ ρ 22)) ∧ (¬ (ρ 23 ≠ 3)) ∧ (¬ (1 ≥ ρ 22)) ∧ (ρ 24 ≠ 3) ∧ (¬ (2 ≥ ρ 22)) ∧ (ρ 26 ≠ 3) ∧ (¬ (3 ≥ ρ 22)) ∧ (ρ 28 ≠ 3) := ⟨by omega, by omega, by omega, by omega, by omega, by omega, by omega, by omega, by omega, by omega, by omega, by omega⟩
  obtain ⟨-, -, m2, -, -, -, m6, -, -, -, -, -, -, -, -, m15, m16, -, -, m19, m20, m21, m22, m23, m24, m25, m26, m27, m28, -⟩ := hm
  have m2 : γ 0 71 0 (ρ 0) = ρ 3 := m2
  have m6 : γ 0 69 0 (ρ 0) = ρ 7 := m6
  have m15 : γ 1 15 0 77 = ρ 17 := m15
  have m16 : γ 1 15 0 90 = ρ 18 := m16
  have m19 : γ 1 109 0 (ρ 15) = ρ 20 := m19
  have m20 : γ 1 108 0 (ρ 15) = ρ 21 := m20
  have m21 : γ 0 66 0 (ρ 7) = ρ 22 := m21
  have m22 : γ 0 70 0 (4 * ρ 0) = ρ 23 := m22
  have m23 : γ 0 70 0 (4 * ρ 0 + 1) = ρ 24 := m23
  have m24 : γ 1 105 0 (4 * ρ 15 + 1) = ρ 25 := m24
  have m25 : γ 0 70 0 (4 * ρ 0 + 2) = ρ 26 := m25
  have m26 : γ 1 105 0 (4 * ρ 15 + 2) = ρ 27 := m26
  have m27 : γ 0 70 0 (4 * ρ 0 + 3) = ρ 28 := m27
  have m28 : γ 1 105 0 (4 * ρ 15 + 3) = ρ 29 := m28
  obtain ⟨⟨⟨⟨⟨-, c2⟩, c3⟩, c4⟩, c5⟩, -⟩ := hc
  have c2 : γ 2 = rUp (γ 1) 102 0 0 (ρ 21) := c2
  have c3 : γ 3 = rUp (γ 2) 102 0 1 (ρ 25) := c3
  have c4 : γ 4 = rUp (γ 3) 102 0 2 (ρ 27) := c4
  have c5 : γ 5 = rUp (γ 4) 102 0 3 (ρ 29) := c5
  obtain ⟨l0, -⟩ := hl
  have l0 : sn57 [ρ 7, ρ 0, ρ 2, ρ 19, ρ 30, ρ 31, ρ 32, ρ 10, ρ 17] (γ 5) 0 0 (γ 6) := hS57 _ _ _ _ _ l0
  show jn75 [ρ 0, ρ 1, ρ 2, ρ 3, ρ 4, ρ 5, ρ 6, ρ 7, ρ 8, ρ 9, ρ 10, ρ 11, ρ 12, ρ 13, ρ 14] (γ 0) 0 [ρ 0, ρ 1, ρ 2, ρ 3, ρ 4, ρ 5, ρ 6, ρ 7, ρ 8, ρ 9, ρ 10, ρ 11, ρ 12, ρ 13, ρ 14, ρ 15 + 1, ρ 16, ρ 37, ρ 18, ρ 33] (γ 6)
  have hD : en75 (γ 0) (0, [ρ 0, ρ 15], γ 1) = .inl (0, [ρ 0, ρ 15 + 1], γ 6) := by
    unfold en75
    refine (if_pos (show (0 : Nat) = 0 by decide)).trans ?_
    refine (zLet_eq (show _ = γ 1 from rfl)).trans ?_
    refine (zLet_eq (show _ = ρ 0 from rfl)).trans ?_
    refine (zLet_eq (show _ = ρ 15 from rfl)).trans ?_
    refine (zLet_eq m2).trans ?_
    refine (zLet_eq m6).trans ?_
    refine (zLet_eq m15).trans ?_
    refine (zLet_eq m16).trans ?_
    refine (if_neg w_0).trans ?_
    refine (if_neg w_1).trans ?_
    refine (if_neg w_2).trans ?_
    refine (zLet_eq m19).trans ?_
    refine (if_pos w_3).trans ?_
    refine (zLet_eq m20).trans ?_
    refine (zLet_eq m21).trans ?_
    refine (if_neg w_4).trans ?_
    refine (zLet_eq m22).trans ?_
    refine (if_neg w_5).trans ?_
    refine (zLet_eq c2.symm).trans ?_
    refine (if_neg w_6).trans ?_
    refine (zLet_eq m23).trans ?_
    refine (if_pos w_7).trans ?_
    refine (zLet_eq m24).trans ?_
    refine (zLet_eq c3.symm).trans ?_
    refine (if_neg w_8).trans ?_
    refine (zLet_eq m25).trans ?_
    refine (if_pos w_9).trans ?_
    refine (zLet_eq m26).trans ?_
    refine (zLet_eq c4.symm).trans ?_
    refine (if_neg w_10).trans ?_
    refine (zLet_eq m27).trans ?_
    refine (if_pos w_11).trans ?_
    refine (zLet_eq m28).trans ?_
    refine (zLet_eq c5.symm).trans ?_
    refine (zLet_eq (show fn57 [ρ 7, ρ 0] (γ 5) = (0, 0, γ 6) from l0.symm)).trans ?_
    refine (zLet_eq (show _ = γ 6 from rfl)).trans ?_
    rfl
  exact zGoo_ato hJ hD
theorem vn75a0_84 {S : Nat → zSpc} (hS57 : ∀ x g o v gz, S 57 x g o v gz → sn57 x g o v gz) (hS73 : ∀ x g o v gz, S 73 x g o v gz → sn73 x g o v gz) {a : List Int} {g : rHp} : ∀ (ρ : Nat → Int) (γ : Nat → rHp), jn75 a g 0 (zAg (zNA a75_ 0) ρ) (γ 1) → zO 15 S a g q75a0_84 ρ γ → zGl (fun i vs g1 => jn75 a g i vs g1) (sn75 a g) q75a0_84 ρ γ := by
  intro ρ γ hJ h
  obtain ⟨ha, hg, hr, hf, hm, hc, hl⟩ := h
  have ha : a = [ρ 0, ρ 1, ρ 2, ρ 3, ρ 4, ρ 5, ρ 6, ρ 7, ρ 8, ρ 9, ρ 10, ρ 11, ρ 12, ρ 13, ρ 14] := ha
  subst ha
  subst hg
  have hJ : jn75 [ρ 0, ρ 1, ρ 2, ρ 3, ρ 4, ρ 5, ρ 6, ρ 7, ρ 8, ρ 9, ρ 10, ρ 11, ρ 12, ρ 13, ρ 14] (γ 0) 0 [ρ 0, ρ 1, ρ 2, ρ 3, ρ 4, ρ 5, ρ 6, ρ 7, ρ 8, ρ 9, ρ 10, ρ 11, ρ 12, ρ 13, ρ 14, ρ 15, ρ 16, ρ 17, ρ 18, ρ 19] (γ 1) := hJ
  obtain ⟨-, -, -, r3, -, -, -, -, -, -, -, -, -, -, -, -, -, r17, -, -, r20, -, r22, r23, r24, -, r26, -, r28, -⟩ := hr
  have r3 : (3 : Int) ≤ ρ 3 ∧ ρ 3 ≤ 4 := r3
  have r17 : (0 : Int) ≤ ρ 17 ∧ ρ 17 ≤ 0 := r17
  have r20 : (1 : Int) ≤ ρ 20 ∧ ρ 20 ≤ 1 := r20
  have r22 : (4 : Int) ≤ ρ 22 ∧ ρ 22 ≤ 4 := r22
  have r23 : (3 : Int) ≤ ρ 23 ∧ ρ 23 ≤ 3 := r23
  have r24 : (0 : Int) ≤ ρ 24 ∧ ρ 24 ≤ 2 := r24
  have r26 : (0 : Int) ≤ ρ 26 ∧ ρ 26 ≤ 2 := r26
  have r28 : (3 : Int) ≤ ρ 28 ∧ ρ 28 ≤ 3 := r28
  obtain ⟨-, -, -, f3, -⟩ := hf
  have f3 : (0 : Int) ≤ ρ 18 + -ρ 15 + (-1) := f3
  obtain ⟨w_0, w_1, w_2, w_3, w_4, w_5, w_6, w_7, w_8, w_9, w_10, w_11⟩ : (¬ (ρ 15 ≥ ρ 18)) ∧ (¬ (ρ 17 ≠ 0)) ∧ (¬ (ρ 3 ≤ 2)) ∧ (ρ 20 ≠ 0) ∧ (¬ (0 ≥ ρ 22)) ∧ (¬ (ρ 23 ≠ 3)) ∧ (¬ (1 ≥ ρ 22)) ∧ (ρ 24 ≠ 3) ∧ (¬ (2 ≥ ρ 22)) ∧ (ρ 26 ≠ 3) ∧ (¬ (3 ≥ ρ 22)) ∧ (¬ (ρ 28 ≠ 3)) := ⟨by omega, by omega, by omega, by omega, by omega, by omega, by omega, by omega, by omega, by omega, by omega, by omega⟩
  obtain ⟨-, -, m2, -, -, -, m6, -, -, -, -, -, -, -, -, m15, m16, -, -, m19, m20, m21, m22, m23, m24, m25, m26, m27, -⟩ := hm
  have m2 : γ 0 71 0 (ρ 0) = ρ 3 := m2
  have m6 : γ 0 69 0 (ρ 0) = ρ 7 := m6
  have m15 : γ 1 15 0 77 = ρ 17 := m15
  have m16 : γ 1 15 0 90 = ρ 18 := m16
  have m19 : γ 1 109 0 (ρ 15) = ρ 20 := m19
  have m20 : γ 1 108 0 (ρ 15) = ρ 21 := m20
  have m21 : γ 0 66 0 (ρ 7) = ρ 22 := m21
  have m22 : γ 0 70 0 (4 * ρ 0) = ρ 23 := m22
  have m23 : γ 0 70 0 (4 * ρ 0 + 1) = ρ 24 := m23
  have m24 : γ 1 105 0 (4 * ρ 15 + 1) = ρ 25 := m24
  have m25 : γ 0 70 0 (4 * ρ 0 + 2) = ρ 26 := m25
  have m26 : γ 1 105 0 (4 * ρ 15 + 2) = ρ 27 := m26
  have m27 : γ 0 70 0 (4 * ρ 0 + 3) = ρ 28 := m27
  obtain ⟨⟨⟨⟨⟨-, c2⟩, c3⟩, c4⟩, c5⟩, -⟩ := hc
  have c2 : γ 2 = rUp (γ 1) 102 0 0 (ρ 21) := c2
  have c3 : γ 3 = rUp (γ 2) 102 0 1 (ρ 25) := c3
  have c4 : γ 4 = rUp (γ 3) 102 0 2 (ρ 27) := c4
  have c5 : γ 5 = rUp (γ 4) 102 0 3 (ρ 21) := c5
  obtain ⟨l0, -⟩ := hl
  have l0 : sn57 [ρ 7, ρ 0, ρ 2, ρ 19, ρ 29, ρ 30, ρ 31, ρ 10, ρ 17] (γ 5) 0 0 (γ 6) := hS57 _ _ _ _ _ l0
  show jn75 [ρ 0, ρ 1, ρ 2, ρ 3, ρ 4, ρ 5, ρ 6, ρ 7, ρ 8, ρ 9, ρ 10, ρ 11, ρ 12, ρ 13, ρ 14] (γ 0) 0 [ρ 0, ρ 1, ρ 2, ρ 3, ρ 4, ρ 5, ρ 6, ρ 7, ρ 8, ρ 9, ρ 10, ρ 11, ρ 12, ρ 13, ρ 14, ρ 15 + 1, ρ 16, ρ 36, ρ 18, ρ 32] (γ 6)
  have hD : en75 (γ 0) (0, [ρ 0, ρ 15], γ 1) = .inl (0, [ρ 0, ρ 15 + 1], γ 6) := by
    unfold en75
    refine (if_pos (show (0 : Nat) = 0 by decide)).trans ?_
    refine (zLet_eq (show _ = γ 1 from rfl)).trans ?_
    refine (zLet_eq (show _ = ρ 0 from rfl)).trans ?_
    refine (zLet_eq (show _ = ρ 15 from rfl)).trans ?_
    refine (zLet_eq m2).trans ?_
    refine (zLet_eq m6).trans ?_
    refine (zLet_eq m15).trans ?_
    refine (zLet_eq m16).trans ?_
    refine (if_neg w_0).trans ?_
    refine (if_neg w_1).trans ?_
    refine (if_neg w_2).trans ?_
    refine (zLet_eq m19).trans ?_
    refine (if_pos w_3).trans ?_
    refine (zLet_eq m20).trans ?_
    refine (zLet_eq m21).trans ?_
    refine (if_neg w_4).trans ?_
    refine (zLet_eq m22).trans ?_
    refine (if_neg w_5).trans ?_
    refine (zLet_eq c2.symm).trans ?_
    refine (if_neg w_6).trans ?_
    refine (zLet_eq m23).trans ?_
    refine (if_pos w_7).trans ?_
    refine (zLet_eq m24).trans ?_
    refine (zLet_eq c3.symm).trans ?_
    refine (if_neg w_8).trans ?_
    refine (zLet_eq m25).trans ?_
    refine (if_pos w_9).trans ?_
    refine (zLet_eq m26).trans ?_
    refine (zLet_eq c4.symm).trans ?_
    refine (if_neg w_10).trans ?_
    refine (zLet_eq m27).trans ?_
    refine (if_neg w_11).trans ?_
    refine (zLet_eq c5.symm).trans ?_
    refine (zLet_eq (show fn57 [ρ 7, ρ 0] (γ 5) = (0, 0, γ 6) from l0.symm)).trans ?_
    refine (zLet_eq (show _ = γ 6 from rfl)).trans ?_
    rfl
  exact zGoo_ato hJ hD
theorem vn75a0_85 {S : Nat → zSpc} (hS57 : ∀ x g o v gz, S 57 x g o v gz → sn57 x g o v gz) (hS73 : ∀ x g o v gz, S 73 x g o v gz → sn73 x g o v gz) {a : List Int} {g : rHp} : ∀ (ρ : Nat → Int) (γ : Nat → rHp), jn75 a g 0 (zAg (zNA a75_ 0) ρ) (γ 1) → zO 15 S a g q75a0_85 ρ γ → zGl (fun i vs g1 => jn75 a g i vs g1) (sn75 a g) q75a0_85 ρ γ := by
  intro ρ γ hJ h
  obtain ⟨ha, hg, hr, hf, hm, hc, hl⟩ := h
  have ha : a = [ρ 0, ρ 1, ρ 2, ρ 3, ρ 4, ρ 5, ρ 6, ρ 7, ρ 8, ρ 9, ρ 10, ρ 11, ρ 12, ρ 13, ρ 14] := ha
  subst ha
  subst hg
  have hJ : jn75 [ρ 0, ρ 1, ρ 2, ρ 3, ρ 4, ρ 5, ρ 6, ρ 7, ρ 8, ρ 9, ρ 10, ρ 11, ρ 12, ρ 13, ρ 14] (γ 0) 0 [ρ 0, ρ 1, ρ 2, ρ 3, ρ 4, ρ 5, ρ 6, ρ 7, ρ 8, ρ 9, ρ 10, ρ 11, ρ 12, ρ 13, ρ 14, ρ 15, ρ 16, ρ 17, ρ 18, ρ 19] (γ 1) := hJ
  obtain ⟨-, -, -, r3, -, -, -, -, -, -, -, -, -, -, -, -, -, r17, -, -, r20, -, r22, r23, r24, -, r26, -⟩ := hr
  have r3 : (3 : Int) ≤ ρ 3 ∧ ρ 3 ≤ 4 := r3
  have r17 : (0 : Int) ≤ ρ 17 ∧ ρ 17 ≤ 0 := r17
  have r20 : (1 : Int) ≤ ρ 20 ∧ ρ 20 ≤ 1 := r20
  have r22 : (3 : Int) ≤ ρ 22 ∧ ρ 22 ≤ 3 := r22
  have r23 : (3 : Int) ≤ ρ 23 ∧ ρ 23 ≤ 3 := r23
  have r24 : (0 : Int) ≤ ρ 24 ∧ ρ 24 ≤ 2 := r24
  have r26 : (3 : Int) ≤ ρ 26 ∧ ρ 26 ≤ 3 := r26
  obtain ⟨-, -, -, f3, -⟩ := hf
  have f3 : (0 : Int) ≤ ρ 18 + -ρ 15 + (-1) := f3
  obtain ⟨w_0, w_1, w_2, w_3, w_4, w_5, w_6, w_7, w_8, w_9, w_10⟩ : (¬ (ρ 15 ≥ ρ 18)) ∧ (¬ (ρ 17 ≠ 0)) ∧ (¬ (ρ 3 ≤ 2)) ∧ (ρ 20 ≠ 0) ∧ (¬ (0 ≥ ρ 22)) ∧ (¬ (ρ 23 ≠ 3)) ∧ (¬ (1 ≥ ρ 22)) ∧ (ρ 24 ≠ 3) ∧ (¬ (2 ≥ ρ 22)) ∧ (¬ (ρ 26 ≠ 3)) ∧ (3 ≥ ρ 22) := ⟨by omega, by omega, by omega, by omega, by omega, by omega, by omega, by omega, by omega, by omega, by omega⟩
  obtain ⟨-, -, m2, -, -, -, m6, -, -, -, -, -, -, -, -, m15, m16, -, -, m19, m20, m21, m22, m23, m24, m25, m26, -⟩ := hm
  have m2 : γ 0 71 0 (ρ 0) = ρ 3 := m2
  have m6 : γ 0 69 0 (ρ 0) = ρ 7 := m6
  have m15 : γ 1 15 0 77 = ρ 17 := m15
  have m16 : γ 1 15 0 90 = ρ 18 := m16
  have m19 : γ 1 109 0 (ρ 15) = ρ 20 := m19
  have m20 : γ 1 108 0 (ρ 15) = ρ 21 := m20
  have m21 : γ 0 66 0 (ρ 7) = ρ 22 := m21
  have m22 : γ 0 70 0 (4 * ρ 0) = ρ 23 := m22
  have m23 : γ 0 70 0 (4 * ρ 0 + 1) = ρ 24 := m23
  have m24 : γ 1 105 0 (4 * ρ 15 + 1) = ρ 25 := m24
  have m25 : γ 0 70 0 (4 * ρ 0 + 2) = ρ 26 := m25
  have m26 : γ 1 105 0 (4 * ρ 15 + 3) = ρ 27 := m26
  obtain ⟨⟨⟨⟨⟨-, c2⟩, c3⟩, c4⟩, c5⟩, -⟩ := hc
  have c2 : γ 2 = rUp (γ 1) 102 0 0 (ρ 21) := c2
  have c3 : γ 3 = rUp (γ 2) 102 0 1 (ρ 25) := c3
  have c4 : γ 4 = rUp (γ 3) 102 0 2 (ρ 21) := c4
  have c5 : γ 5 = rUp (γ 4) 102 0 3 (ρ 27) := c5
  obtain ⟨l0, -⟩ := hl
  have l0 : sn57 [ρ 7, ρ 0, ρ 2, ρ 19, ρ 28, ρ 29, ρ 30, ρ 10, ρ 17] (γ 5) 0 0 (γ 6) := hS57 _ _ _ _ _ l0
  show jn75 [ρ 0, ρ 1, ρ 2, ρ 3, ρ 4, ρ 5, ρ 6, ρ 7, ρ 8, ρ 9, ρ 10, ρ 11, ρ 12, ρ 13, ρ 14] (γ 0) 0 [ρ 0, ρ 1, ρ 2, ρ 3, ρ 4, ρ 5, ρ 6, ρ 7, ρ 8, ρ 9, ρ 10, ρ 11, ρ 12, ρ 13, ρ 14, ρ 15 + 1, ρ 16, ρ 35, ρ 18, ρ 31] (γ 6)
  have hD : en75 (γ 0) (0, [ρ 0, ρ 15], γ 1) = .inl (0, [ρ 0, ρ 15 + 1], γ 6) := by
    unfold en75
    refine (if_pos (show (0 : Nat) = 0 by decide)).trans ?_
    refine (zLet_eq (show _ = γ 1 from rfl)).trans ?_
    refine (zLet_eq (show _ = ρ 0 from rfl)).trans ?_
    refine (zLet_eq (show _ = ρ 15 from rfl)).trans ?_
    refine (zLet_eq m2).trans ?_
    refine (zLet_eq m6).trans ?_
    refine (zLet_eq m15).trans ?_
    refine (zLet_eq m16).trans ?_
    refine (if_neg w_0).trans ?_
    refine (if_neg w_1).trans ?_
    refine (if_neg w_2).trans ?_
    refine (zLet_eq m19).trans ?_
    refine (if_pos w_3).trans ?_
    refine (zLet_eq m20).trans ?_
    refine (zLet_eq m21).trans ?_
    refine (if_neg w_4).trans ?_
    refine (zLet_eq m22).trans ?_
    refine (if_neg w_5).trans ?_
    refine (zLet_eq c2.symm).trans ?_
    refine (if_neg w_6).trans ?_
    refine (zLet_eq m23).trans ?_
    refine (if_pos w_7).trans ?_
    refine (zLet_eq m24).trans ?_
    refine (zLet_eq c3.symm).trans ?_
    refine (if_neg w_8).trans ?_
    refine (zLet_eq m25).trans ?_
    refine (if_neg w_9).trans ?_
    refine (zLet_eq c4.symm).trans ?_
    refine (if_pos w_10).trans ?_
    refine (zLet_eq m26).trans ?_
    refine (zLet_eq c5.symm).trans ?_
    refine (zLet_eq (show fn57 [ρ 7, ρ 0] (γ 5) = (0, 0, γ 6) from l0.symm)).trans ?_
    refine (zLet_eq (show _ = γ 6 from rfl)).trans ?_
    rfl
  exact zGoo_ato hJ hD
theorem vn75a0_86 {S : Nat → zSpc} (hS57 : ∀ x g o v gz, S 57 x g o v gz → sn57 x g o v gz) (hS73 : ∀ x g o v gz, S 73 x g o v gz → sn73 x g o v gz) {a : List Int} {g : rHp} : ∀ (ρ : Nat → Int) (γ : Nat → rHp), jn75 a g 0 (zAg (zNA a75_ 0) ρ) (γ 1) → zO 15 S a g q75a0_86 ρ γ → zGl (fun i vs g1 => jn75 a g i vs g1) (sn75 a g) q75a0_86 ρ γ := by
  intro ρ γ hJ h
  obtain ⟨ha, hg, hr, hf, hm, hc, hl⟩ := h
  have ha : a = [ρ 0, ρ 1, ρ 2, ρ 3, ρ 4, ρ 5, ρ 6, ρ 7, ρ 8, ρ 9, ρ 10, ρ 11, ρ 12, ρ 13, ρ 14] := ha
  subst ha
  subst hg
  have hJ : jn75 [ρ 0, ρ 1, ρ 2, ρ 3, ρ 4, ρ 5, ρ 6, ρ 7, ρ 8, ρ 9, ρ 10, ρ 11, ρ 12, ρ 13, ρ 14] (γ 0) 0 [ρ 0, ρ 1, ρ 2, ρ 3, ρ 4, ρ 5, ρ 6, ρ 7, ρ 8, ρ 9, ρ 10, ρ 11, ρ 12, ρ 13, ρ 14, ρ 15, ρ 16, ρ 17, ρ 18, ρ 19] (γ 1) := hJ
  obtain ⟨-, -, -, r3, -, -, -, -, -, -, -, -, -, -, -, -, -, r17, -, -, r20, -, r22, r23, r24, -, r26, r27, -⟩ := hr
  have r3 : (3 : Int) ≤ ρ 3 ∧ ρ 3 ≤ 4 := r3
  have r17 : (0 : Int) ≤ ρ 17 ∧ ρ 17 ≤ 0 := r17
  have r20 : (1 : Int) ≤ ρ 20 ∧ ρ 20 ≤ 1 := r20
  have r22 : (4 : Int) ≤ ρ 22 ∧ ρ 22 ≤ 4 := r22
  have r23 : (3 : Int) ≤ ρ 23 ∧ ρ 23 ≤ 3 := r23
  have r24 : (0 : Int) ≤ ρ 24 ∧ ρ 24 ≤ 2 := r24
  have r26 : (3 : Int) ≤ ρ 26 ∧ ρ 26 ≤ 3 := r26
  have r27 : (0 : Int) ≤ ρ 27 ∧ ρ 27 ≤ 2 := r27
  obtain ⟨-, -, -, f3, -⟩ := hf
  have f3 : (0 : Int) ≤ ρ 18 + -ρ 15 + (-1) := f3
  obtain ⟨w_0, w_1, w_2, w_3, w_4, w_5, w_6, w_7, w_8, w_9, w_10, w_11⟩ : (¬ (ρ 15 ≥ ρ 18)) ∧ (¬ (ρ 17 ≠ 0)) ∧ (¬ (ρ 3 ≤ 2)) ∧ (ρ 20 ≠ 0) ∧ (¬ (0 ≥ ρ 22)) ∧ (¬ (ρ 23 ≠ 3)) ∧ (¬ (1 ≥ ρ 22)) ∧ (ρ 24 ≠ 3) ∧ (¬ (2 ≥ ρ 22)) ∧ (¬ (ρ 26 ≠ 3)) ∧ (¬ (3 ≥ ρ 22)) ∧ (ρ 27 ≠ 3) := ⟨by omega, by omega, by omega, by omega, by omega, by omega, by omega, by omega, by omega, by omega, by omega, by omega⟩
  obtain ⟨-, -, m2, -, -, -, m6, -, -, -, -, -, -, -, -, m15, m16, -, -, m19, m20, m21, m22, m23, m24, m25, m26, m27, -⟩ := hm
  have m2 : γ 0 71 0 (ρ 0) = ρ 3 := m2
  have m6 : γ 0 69 0 (ρ 0) = ρ 7 := m6
  have m15 : γ 1 15 0 77 = ρ 17 := m15
  have m16 : γ 1 15 0 90 = ρ 18 := m16
  have m19 : γ 1 109 0 (ρ 15) = ρ 20 := m19
  have m20 : γ 1 108 0 (ρ 15) = ρ 21 := m20
  have m21 : γ 0 66 0 (ρ 7) = ρ 22 := m21
  have m22 : γ 0 70 0 (4 * ρ 0) = ρ 23 := m22
  have m23 : γ 0 70 0 (4 * ρ 0 + 1) = ρ 24 := m23
  have m24 : γ 1 105 0 (4 * ρ 15 + 1) = ρ 25 := m24
  have m25 : γ 0 70 0 (4 * ρ 0 + 2) = ρ 26 := m25
  have m26 : γ 0 70 0 (4 * ρ 0 + 3) = ρ 27 := m26
  have m27 : γ 1 105 0 (4 * ρ 15 + 3) = ρ 28 := m27
  obtain ⟨⟨⟨⟨⟨-, c2⟩, c3⟩, c4⟩, c5⟩, -⟩ := hc
  have c2 : γ 2 = rUp (γ 1) 102 0 0 (ρ 21) := c2
  have c3 : γ 3 = rUp (γ 2) 102 0 1 (ρ 25) := c3
  have c4 : γ 4 = rUp (γ 3) 102 0 2 (ρ 21) := c4
  have c5 : γ 5 = rUp (γ 4) 102 0 3 (ρ 28) := c5
  obtain ⟨l0, -⟩ := hl
  have l0 : sn57 [ρ 7, ρ 0, ρ 2, ρ 19, ρ 29, ρ 30, ρ 31, ρ 10, ρ 17] (γ 5) 0 0 (γ 6) := hS57 _ _ _ _ _ l0
  show jn75 [ρ 0, ρ 1, ρ 2, ρ 3, ρ 4, ρ 5, ρ 6, ρ 7, ρ 8, ρ 9, ρ 10, ρ 11, ρ 12, ρ 13, ρ 14] (γ 0) 0 [ρ 0, ρ 1, ρ 2, ρ 3, ρ 4, ρ 5, ρ 6, ρ 7, ρ 8, ρ 9, ρ 10, ρ 11, ρ 12, ρ 13, ρ 14, ρ 15 + 1, ρ 16, ρ 36, ρ 18, ρ 32] (γ 6)
  have hD : en75 (γ 0) (0, [ρ 0, ρ 15], γ 1) = .inl (0, [ρ 0, ρ 15 + 1], γ 6) := by
    unfold en75
    refine (if_pos (show (0 : Nat) = 0 by decide)).trans ?_
    refine (zLet_eq (show _ = γ 1 from rfl)).trans ?_
    refine (zLet_eq (show _ = ρ 0 from rfl)).trans ?_
    refine (zLet_eq (show _ = ρ 15 from rfl)).trans ?_
    refine (zLet_eq m2).trans ?_
    refine (zLet_eq m6).trans ?_
    refine (zLet_eq m15).trans ?_
    refine (zLet_eq m16).trans ?_
    refine (if_neg w_0).trans ?_
    refine (if_neg w_1).trans ?_
    refine (if_neg w_2).trans ?_
    refine (zLet_eq m19).trans ?_
    refine (if_pos w_3).trans ?_
    refine (zLet_eq m20).trans ?_
    refine (zLet_eq m21).trans ?_
    refine (if_neg w_4).trans ?_
    refine (zLet_eq m22).trans ?_
    refine (if_neg w_5).trans ?_
    refine (zLet_eq c2.symm).trans ?_
    refine (if_neg w_6).trans ?_
    refine (zLet_eq m23).trans ?_
    refine (if_pos w_7).trans ?_
    refine (zLet_eq m24).trans ?_
    refine (zLet_eq c3.symm).trans ?_
    refine (if_neg w_8).trans ?_
    refine (zLet_eq m25).trans ?_
    refine (if_neg w_9).trans ?_
    refine (zLet_eq c4.symm).trans ?_
    refine (if_neg w_10).trans ?_
    refine (zLet_eq m26).trans ?_
    refine (if_pos w_11).trans ?_
    refine (zLet_eq m27).trans ?_
    refine (zLet_eq c5.symm).trans ?_
    refine (zLet_eq (show fn57 [ρ 7, ρ 0] (γ 5) = (0, 0, γ 6) from l0.symm)).trans ?_
    refine (zLet_eq (show _ = γ 6 from rfl)).trans ?_
    rfl
  exact zGoo_ato hJ hD
theorem vn75a0_87 {S : Nat → zSpc} (hS57 : ∀ x g o v gz, S 57 x g o v gz → sn57 x g o v gz) (hS73 : ∀ x g o v gz, S 73 x g o v gz → sn73 x g o v gz) {a : List Int} {g : rHp} : ∀ (ρ : Nat → Int) (γ : Nat → rHp), jn75 a g 0 (zAg (zNA a75_ 0) ρ) (γ 1) → zO 15 S a g q75a0_87 ρ γ → zGl (fun i vs g1 => jn75 a g i vs g1) (sn75 a g) q75a0_87 ρ γ := by
  intro ρ γ hJ h
  obtain ⟨ha, hg, hr, hf, hm, hc, hl⟩ := h
  have ha : a = [ρ 0, ρ 1, ρ 2, ρ 3, ρ 4, ρ 5, ρ 6, ρ 7, ρ 8, ρ 9, ρ 10, ρ 11, ρ 12, ρ 13, ρ 14] := ha
  subst ha
  subst hg
  have hJ : jn75 [ρ 0, ρ 1, ρ 2, ρ 3, ρ 4, ρ 5, ρ 6, ρ 7, ρ 8, ρ 9, ρ 10, ρ 11, ρ 12, ρ 13, ρ 14] (γ 0) 0 [ρ 0, ρ 1, ρ 2, ρ 3, ρ 4, ρ 5, ρ 6, ρ 7, ρ 8, ρ 9, ρ 10, ρ 11, ρ 12, ρ 13, ρ 14, ρ 15, ρ 16, ρ 17, ρ 18, ρ 19] (γ 1) := hJ
  obtain ⟨-, -, -, r3, -, -, -, -, -, -, -, -, -, -, -, -, -, r17, -, -, r20, -, r22, r23, r24, -, r26, r27, -⟩ := hr
  have r3 : (3 : Int) ≤ ρ 3 ∧ ρ 3 ≤ 4 := r3
  have r17 : (0 : Int) ≤ ρ 17 ∧ ρ 17 ≤ 0 := r17
  have r20 : (1 : Int) ≤ ρ 20 ∧ ρ 20 ≤ 1 := r20
  have r22 : (4 : Int) ≤ ρ 22 ∧ ρ 22 ≤ 4 := r22
  have r23 : (3 : Int) ≤ ρ 23 ∧ ρ 23 ≤ 3 := r23
  have r24 : (0 : Int) ≤ ρ 24 ∧ ρ 24 ≤ 2 := r24
  have r26 : (3 : Int) ≤ ρ 26 ∧ ρ 26 ≤ 3 := r26
  have r27 : (3 : Int) ≤ ρ 27 ∧ ρ 27 ≤ 3 := r27
  obtain ⟨-, -, -, f3, -⟩ := hf
  have f3 : (0 : Int) ≤ ρ 18 + -ρ 15 + (-1) := f3
  obtain ⟨w_0, w_1, w_2, w_3, w_4, w_5, w_6, w_7, w_8, w_9, w_10, w_11⟩ : (¬ (ρ 15 ≥ ρ 18)) ∧ (¬ (ρ 17 ≠ 0)) ∧ (¬ (ρ 3 ≤ 2)) ∧ (ρ 20 ≠ 0) ∧ (¬ (0 ≥ ρ 22)) ∧ (¬ (ρ 23 ≠ 3)) ∧ (¬ (1 ≥ ρ 22)) ∧ (ρ 24 ≠ 3) ∧ (¬ (2 ≥ ρ 22)) ∧ (¬ (ρ 26 ≠ 3)) ∧ (¬ (3 ≥ ρ 22)) ∧ (¬ (ρ 27 ≠ 3)) := ⟨by omega, by omega, by omega, by omega, by omega, by omega, by omega, by omega, by omega, by omega, by omega, by omega⟩
  obtain ⟨-, -, m2, -, -, -, m6, -, -, -, -, -, -, -, -, m15, m16, -, -, m19, m20, m21, m22, m23, m24, m25, m26, -⟩ := hm
  have m2 : γ 0 71 0 (ρ 0) = ρ 3 := m2
  have m6 : γ 0 69 0 (ρ 0) = ρ 7 := m6
  have m15 : γ 1 15 0 77 = ρ 17 := m15
  have m16 : γ 1 15 0 90 = ρ 18 := m16
  have m19 : γ 1 109 0 (ρ 15) = ρ 20 := m19
  have m20 : γ 1 108 0 (ρ 15) = ρ 21 := m20
  have m21 : γ 0 66 0 (ρ 7) = ρ 22 := m21
  have m22 : γ 0 70 0 (4 * ρ 0) = ρ 23 := m22
  have m23 : γ 0 70 0 (4 * ρ 0 + 1) = ρ 24 := m23
  have m24 : γ 1 105 0 (4 * ρ 15 + 1) = ρ 25 := m24
  have m25 : γ 0 70 0 (4 * ρ 0 + 2) = ρ 26 := m25
  have m26 : γ 0 70 0 (4 * ρ 0 + 3) = ρ 27 := m26
  obtain ⟨⟨⟨⟨⟨-, c2⟩, c3⟩, c4⟩, c5⟩, -⟩ := hc
  have c2 : γ 2 = rUp (γ 1) 102 0 0 (ρ 21) := c2
  have c3 : γ 3 = rUp (γ 2) 102 0 1 (ρ 25) := c3
  have c4 : γ 4 = rUp (γ 3) 102 0 2 (ρ 21) := c4
  have c5 : γ 5 = rUp (γ 4) 102 0 3 (ρ 21) := c5
  obtain ⟨l0, -⟩ := hl
  have l0 : sn57 [ρ 7, ρ 0, ρ 2, ρ 19, ρ 28, ρ 29, ρ 30, ρ 10, ρ 17] (γ 5) 0 0 (γ 6) := hS57 _ _ _ _ _ l0
  show jn75 [ρ 0, ρ 1, ρ 2, ρ 3, ρ 4, ρ 5, ρ 6, ρ 7, ρ 8, ρ 9, ρ 10, ρ 11, ρ 12, ρ 13, ρ 14] (γ 0) 0 [ρ 0, ρ 1, ρ 2, ρ 3, ρ 4, ρ 5, ρ 6, ρ 7, ρ 8, ρ 9, ρ 10, ρ 11, ρ 12, ρ 13, ρ 14, ρ 15 + 1, ρ 16, ρ 35, ρ 18, ρ 31] (γ 6)
  have hD : en75 (γ 0) (0, [ρ 0, ρ 15], γ 1) = .inl (0, [ρ 0, ρ 15 + 1], γ 6) := by
    unfold en75
    refine (if_pos (show (0 : Nat) = 0 by decide)).trans ?_
    refine (zLet_eq (show _ = γ 1 from rfl)).trans ?_
    refine (zLet_eq (show _ = ρ 0 from rfl)).trans ?_
    refine (zLet_eq (show _ = ρ 15 from rfl)).trans ?_
    refine (zLet_eq m2).trans ?_
    refine (zLet_eq m6).trans ?_
    refine (zLet_eq m15).trans ?_
    refine (zLet_eq m16).trans ?_
    refine (if_neg w_0).trans ?_
    refine (if_neg w_1).trans ?_
    refine (if_neg w_2).trans ?_
    refine (zLet_eq m19).trans ?_
    refine (if_pos w_3).trans ?_
    refine (zLet_eq m20).trans ?_
    refine (zLet_eq m21).trans ?_
    refine (if_neg w_4).trans ?_
    refine (zLet_eq m22).trans ?_
    refine (if_neg w_5).trans ?_
    refine (zLet_eq c2.symm).trans ?_
    refine (if_neg w_6).trans ?_
    refine (zLet_eq m23).trans ?_
    refine (if_pos w_7).trans ?_
    refine (zLet_eq m24).trans ?_
    refine (zLet_eq c3.symm).trans ?_
    refine (if_neg w_8).trans ?_
    refine (zLet_eq m25).trans ?_
    refine (if_neg w_9).trans ?_
    refine (zLet_eq c4.symm).trans ?_
    refine (if_neg w_10).trans ?_
    refine (zLet_eq m26).trans ?_
    refine (if_neg w_11).trans ?_
    refine (zLet_eq c5.symm).trans ?_
    refine (zLet_eq (show fn57 [ρ 7, ρ 0] (γ 5) = (0, 0, γ 6) from l0.symm)).trans ?_
    refine (zLet_eq (show _ = γ 6 from rfl)).trans ?_
    rfl
  exact zGoo_ato hJ hD
theorem vn75a0_88 {S : Nat → zSpc} (hS57 : ∀ x g o v gz, S 57 x g o v gz → sn57 x g o v gz) (hS73 : ∀ x g o v gz, S 73 x g o v gz → sn73 x g o v gz) {a : List Int} {g : rHp} : ∀ (ρ : Nat → Int) (γ : Nat → rHp), jn75 a g 0 (zAg (zNA a75_ 0) ρ) (γ 1) → zO 15 S a g q75a0_88 ρ γ → zGl (fun i vs g1 => jn75 a g i vs g1) (sn75 a g) q75a0_88 ρ γ := by
  intro ρ γ hJ h
  obtain ⟨ha, hg, hr, hf, hm, hc, hl⟩ := h
  have ha : a = [ρ 0, ρ 1, ρ 2, ρ 3, ρ 4, ρ 5, ρ 6, ρ 7, ρ 8, ρ 9, ρ 10, ρ 11, ρ 12, ρ 13, ρ 14] := ha
  subst ha
  subst hg
  have hJ : jn75 [ρ 0, ρ 1, ρ 2, ρ 3, ρ 4, ρ 5, ρ 6, ρ 7, ρ 8, ρ 9, ρ 10, ρ 11, ρ 12, ρ 13, ρ 14] (γ 0) 0 [ρ 0, ρ 1, ρ 2, ρ 3, ρ 4, ρ 5, ρ 6, ρ 7, ρ 8, ρ 9, ρ 10, ρ 11, ρ 12, ρ 13, ρ 14, ρ 15, ρ 16, ρ 17, ρ 18, ρ 19] (γ 1) := hJ
  obtain ⟨-, -, -, r3, -, -, -, -, -, -, -, -, -, -, -, -, -, r17, -, -, r20, -, r22, r23, r24, -⟩ := hr
  have r3 : (3 : Int) ≤ ρ 3 ∧ ρ 3 ≤ 4 := r3
  have r17 : (0 : Int) ≤ ρ 17 ∧ ρ 17 ≤ 0 := r17
  have r20 : (1 : Int) ≤ ρ 20 ∧ ρ 20 ≤ 1 := r20
  have r22 : (2 : Int) ≤ ρ 22 ∧ ρ 22 ≤ 2 := r22
  have r23 : (3 : Int) ≤ ρ 23 ∧ ρ 23 ≤ 3 := r23
  have r24 : (3 : Int) ≤ ρ 24 ∧ ρ 24 ≤ 3 := r24
  obtain ⟨-, -, -, f3, -⟩ := hf
  have f3 : (0 : Int) ≤ ρ 18 + -ρ 15 + (-1) := f3
  obtain ⟨w_0, w_1, w_2, w_3, w_4, w_5, w_6, w_7, w_8⟩ : (¬ (ρ 15 ≥ ρ 18)) ∧ (¬ (ρ 17 ≠ 0)) ∧ (¬ (ρ 3 ≤ 2)) ∧ (ρ 20 ≠ 0) ∧ (¬ (0 ≥ ρ 22)) ∧ (¬ (ρ 23 ≠ 3)) ∧ (¬ (1 ≥ ρ 22)) ∧ (¬ (ρ 24 ≠ 3)) ∧ (2 ≥ ρ 22) := ⟨by omega, by omega, by omega, by omega, by omega, by omega, by omega, by omega, by omega⟩
  obtain ⟨-, -, m2, -, -, -, m6, -, -, -, -, -, -, -, -, m15, m16, -, -, m19, m20, m21, m22, m23, m24, m25, -⟩ := hm
  have m2 : γ 0 71 0 (ρ 0) = ρ 3 := m2
  have m6 : γ 0 69 0 (ρ 0) = ρ 7 := m6
  have m15 : γ 1 15 0 77 = ρ 17 := m15
  have m16 : γ 1 15 0 90 = ρ 18 := m16
  have m19 : γ 1 109 0 (ρ 15) = ρ 20 := m19
  have m20 : γ 1 108 0 (ρ 15) = ρ 21 := m20
  have m21 : γ 0 66 0 (ρ 7) = ρ 22 := m21
  have m22 : γ 0 70 0 (4 * ρ 0) = ρ 23 := m22
  have m23 : γ 0 70 0 (4 * ρ 0 + 1) = ρ 24 := m23
  have m24 : γ 1 105 0 (4 * ρ 15 + 2) = ρ 25 := m24
  have m25 : γ 1 105 0 (4 * ρ 15 + 3) = ρ 26 := m25
  obtain ⟨⟨⟨⟨⟨-, c2⟩, c3⟩, c4⟩, c5⟩, -⟩ := hc
  have c2 : γ 2 = rUp (γ 1) 102 0 0 (ρ 21) := c2
  have c3 : γ 3 = rUp (γ 2) 102 0 1 (ρ 21) := c3
  have c4 : γ 4 = rUp (γ 3) 102 0 2 (ρ 25) := c4
  have c5 : γ 5 = rUp (γ 4) 102 0 3 (ρ 26) := c5
  obtain ⟨l0, -⟩ := hl
  have l0 : sn57 [ρ 7, ρ 0, ρ 2, ρ 19, ρ 27, ρ 28, ρ 29, ρ 10, ρ 17] (γ 5) 0 0 (γ 6) := hS57 _ _ _ _ _ l0
  show jn75 [ρ 0, ρ 1, ρ 2, ρ 3, ρ 4, ρ 5, ρ 6, ρ 7, ρ 8, ρ 9, ρ 10, ρ 11, ρ 12, ρ 13, ρ 14] (γ 0) 0 [ρ 0, ρ 1, ρ 2, ρ 3, ρ 4, ρ 5, ρ 6, ρ 7, ρ 8, ρ 9, ρ 10, ρ 11, ρ 12, ρ 13, ρ 14, ρ 15 + 1, ρ 16, ρ 34, ρ 18, ρ 30] (γ 6)
  have hD : en75 (γ 0) (0, [ρ 0, ρ 15], γ 1) = .inl (0, [ρ 0, ρ 15 + 1], γ 6) := by
    unfold en75
    refine (if_pos (show (0 : Nat) = 0 by decide)).trans ?_
    refine (zLet_eq (show _ = γ 1 from rfl)).trans ?_
    refine (zLet_eq (show _ = ρ 0 from rfl)).trans ?_
    refine (zLet_eq (show _ = ρ 15 from rfl)).trans ?_
    refine (zLet_eq m2).trans ?_
    refine (zLet_eq m6).trans ?_
    refine (zLet_eq m15).trans ?_
    refine (zLet_eq m16).trans ?_
    refine (if_neg w_0).trans ?_
    refine (if_neg w_1).trans ?_
    refine (if_neg w_2).trans ?_
    refine (zLet_eq m19).trans ?_
    refine (if_pos w_3).trans ?_
    refine (zLet_eq m20).trans ?_
    refine (zLet_eq m21).trans ?_
    refine (if_neg w_4).trans ?_
    refine (zLet_eq m22).trans ?_
    refine (if_neg w_5).trans ?_
    refine (zLet_eq c2.symm).trans ?_
    refine (if_neg w_6).trans ?_
    refine (zLet_eq m23).trans ?_
    refine (if_neg w_7).trans ?_
    refine (zLet_eq c3.symm).trans ?_
    refine (if_pos w_8).trans ?_
    refine (zLet_eq m24).trans ?_
    refine (zLet_eq c4.symm).trans ?_
    refine (zLet_eq m25).trans ?_
    refine (zLet_eq c5.symm).trans ?_
    refine (zLet_eq (show fn57 [ρ 7, ρ 0] (γ 5) = (0, 0, γ 6) from l0.symm)).trans ?_
    refine (zLet_eq (show _ = γ 6 from rfl)).trans ?_
    rfl
  exact zGoo_ato hJ hD
theorem vn75a0_89 {S : Nat → zSpc} (hS57 : ∀ x g o v gz, S 57 x g o v gz → sn57 x g o v gz) (hS73 : ∀ x g o v gz, S 73 x g o v gz → sn73 x g o v gz) {a : List Int} {g : rHp} : ∀ (ρ : Nat → Int) (γ : Nat → rHp), jn75 a g 0 (zAg (zNA a75_ 0) ρ) (γ 1) → zO 15 S a g q75a0_89 ρ γ → zGl (fun i vs g1 => jn75 a g i vs g1) (sn75 a g) q75a0_89 ρ γ := by
  intro ρ γ hJ h
  obtain ⟨ha, hg, hr, hf, hm, hc, hl⟩ := h
  have ha : a = [ρ 0, ρ 1, ρ 2, ρ 3, ρ 4, ρ 5, ρ 6, ρ 7, ρ 8, ρ 9, ρ 10, ρ 11, ρ 12, ρ 13, ρ 14] := ha
  subst ha
  subst hg
  have hJ : jn75 [ρ 0, ρ 1, ρ 2, ρ 3, ρ 4, ρ 5, ρ 6, ρ 7, ρ 8, ρ 9, ρ 10, ρ 11, ρ 12, ρ 13, ρ 14] (γ 0) 0 [ρ 0, ρ 1, ρ 2, ρ 3, ρ 4, ρ 5, ρ 6, ρ 7, ρ 8, ρ 9, ρ 10, ρ 11, ρ 12, ρ 13, ρ 14, ρ 15, ρ 16, ρ 17, ρ 18, ρ 19] (γ 1) := hJ
  obtain ⟨-, -, -, r3, -, -, -, -, -, -, -, -, -, -, -, -, -, r17, -, -, r20, -, r22, r23, r24, r25, -⟩ := hr
  have r3 : (3 : Int) ≤ ρ 3 ∧ ρ 3 ≤ 4 := r3
  have r17 : (0 : Int) ≤ ρ 17 ∧ ρ 17 ≤ 0 := r17
  have r20 : (1 : Int) ≤ ρ 20 ∧ ρ 20 ≤ 1 := r20
  have r22 : (3 : Int) ≤ ρ 22 ∧ ρ 22 ≤ 3 := r22
  have r23 : (3 : Int) ≤ ρ 23 ∧ ρ 23 ≤ 3 := r23
  have r24 : (3 : Int) ≤ ρ 24 ∧ ρ 24 ≤ 3 := r24
  have r25 : (0 : Int) ≤ ρ 25 ∧ ρ 25 ≤ 2 := r25
  obtain ⟨-, -, -, f3, -⟩ := hf
  have f3 : (0 : Int) ≤ ρ 18 + -ρ 15 + (-1) := f3
  obtain ⟨w_0, w_1, w_2, w_3, w_4, w_5, w_6, w_7, w_8, w_9, w_10⟩ : (¬ (ρ 15 ≥ ρ 18)) ∧ (¬ (ρ 17 ≠ 0)) ∧ (¬ (ρ 3 ≤ 2)) ∧ (ρ 20 ≠ 0) ∧ (¬ (0 ≥ ρ 22)) ∧ (¬ (ρ 23 ≠ 3)) ∧ (¬ (1 ≥ ρ 22)) ∧ (¬ (ρ 24 ≠ 3)) ∧ (¬ (2 ≥ ρ 22)) ∧ (ρ 25 ≠ 3) ∧ (3 ≥ ρ 22) := ⟨by omega, by omega, by omega, by omega, by omega, by omega, by omega, by omega, by omega, by omega, by omega⟩
  obtain ⟨-, -, m2, -, -, -, m6, -, -, -, -, -, -, -, -, m15, m16, -, -, m19, m20, m21, m22, m23, m24, m25, m26, -⟩ := hm
  have m2 : γ 0 71 0 (ρ 0) = ρ 3 := m2
  have m6 : γ 0 69 0 (ρ 0) = ρ 7 := m6
  have m15 : γ 1 15 0 77 = ρ 17 := m15
  have m16 : γ 1 15 0 90 = ρ 18 := m16
  have m19 : γ 1 109 0 (ρ 15) = ρ 20 := m19
  have m20 : γ 1 108 0 (ρ 15) = ρ 21 := m20
  have m21 : γ 0 66 0 (ρ 7) = ρ 22 := m21
  have m22 : γ 0 70 0 (4 * ρ 0) = ρ 23 := m22
  have m23 : γ 0 70 0 (4 * ρ 0 + 1) = ρ 24 := m23
  have m24 : γ 0 70 0 (4 * ρ 0 + 2) = ρ 25 := m24
  have m25 : γ 1 105 0 (4 * ρ 15 + 2) = ρ 26 := m25
  have m26 : γ 1 105 0 (4 * ρ 15 + 3) = ρ 27 := m26
  obtain ⟨⟨⟨⟨⟨-, c2⟩, c3⟩, c4⟩, c5⟩, -⟩ := hc
  have c2 : γ 2 = rUp (γ 1) 102 0 0 (ρ 21) := c2
  have c3 : γ 3 = rUp (γ 2) 102 0 1 (ρ 21) := c3
  have c4 : γ 4 = rUp (γ 3) 102 0 2 (ρ 26) := c4
  have c5 : γ 5 = rUp (γ 4) 102 0 3 (ρ 27) := c5
  obtain ⟨l0, -⟩ := hl
  have l0 : sn57 [ρ 7, ρ 0, ρ 2, ρ 19, ρ 28, ρ 29, ρ 30, ρ 10, ρ 17] (γ 5) 0 0 (γ 6) := hS57 _ _ _ _ _ l0
  show jn75 [ρ 0, ρ 1, ρ 2, ρ 3, ρ 4, ρ 5, ρ 6, ρ 7, ρ 8, ρ 9, ρ 10, ρ 11, ρ 12, ρ 13, ρ 14] (γ 0) 0 [ρ 0, ρ 1, ρ 2, ρ 3, ρ 4, ρ 5, ρ 6, ρ 7, ρ 8, ρ 9, ρ 10, ρ 11, ρ 12, ρ 13, ρ 14, ρ 15 + 1, ρ 16, ρ 35, ρ 18, ρ 31] (γ 6)
  have hD : en75 (γ 0) (0, [ρ 0, ρ 15], γ 1) = .inl (0, [ρ 0, ρ 15 + 1], γ 6) := by
    unfold en75
    refine (if_pos (show (0 : Nat) = 0 by decide)).trans ?_
    refine (zLet_eq (show _ = γ 1 from rfl)).trans ?_
    refine (zLet_eq (show _ = ρ 0 from rfl)).trans ?_
    refine (zLet_eq (show _ = ρ 15 from rfl)).trans ?_
    refine (zLet_eq m2).trans ?_
    refine (zLet_eq m6).trans ?_
    refine (zLet_eq m15).trans ?_
    refine (zLet_eq m16).trans ?_
    refine (if_neg w_0).trans ?_
    refine (if_neg w_1).trans ?_
    refine (if_neg w_2).trans ?_
    refine (zLet_eq m19).trans ?_
    refine (if_pos w_3).trans ?_
    refine (zLet_eq m20).trans ?_
    refine (zLet_eq m21).trans ?_
    refine (if_neg w_4).trans ?_
    refine (zLet_eq m22).trans ?_
    refine (if_neg w_5).trans ?_
    refine (zLet_eq c2.symm).trans ?_
    refine (if_neg w_6).trans ?_
    refine (zLet_eq m23).trans ?_
    refine (if_neg w_7).trans ?_
    refine (zLet_eq c3.symm).trans ?_
    refine (if_neg w_8).trans ?_
    refine (zLet_eq m24).trans ?_
    refine (if_pos w_9).trans ?_
    refine (zLet_eq m25).trans ?_
    refine (zLet_eq c4.symm).trans ?_
    refine (if_pos w_10).trans ?_
    refine (zLet_eq m26).trans ?_
    refine (zLet_eq c5.symm).trans ?_
    refine (zLet_eq (show fn57 [ρ 7, ρ 0] (γ 5) = (0, 0, γ 6) from l0.symm)).trans ?_
    refine (zLet_eq (show _ = γ 6 from rfl)).trans ?_
    rfl
  exact zGoo_ato hJ hD
theorem vn75a0_90 {S : Nat → zSpc} (hS57 : ∀ x g o v gz, S 57 x g o v gz → sn57 x g o v gz) (hS73 : ∀ x g o v gz, S 73 x g o v gz → sn73 x g o v gz) {a : List Int} {g : rHp} : ∀ (ρ : Nat → Int) (γ : Nat → rHp), jn75 a g 0 (zAg (zNA a75_ 0) ρ) (γ 1) → zO 15 S a g q75a0_90 ρ γ → zGl (fun i vs g1 => jn75 a g i vs g1) (sn75 a g) q75a0_90 ρ γ := by
  intro ρ γ hJ h
  obtain ⟨ha, hg, hr, hf, hm, hc, hl⟩ := h
  have ha : a = [ρ 0, ρ 1, ρ 2, ρ 3, ρ 4, ρ 5, ρ 6, ρ 7, ρ 8, ρ 9, ρ 10, ρ 11, ρ 12, ρ 13, ρ 14] := ha
  subst ha
  subst hg
  have hJ : jn75 [ρ 0, ρ 1, ρ 2, ρ 3, ρ 4, ρ 5, ρ 6, ρ 7, ρ 8, ρ 9, ρ 10, ρ 11, ρ 12, ρ 13, ρ 14] (γ 0) 0 [ρ 0, ρ 1, ρ 2, ρ 3, ρ 4, ρ 5, ρ 6, ρ 7, ρ 8, ρ 9, ρ 10, ρ 11, ρ 12, ρ 13, ρ 14, ρ 15, ρ 16, ρ 17, ρ 18, ρ 19] (γ 1) := hJ
  obtain ⟨-, -, -, r3, -, -, -, -, -, -, -, -, -, -, -, -, -, r17, -, -, r20, -, r22, r23, r24, r25, -, r27, -⟩ := hr
  have r3 : (3 : Int) ≤ ρ 3 ∧ ρ 3 ≤ 4 := r3
  have r17 : (0 : Int) ≤ ρ 17 ∧ ρ 17 ≤ 0 := r17
  have r20 : (1 : Int) ≤ ρ 20 ∧ ρ 20 ≤ 1 := r20
  have r22 : (4 : Int) ≤ ρ 22 ∧ ρ 22 ≤ 4 := r22
  have r23 : (3 : Int) ≤ ρ 23 ∧ ρ 23 ≤ 3 := r23
  have r24 : (3 : Int) ≤ ρ 24 ∧ ρ 24 ≤ 3 := r24
  have r25 : (0 : Int) ≤ ρ 25 ∧ ρ 25 ≤ 2 := r25
  have r27 : (0 : Int) ≤ ρ 27 ∧ ρ 27 ≤ 2 := r27
  obtain ⟨-, -, -, f3, -⟩ := hf
  have f3 : (0 : Int) ≤ ρ 18 + -ρ 15 + (-1) := f3
  obtain ⟨w_0, w_1, w_2, w_3, w_4, w_5, w_6, w_7, w_8, w_9, w_10, w_11⟩ : (¬ (ρ 15 ≥ ρ 18)) ∧ (¬ (ρ 17 ≠ 0)) ∧ (¬ (ρ 3 ≤ 2)) ∧ (ρ 20 ≠ 0) ∧ (¬ (0 ≥ ρ 22)) ∧ (¬ (ρ 23 ≠ 3)) ∧ (¬ (1 ≥ ρ 22)) ∧ (¬ (ρ 24 ≠ 3)) ∧ (¬ (2 ≥ ρ 22)) ∧ (ρ 25 ≠ 3) ∧ (¬ (3 ≥ ρ 22)) ∧ (ρ 27 ≠ 3) := ⟨by omega, by omega, by omega, by omega, by omega, by omega, by omega, by omega, by omega, by omega, by omega, by omega⟩
  obtain ⟨-, -, m2, -, -, -, m6, -, -, -, -, -, -, -, -, m15, m16, -, -, m19, m20, m21, m22, m23, m24, m25, m26, m27, -⟩ := hm
  have m2 : γ 0 71 0 (ρ 0) = ρ 3 := m2
  have m6 : γ 0 69 0 (ρ 0) = ρ 7 := m6
  have m15 : γ 1 15 0 77 = ρ 17 := m15
  have m16 : γ 1 15 0 90 = ρ 18 := m16
  have m19 : γ 1 109 0 (ρ 15) = ρ 20 := m19
  have m20 : γ 1 108 0 (ρ 15) = ρ 21 := m20
  have m21 : γ 0 66 0 (ρ 7) = ρ 22 := m21
  have m22 : γ 0 70 0 (4 * ρ 0) = ρ 23 := m22
  have m23 : γ 0 70 0 (4 * ρ 0 + 1) = ρ 24 := m23
  have m24 : γ 0 70 0 (4 * ρ 0 + 2) = ρ 25 := m24
  have m25 : γ 1 105 0 (4 * ρ 15 + 2) = ρ 26 := m25
  have m26 : γ 0 70 0 (4 * ρ 0 + 3) = ρ 27 := m26
  have m27 : γ 1 105 0 (4 * ρ 15 + 3) = ρ 28 := m27
  obtain ⟨⟨⟨⟨⟨-, c2⟩, c3⟩, c4⟩, c5⟩, -⟩ := hc
  have c2 : γ 2 = rUp (γ 1) 102 0 0 (ρ 21) := c2
  have c3 : γ 3 = rUp (γ 2) 102 0 1 (ρ 21) := c3
  have c4 : γ 4 = rUp (γ 3) 102 0 2 (ρ 26) := c4
  have c5 : γ 5 = rUp (γ 4) 102 0 3 (ρ 28) := c5
  obtain ⟨l0, -⟩ := hl
  have l0 : sn57 [ρ 7, ρ 0, ρ 2, ρ 19, ρ 29, ρ 30, ρ 31, ρ 10, ρ 17] (γ 5) 0 0 (γ 6) := hS57 _ _ _ _ _ l0
  show jn75 [ρ 0, ρ 1, ρ 2, ρ 3, ρ 4, ρ 5, ρ 6, ρ 7, ρ 8, ρ 9, ρ 10, ρ 11, ρ 12, ρ 13, ρ 14] (γ 0) 0 [ρ 0, ρ 1, ρ 2, ρ 3, ρ 4, ρ 5, ρ 6, ρ 7, ρ 8, ρ 9, ρ 10, ρ 11, ρ 12, ρ 13, ρ 14, ρ 15 + 1, ρ 16, ρ 36, ρ 18, ρ 32] (γ 6)
  have hD : en75 (γ 0) (0, [ρ 0, ρ 15], γ 1) = .inl (0, [ρ 0, ρ 15 + 1], γ 6) := by
    unfold en75
    refine (if_pos (show (0 : Nat) = 0 by decide)).trans ?_
    refine (zLet_eq (show _ = γ 1 from rfl)).trans ?_
    refine (zLet_eq (show _ = ρ 0 from rfl)).trans ?_
    refine (zLet_eq (show _ = ρ 15 from rfl)).trans ?_
    refine (zLet_eq m2).trans ?_
    refine (zLet_eq m6).trans ?_
    refine (zLet_eq m15).trans ?_
    refine (zLet_eq m16).trans ?_
    refine (if_neg w_0).trans ?_
    refine (if_neg w_1).trans ?_
    refine (if_neg w_2).trans ?_
    refine (zLet_eq m19).trans ?_
    refine (if_pos w_3).trans ?_
    refine (zLet_eq m20).trans ?_
    refine (zLet_eq m21).trans ?_
    refine (if_neg w_4).trans ?_
    refine (zLet_eq m22).trans ?_
    refine (if_neg w_5).trans ?_
    refine (zLet_eq c2.symm).trans ?_
    refine (if_neg w_6).trans ?_
    refine (zLet_eq m23).trans ?_
    refine (if_neg w_7).trans ?_
    refine (zLet_eq c3.symm).trans ?_
    refine (if_neg w_8).trans ?_
    refine (zLet_eq m24).trans ?_
    refine (if_pos w_9).trans ?_
    refine (zLet_eq m25).trans ?_
    refine (zLet_eq c4.symm).trans ?_
    refine (if_neg w_10).trans ?_
    refine (zLet_eq m26).trans ?_
    refine (if_pos w_11).trans ?_
    refine (zLet_eq m27).trans ?_
    refine (zLet_eq c5.symm).trans ?_
    refine (zLet_eq (show fn57 [ρ 7, ρ 0] (γ 5) = (0, 0, γ 6) from l0.symm)).trans ?_
    refine (zLet_eq (show _ = γ 6 from rfl)).trans ?_
    rfl
  exact zGoo_ato hJ hD
theorem vn75a0_91 {S : Nat → zSpc} (hS57 : ∀ x g o v gz, S 57 x g o v gz → sn57 x g o v gz) (hS73 : ∀ x g o v gz, S 73 x g o v gz → sn73 x g o v gz) {a : List Int} {g : rHp} : ∀ (ρ : Nat → Int) (γ : Nat → rHp), jn75 a g 0 (zAg (zNA a75_ 0) ρ) (γ 1) → zO 15 S a g q75a0_91 ρ γ → zGl (fun i vs g1 => jn75 a g i vs g1) (sn75 a g) q75a0_91 ρ γ := by
  intro ρ γ hJ h
  obtain ⟨ha, hg, hr, hf, hm, hc, hl⟩ := h
  have ha : a = [ρ 0, ρ 1, ρ 2, ρ 3, ρ 4, ρ 5, ρ 6, ρ 7, ρ 8, ρ 9, ρ 10, ρ 11, ρ 12, ρ 13, ρ 14] := ha
  subst ha
  subst hg
  have hJ : jn75 [ρ 0, ρ 1, ρ 2, ρ 3, ρ 4, ρ 5, ρ 6, ρ 7, ρ 8, ρ 9, ρ 10, ρ 11, ρ 12, ρ 13, ρ 14] (γ 0) 0 [ρ 0, ρ 1, ρ 2, ρ 3, ρ 4, ρ 5, ρ 6, ρ 7, ρ 8, ρ 9, ρ 10, ρ 11, ρ 12, ρ 13, ρ 14, ρ 15, ρ 16, ρ 17, ρ 18, ρ 19] (γ 1) := hJ
  obtain ⟨-, -, -, r3, -, -, -, -, -, -, -, -, -, -, -, -, -, r17, -, -, r20, -, r22, r23, r24, r25, -, r27, -⟩ := hr
  have r3 : (3 : Int) ≤ ρ 3 ∧ ρ 3 ≤ 4 := r3
  have r17 : (0 : Int) ≤ ρ 17 ∧ ρ 17 ≤ 0 := r17
  have r20 : (1 : Int) ≤ ρ 20 ∧ ρ 20 ≤ 1 := r20
  have r22 : (4 : Int) ≤ ρ 22 ∧ ρ 22 ≤ 4 := r22
  have r23 : (3 : Int) ≤ ρ 23 ∧ ρ 23 ≤ 3 := r23
  have r24 : (3 : Int) ≤ ρ 24 ∧ ρ 24 ≤ 3 := r24
  have r25 : (0 : Int) ≤ ρ 25 ∧ ρ 25 ≤ 2 := r25
  have r27 : (3 : Int) ≤ ρ 27 ∧ ρ 27 ≤ 3 := r27
  obtain ⟨-, -, -, f3, -⟩ := hf
  have f3 : (0 : Int) ≤ ρ 18 + -ρ 15 + (-1) := f3
  obtain ⟨w_0, w_1, w_2, w_3, w_4, w_5, w_6, w_7, w_8, w_9, w_10, w_11⟩ : (¬ (ρ 15 ≥ ρ 18)) ∧ (¬ (ρ 17 ≠ 0)) ∧ (¬ (ρ 3 ≤ 2)) ∧ (ρ 20 ≠ 0) ∧ (¬ (0 ≥ ρ 22)) ∧ (¬ (ρ 23 ≠ 3)) ∧ (¬ (1 ≥ ρ 22)) ∧ (¬ (ρ 24 ≠ 3)) ∧ (¬ (2 ≥ ρ 22)) ∧ (ρ 25 ≠ 3) ∧ (¬ (3 ≥ ρ 22)) ∧ (¬ (ρ 27 ≠ 3)) := ⟨by omega, by omega, by omega, by omega, by omega, by omega, by omega, by omega, by omega, by omega, by omega, by omega⟩
  obtain ⟨-, -, m2, -, -, -, m6, -, -, -, -, -, -, -, -, m15, m16, -, -, m19, m20, m21, m22, m23, m24, m25, m26, -⟩ := hm
  have m2 : γ 0 71 0 (ρ 0) = ρ 3 := m2
  have m6 : γ 0 69 0 (ρ 0) = ρ 7 := m6
  have m15 : γ 1 15 0 77 = ρ 17 := m15
  have m16 : γ 1 15 0 90 = ρ 18 := m16
  have m19 : γ 1 109 0 (ρ 15) = ρ 20 := m19
  have m20 : γ 1 108 0 (ρ 15) = ρ 21 := m20
  have m21 : γ 0 66 0 (ρ 7) = ρ 22 := m21
  have m22 : γ 0 70 0 (4 * ρ 0) = ρ 23 := m22
  have m23 : γ 0 70 0 (4 * ρ 0 + 1) = ρ 24 := m23
  have m24 : γ 0 70 0 (4 * ρ 0 + 2) = ρ 25 := m24
  have m25 : γ 1 105 0 (4 * ρ 15 + 2) = ρ 26 := m25
  have m26 : γ 0 70 0 (4 * ρ 0 + 3) = ρ 27 := m26
  obtain ⟨⟨⟨⟨⟨-, c2⟩, c3⟩, c4⟩, c5⟩, -⟩ := hc
  have c2 : γ 2 = rUp (γ 1) 102 0 0 (ρ 21) := c2
  have c3 : γ 3 = rUp (γ 2) 102 0 1 (ρ 21) := c3
  have c4 : γ 4 = rUp (γ 3) 102 0 2 (ρ 26) := c4
  have c5 : γ 5 = rUp (γ 4) 102 0 3 (ρ 21) := c5
  obtain ⟨l0, -⟩ := hl
  have l0 : sn57 [ρ 7, ρ 0, ρ 2, ρ 19, ρ 28, ρ 29, ρ 30, ρ 10, ρ 17] (γ 5) 0 0 (γ 6) := hS57 _ _ _ _ _ l0
  show jn75 [ρ 0, ρ 1, ρ 2, ρ 3, ρ 4, ρ 5, ρ 6, ρ 7, ρ 8, ρ 9, ρ 10, ρ 11, ρ 12, ρ 13, ρ 14] (γ 0) 0 [ρ 0, ρ 1, ρ 2, ρ 3, ρ 4, ρ 5, ρ 6, ρ 7, ρ 8, ρ 9, ρ 10, ρ 11, ρ 12, ρ 13, ρ 14, ρ 15 + 1, ρ 16, ρ 35, ρ 18, ρ 31] (γ 6)
  have hD : en75 (γ 0) (0, [ρ 0, ρ 15], γ 1) = .inl (0, [ρ 0, ρ 15 + 1], γ 6) := by
    unfold en75
    refine (if_pos (show (0 : Nat) = 0 by decide)).trans ?_
    refine (zLet_eq (show _ = γ 1 from rfl)).trans ?_
    refine (zLet_eq (show _ = ρ 0 from rfl)).trans ?_
    refine (zLet_eq (show _ = ρ 15 from rfl)).trans ?_
    refine (zLet_eq m2).trans ?_
    refine (zLet_eq m6).trans ?_
    refine (zLet_eq m15).trans ?_
    refine (zLet_eq m16).trans ?_
    refine (if_neg w_0).trans ?_
    refine (if_neg w_1).trans ?_
    refine (if_neg w_2).trans ?_
    refine (zLet_eq m19).trans ?_
    refine (if_pos w_3).trans ?_
    refine (zLet_eq m20).trans ?_
    refine (zLet_eq m21).trans ?_
    refine (if_neg w_4).trans ?_
    refine (zLet_eq m22).trans ?_
    refine (if_neg w_5).trans ?_
    refine (zLet_eq c2.symm).trans ?_
    refine (if_neg w_6).trans ?_
    refine (zLet_eq m23).trans ?_
    refine (if_neg w_7).trans ?_
    refine (zLet_eq c3.symm).trans ?_
    refine (if_neg w_8).trans ?_
    refine (zLet_eq m24).trans ?_
    refine (if_pos w_9).trans ?_
    refine (zLet_eq m25).trans ?_
    refine (zLet_eq c4.symm).trans ?_
    refine (if_neg w_10).trans ?_
    refine (zLet_eq m26).trans ?_
    refine (if_neg w_11).trans ?_
    refine (zLet_eq c5.symm).trans ?_
    refine (zLet_eq (show fn57 [ρ 7, ρ 0] (γ 5) = (0, 0, γ 6) from l0.symm)).trans ?_
    refine (zLet_eq (show _ = γ 6 from rfl)).trans ?_
    rfl
  exact zGoo_ato hJ hD
theorem vn75a0_92 {S : Nat → zSpc} (hS57 : ∀ x g o v gz, S 57 x g o v gz → sn57 x g o v gz) (hS73 : ∀ x g o v gz, S 73 x g o v gz → sn73 x g o v gz) {a : List Int} {g : rHp} : ∀ (ρ : Nat → Int) (γ : Nat → rHp), jn75 a g 0 (zAg (zNA a75_ 0) ρ) (γ 1) → zO 15 S a g q75a0_92 ρ γ → zGl (fun i vs g1 => jn75 a g i vs g1) (sn75 a g) q75a0_92 ρ γ := by
  intro ρ γ hJ h
  obtain ⟨ha, hg, hr, hf, hm, hc, hl⟩ := h
  have ha : a = [ρ 0, ρ 1, ρ 2, ρ 3, ρ 4, ρ 5, ρ 6, ρ 7, ρ 8, ρ 9, ρ 10, ρ 11, ρ 12, ρ 13, ρ 14] := ha
  subst ha
  subst hg
  have hJ : jn75 [ρ 0, ρ 1, ρ 2, ρ 3, ρ 4, ρ 5, ρ 6, ρ 7, ρ 8, ρ 9, ρ 10, ρ 11, ρ 12, ρ 13, ρ 14] (γ 0) 0 [ρ 0, ρ 1, ρ 2, ρ 3, ρ 4, ρ 5, ρ 6, ρ 7, ρ 8, ρ 9, ρ 10, ρ 11, ρ 12, ρ 13, ρ 14, ρ 15, ρ 16, ρ 17, ρ 18, ρ 19] (γ 1) := hJ
  obtain ⟨-, -, -, r3, -, -, -, -, -, -, -, -, -, -, -, -, -, r17, -, -, r20, -, r22, r23, r24, r25, -⟩ := hr
  have r3 : (3 : Int) ≤ ρ 3 ∧ ρ 3 ≤ 4 := r3
  have r17 : (0 : Int) ≤ ρ 17 ∧ ρ 17 ≤ 0 := r17
  have r20 : (1 : Int) ≤ ρ 20 ∧ ρ 20 ≤ 1 := r20
  have r22 : (3 : Int) ≤ ρ 22 ∧ ρ 22 ≤ 3 := r22
  have r23 : (3 : Int) ≤ ρ 23 ∧ ρ 23 ≤ 3 := r23
  have r24 : (3 : Int) ≤ ρ 24 ∧ ρ 24 ≤ 3 := r24
  have r25 : (3 : Int) ≤ ρ 25 ∧ ρ 25 ≤ 3 := r25
  obtain ⟨-, -, -, f3, -⟩ := hf
  have f3 : (0 : Int) ≤ ρ 18 + -ρ 15 + (-1) := f3
  obtain ⟨w_0, w_1, w_2, w_3, w_4, w_5, w_6, w_7, w_8, w_9, w_10⟩ : (¬ (ρ 15 ≥ ρ 18)) ∧ (¬ (ρ 17 ≠ 0)) ∧ (¬ (ρ 3 ≤ 2)) ∧ (ρ 20 ≠ 0) ∧ (¬ (0 ≥ ρ 22)) ∧ (¬ (ρ 23 ≠ 3)) ∧ (¬ (1 ≥ ρ 22)) ∧ (¬ (ρ 24 ≠ 3)) ∧ (¬ (2 ≥ ρ 22)) ∧ (¬ (ρ 25 ≠ 3)) ∧ (3 ≥ ρ 22) := ⟨by omega, by omega, by omega, by omega, by omega, by omega, by omega, by omega, by omega, by omega, by omega⟩
  obtain ⟨-, -, m2, -, -, -, m6, -, -, -, -, -, -, -, -, m15, m16, -, -, m19, m20, m21, m22, m23, m24, m25, -⟩ := hm
  have m2 : γ 0 71 0 (ρ 0) = ρ 3 := m2
  have m6 : γ 0 69 0 (ρ 0) = ρ 7 := m6
  have m15 : γ 1 15 0 77 = ρ 17 := m15
  have m16 : γ 1 15 0 90 = ρ 18 := m16
  have m19 : γ 1 109 0 (ρ 15) = ρ 20 := m19
  have m20 : γ 1 108 0 (ρ 15) = ρ 21 := m20
  have m21 : γ 0 66 0 (ρ 7) = ρ 22 := m21
  have m22 : γ 0 70 0 (4 * ρ 0) = ρ 23 := m22
  have m23 : γ 0 70 0 (4 * ρ 0 + 1) = ρ 24 := m23
  have m24 : γ 0 70 0 (4 * ρ 0 + 2) = ρ 25 := m24
  have m25 : γ 1 105 0 (4 * ρ 15 + 3) = ρ 26 := m25
  obtain ⟨⟨⟨⟨⟨-, c2⟩, c3⟩, c4⟩, c5⟩, -⟩ := hc
  have c2 : γ 2 = rUp (γ 1) 102 0 0 (ρ 21) := c2
  have c3 : γ 3 = rUp (γ 2) 102 0 1 (ρ 21) := c3
  have c4 : γ 4 = rUp (γ 3) 102 0 2 (ρ 21) := c4
  have c5 : γ 5 = rUp (γ 4) 102 0 3 (ρ 26) := c5
  obtain ⟨l0, -⟩ := hl
  have l0 : sn57 [ρ 7, ρ 0, ρ 2, ρ 19, ρ 27, ρ 28, ρ 29, ρ 10, ρ 17] (γ 5) 0 0 (γ 6) := hS57 _ _ _ _ _ l0
  show jn75 [ρ 0, ρ 1, ρ 2, ρ 3, ρ 4, ρ 5, ρ 6, ρ 7, ρ 8, ρ 9, ρ 10, ρ 11, ρ 12, ρ 13, ρ 14] (γ 0) 0 [ρ 0, ρ 1, ρ 2, ρ 3, ρ 4, ρ 5, ρ 6, ρ 7, ρ 8, ρ 9, ρ 10, ρ 11, ρ 12, ρ 13, ρ 14, ρ 15 + 1, ρ 16, ρ 34, ρ 18, ρ 30] (γ 6)
  have hD : en75 (γ 0) (0, [ρ 0, ρ 15], γ 1) = .inl (0, [ρ 0, ρ 15 + 1], γ 6) := by
    unfold en75
    refine (if_pos (show (0 : Nat) = 0 by decide)).trans ?_
    refine (zLet_eq (show _ = γ 1 from rfl)).trans ?_
    refine (zLet_eq (show _ = ρ 0 from rfl)).trans ?_
    refine (zLet_eq (show _ = ρ 15 from rfl)).trans ?_
    refine (zLet_eq m2).trans ?_
    refine (zLet_eq m6).trans ?_
    refine (zLet_eq m15).trans ?_
    refine (zLet_eq m16).trans ?_
    refine (if_neg w_0).trans ?_
    refine (if_neg w_1).trans ?_
    refine (if_neg w_2).trans ?_
    refine (zLet_eq m19).trans ?_
    refine (if_pos w_3).trans ?_
    refine (zLet_eq m20).trans ?_
    refine (zLet_eq m21).trans ?_
    refine (if_neg w_4).trans ?_
    refine (zLet_eq m22).trans ?_
    refine (if_neg w_5).trans ?_
    refine (zLet_eq c2.symm).trans ?_
    refine (if_neg w_6).trans ?_
    refine (zLet_eq m23).trans ?_
    refine (if_neg w_7).trans ?_
    refine (zLet_eq c3.symm).trans ?_
    refine (if_neg w_8).trans ?_
    refine (zLet_eq m24).trans ?_
    refine (if_neg w_9).trans ?_
    refine (zLet_eq c4.symm).trans ?_
    refine (if_pos w_10).trans ?_
    refine (zLet_eq m25).trans ?_
    refine (zLet_eq c5.symm).trans ?_
    refine (zLet_eq (show fn57 [ρ 7, ρ 0] (γ 5) = (0, 0, γ 6) from l0.symm)).trans ?_
    refine (zLet_eq (show _ = γ 6 from rfl)).trans ?_
    rfl
  exact zGoo_ato hJ hD
theorem vn75a0_93 {S : Nat → zSpc} (hS57 : ∀ x g o v gz, S 57 x g o v gz → sn57 x g o v gz) (hS73 : ∀ x g o v gz, S 73 x g o v gz → sn73 x g o v gz) {a : List Int} {g : rHp} : ∀ (ρ : Nat → Int) (γ : Nat → rHp), jn75 a g 0 (zAg (zNA a75_ 0) ρ) (γ 1) → zO 15 S a g q75a0_93 ρ γ → zGl (fun i vs g1 => jn75 a g i vs g1) (sn75 a g) q75a0_93 ρ γ := by
  intro ρ γ hJ h
  obtain ⟨ha, hg, hr, hf, hm, hc, hl⟩ := h
  have ha : a = [ρ 0, ρ 1, ρ 2, ρ 3, ρ 4, ρ 5, ρ 6, ρ 7, ρ 8, ρ 9, ρ 10, ρ 11, ρ 12, ρ 13, ρ 14] := ha
  subst ha
  subst hg
  have hJ : jn75 [ρ 0, ρ 1, ρ 2, ρ 3, ρ 4, ρ 5, ρ 6, ρ 7, ρ 8, ρ 9, ρ 10, ρ 11, ρ 12, ρ 13, ρ 14] (γ 0) 0 [ρ 0, ρ 1, ρ 2, ρ 3, ρ 4, ρ 5, ρ 6, ρ 7, ρ 8, ρ 9, ρ 10, ρ 11, ρ 12, ρ 13, ρ 14, ρ 15, ρ 16, ρ 17, ρ 18, ρ 19] (γ 1) := hJ
  obtain ⟨-, -, -, r3, -, -, -, -, -, -, -, -, -, -, -, -, -, r17, -, -, r20, -, r22, r23, r24, r25, r26, -⟩ := hr
  have r3 : (3 : Int) ≤ ρ 3 ∧ ρ 3 ≤ 4 := r3
  have r17 : (0 : Int) ≤ ρ 17 ∧ ρ 17 ≤ 0 := r17
  have r20 : (1 : Int) ≤ ρ 20 ∧ ρ 20 ≤ 1 := r20
  have r22 : (4 : Int) ≤ ρ 22 ∧ ρ 22 ≤ 4 := r22
  have r23 : (3 : Int) ≤ ρ 23 ∧ ρ 23 ≤ 3 := r23
  have r24 : (3 : Int) ≤ ρ 24 ∧ ρ 24 ≤ 3 := r24
  have r25 : (3 : Int) ≤ ρ 25 ∧ ρ 25 ≤ 3 := r25
  have r26 : (0 : Int) ≤ ρ 26 ∧ ρ 26 ≤ 2 := r26
  obtain ⟨-, -, -, f3, -⟩ := hf
  have f3 : (0 : Int) ≤ ρ 18 + -ρ 15 + (-1) := f3
  obtain ⟨w_0, w_1, w_2, w_3, w_4, w_5, w_6, w_7, w_8, w_9, w_10, w_11⟩ : (¬ (ρ 15 ≥ ρ 18)) ∧ (¬ (ρ 17 ≠ 0)) ∧ (¬ (ρ 3 ≤ 2)) ∧ (ρ 20 ≠ 0) ∧ (¬ (0 ≥ ρ 22)) ∧ (¬ (ρ 23 ≠ 3)) ∧ (¬ (1 ≥ ρ 22)) ∧ (¬ (ρ 24 ≠ 3)) ∧ (¬ (2 ≥ ρ 22)) ∧ (¬ (ρ 25 ≠ 3)) ∧ (¬ (3 ≥ ρ 22)) ∧ (ρ 26 ≠ 3) := ⟨by omega, by omega, by omega, by omega, by omega, by omega, by omega, by omega, by omega, by omega, by omega, by omega⟩
  obtain ⟨-, -, m2, -, -, -, m6, -, -, -, -, -, -, -, -, m15, m16, -, -, m19, m20, m21, m22, m23, m24, m25, m26, -⟩ := hm
  have m2 : γ 0 71 0 (ρ 0) = ρ 3 := m2
  have m6 : γ 0 69 0 (ρ 0) = ρ 7 := m6
  have m15 : γ 1 15 0 77 = ρ 17 := m15
  have m16 : γ 1 15 0 90 = ρ 18 := m16
  have m19 : γ 1 109 0 (ρ 15) = ρ 20 := m19
  have m20 : γ 1 108 0 (ρ 15) = ρ 21 := m20
  have m21 : γ 0 66 0 (ρ 7) = ρ 22 := m21
  have m22 : γ 0 70 0 (4 * ρ 0) = ρ 23 := m22
  have m23 : γ 0 70 0 (4 * ρ 0 + 1) = ρ 24 := m23
  have m24 : γ 0 70 0 (4 * ρ 0 + 2) = ρ 25 := m24
  have m25 : γ 0 70 0 (4 * ρ 0 + 3) = ρ 26 := m25
  have m26 : γ 1 105 0 (4 * ρ 15 + 3) = ρ 27 := m26
  obtain ⟨⟨⟨⟨⟨-, c2⟩, c3⟩, c4⟩, c5⟩, -⟩ := hc
  have c2 : γ 2 = rUp (γ 1) 102 0 0 (ρ 21) := c2
  have c3 : γ 3 = rUp (γ 2) 102 0 1 (ρ 21) := c3
  have c4 : γ 4 = rUp (γ 3) 102 0 2 (ρ 21) := c4
  have c5 : γ 5 = rUp (γ 4) 102 0 3 (ρ 27) := c5
  obtain ⟨l0, -⟩ := hl
  have l0 : sn57 [ρ 7, ρ 0, ρ 2, ρ 19, ρ 28, ρ 29, ρ 30, ρ 10, ρ 17] (γ 5) 0 0 (γ 6) := hS57 _ _ _ _ _ l0
  show jn75 [ρ 0, ρ 1, ρ 2, ρ 3, ρ 4, ρ 5, ρ 6, ρ 7, ρ 8, ρ 9, ρ 10, ρ 11, ρ 12, ρ 13, ρ 14] (γ 0) 0 [ρ 0, ρ 1, ρ 2, ρ 3, ρ 4, ρ 5, ρ 6, ρ 7, ρ 8, ρ 9, ρ 10, ρ 11, ρ 12, ρ 13, ρ 14, ρ 15 + 1, ρ 16, ρ 35, ρ 18, ρ 31] (γ 6)
  have hD : en75 (γ 0) (0, [ρ 0, ρ 15], γ 1) = .inl (0, [ρ 0, ρ 15 + 1], γ 6) := by
    unfold en75
    refine (if_pos (show (0 : Nat) = 0 by decide)).trans ?_
    refine (zLet_eq (show _ = γ 1 from rfl)).trans ?_
    refine (zLet_eq (show _ = ρ 0 from rfl)).trans ?_
    refine (zLet_eq (show _ = ρ 15 from rfl)).trans ?_
    refine (zLet_eq m2).trans ?_
    refine (zLet_eq m6).trans ?_
    refine (zLet_eq m15).trans ?_
    refine (zLet_eq m16).trans ?_
    refine (if_neg w_0).trans ?_
    refine (if_neg w_1).trans ?_
    refine (if_neg w_2).trans ?_
    refine (zLet_eq m19).trans ?_
    refine (if_pos w_3).trans ?_
    refine (zLet_eq m20).trans ?_
    refine (zLet_eq m21).trans ?_
    refine (if_neg w_4).trans ?_
    refine (zLet_eq m22).trans ?_
    refine (if_neg w_5).trans ?_
    refine (zLet_eq c2.symm).trans ?_
    refine (if_neg w_6).trans ?_
    refine (zLet_eq m23).trans ?_
    refine (if_neg w_7).trans ?_
    refine (zLet_eq c3.symm).trans ?_
    refine (if_neg w_8).trans ?_
    refine (zLet_eq m24).trans ?_
    refine (if_neg w_9).trans ?_
    refine (zLet_eq c4.symm).trans ?_
    refine (if_neg w_10).trans ?_
    refine (zLet_eq m25).trans ?_
    refine (if_pos w_11).trans ?_
    refine (zLet_eq m26).trans ?_
    refine (zLet_eq c5.symm).trans ?_
    refine (zLet_eq (show fn57 [ρ 7, ρ 0] (γ 5) = (0, 0, γ 6) from l0.symm)).trans ?_
    refine (zLet_eq (show _ = γ 6 from rfl)).trans ?_
    rfl
  exact zGoo_ato hJ hD
theorem vn75a0_94 {S : Nat → zSpc} (hS57 : ∀ x g o v gz, S 57 x g o v gz → sn57 x g o v gz) (hS73 : ∀ x g o v gz, S 73 x g o v gz → sn73 x g o v gz) {a : List Int} {g : rHp} : ∀ (ρ : Nat → Int) (γ : Nat → rHp), jn75 a g 0 (zAg (zNA a75_ 0) ρ) (γ 1) → zO 15 S a g q75a0_94 ρ γ → zGl (fun i vs g1 => jn75 a g i vs g1) (sn75 a g) q75a0_94 ρ γ := by
  intro ρ γ hJ h
  obtain ⟨ha, hg, hr, hf, hm, hc, hl⟩ := h
  have ha : a = [ρ 0, ρ 1, ρ 2, ρ 3, ρ 4, ρ 5, ρ 6, ρ 7, ρ 8, ρ 9, ρ 10, ρ 11, ρ 12, ρ 13, ρ 14] := ha
  subst ha
  subst hg
  have hJ : jn75 [ρ 0, ρ 1, ρ 2, ρ 3, ρ 4, ρ 5, ρ 6, ρ 7, ρ 8, ρ 9, ρ 10, ρ 11, ρ 12, ρ 13, ρ 14] (γ 0) 0 [ρ 0, ρ 1, ρ 2, ρ 3, ρ 4, ρ 5, ρ 6, ρ 7, ρ 8, ρ 9, ρ 10, ρ 11, ρ 12, ρ 13, ρ 14, ρ 15, ρ 16, ρ 17, ρ 18, ρ 19] (γ 1) := hJ
  obtain ⟨-, -, -, r3, -, -, -, -, -, -, -, -, -, -, -, -, -, r17, -, -, r20, -, r22, r23, r24, r25, r26, -⟩ := hr
  have r3 : (3 : Int) ≤ ρ 3 ∧ ρ 3 ≤ 4 := r3
  have r17 : (0 : Int) ≤ ρ 17 ∧ ρ 17 ≤ 0 := r17
  have r20 : (1 : Int) ≤ ρ 20 ∧ ρ 20 ≤ 1 := r20
  have r22 : (4 : Int) ≤ ρ 22 ∧ ρ 22 ≤ 4 := r22
  have r23 : (3 : Int) ≤ ρ 23 ∧ ρ 23 ≤ 3 := r23
  have r24 : (3 : Int) ≤ ρ 24 ∧ ρ 24 ≤ 3 := r24
  have r25 : (3 : Int) ≤ ρ 25 ∧ ρ 25 ≤ 3 := r25
  have r26 : (3 : Int) ≤ ρ 26 ∧ ρ 26 ≤ 3 := r26
  obtain ⟨-, -, -, f3, -⟩ := hf
  have f3 : (0 : Int) ≤ ρ 18 + -ρ 15 + (-1) := f3
  obtain ⟨w_0, w_1, w_2, w_3, w_4, w_5, w_6, w_7, w_8, w_9, w_10, w_11⟩ : (¬ (ρ 15 ≥ ρ 18)) ∧ (¬ (ρ 17 ≠ 0)) ∧ (¬ (ρ 3 ≤ 2)) ∧ (ρ 20 ≠ 0) ∧ (¬ (0 ≥ ρ 22)) ∧ (¬ (ρ 23 ≠ 3)) ∧ (¬ (1 ≥ ρ 22)) ∧ (¬ (ρ 24 ≠ 3)) ∧ (¬ (2 ≥ ρ 22)) ∧ (¬ (ρ 25 ≠ 3)) ∧ (¬ (3 ≥ ρ 22)) ∧ (¬ (ρ 26 ≠ 3)) := ⟨by omega, by omega, by omega, by omega, by omega, by omega, by omega, by omega, by omega, by omega, by omega, by omega⟩
  obtain ⟨-, -, m2, -, -, -, m6, -, -, -, -, -, -, -, -, m15, m16, -, -, m19, m20, m21, m22, m23, m24, m25, -⟩ := hm
  have m2 : γ 0 71 0 (ρ 0) = ρ 3 := m2
  have m6 : γ 0 69 0 (ρ 0) = ρ 7 := m6
  have m15 : γ 1 15 0 77 = ρ 17 := m15
  have m16 : γ 1 15 0 90 = ρ 18 := m16
  have m19 : γ 1 109 0 (ρ 15) = ρ 20 := m19
  have m20 : γ 1 108 0 (ρ 15) = ρ 21 := m20
  have m21 : γ 0 66 0 (ρ 7) = ρ 22 := m21
  have m22 : γ 0 70 0 (4 * ρ 0) = ρ 23 := m22
  have m23 : γ 0 70 0 (4 * ρ 0 + 1) = ρ 24 := m23
  have m24 : γ 0 70 0 (4 * ρ 0 + 2) = ρ 25 := m24
  have m25 : γ 0 70 0 (4 * ρ 0 + 3) = ρ 26 := m25
  obtain ⟨⟨⟨⟨⟨-, c2⟩, c3⟩, c4⟩, c5⟩, -⟩ := hc
  have c2 : γ 2 = rUp (γ 1) 102 0 0 (ρ 21) := c2
  have c3 : γ 3 = rUp (γ 2) 102 0 1 (ρ 21) := c3
  have c4 : γ 4 = rUp (γ 3) 102 0 2 (ρ 21) := c4
  have c5 : γ 5 = rUp (γ 4) 102 0 3 (ρ 21) := c5
  obtain ⟨l0, -⟩ := hl
  have l0 : sn57 [ρ 7, ρ 0, ρ 2, ρ 19, ρ 27, ρ 28, ρ 29, ρ 10, ρ 17] (γ 5) 0 0 (γ 6) := hS57 _ _ _ _ _ l0
  show jn75 [ρ 0, ρ 1, ρ 2, ρ 3, ρ 4, ρ 5, ρ 6, ρ 7, ρ 8, ρ 9, ρ 10, ρ 11, ρ 12, ρ 13, ρ 14] (γ 0) 0 [ρ 0, ρ 1, ρ 2, ρ 3, ρ 4, ρ 5, ρ 6, ρ 7, ρ 8, ρ 9, ρ 10, ρ 11, ρ 12, ρ 13, ρ 14, ρ 15 + 1, ρ 16, ρ 34, ρ 18, ρ 30] (γ 6)
  have hD : en75 (γ 0) (0, [ρ 0, ρ 15], γ 1) = .inl (0, [ρ 0, ρ 15 + 1], γ 6) := by
    unfold en75
    refine (if_pos (show (0 : Nat) = 0 by decide)).trans ?_
    refine (zLet_eq (show _ = γ 1 from rfl)).trans ?_
    refine (zLet_eq (show _ = ρ 0 from rfl)).trans ?_
    refine (zLet_eq (show _ = ρ 15 from rfl)).trans ?_
    refine (zLet_eq m2).trans ?_
    refine (zLet_eq m6).trans ?_
    refine (zLet_eq m15).trans ?_
    refine (zLet_eq m16).trans ?_
    refine (if_neg w_0).trans ?_
    refine (if_neg w_1).trans ?_
    refine (if_neg w_2).trans ?_
    refine (zLet_eq m19).trans ?_
    refine (if_pos w_3).trans ?_
    refine (zLet_eq m20).trans ?_
    refine (zLet_eq m21).trans ?_
    refine (if_neg w_4).trans ?_
    refine (zLet_eq m22).trans ?_
    refine (if_neg w_5).trans ?_
    refine (zLet_eq c2.symm).trans ?_
    refine (if_neg w_6).trans ?_
    refine (zLet_eq m23).trans ?_
    refine (if_neg w_7).trans ?_
    refine (zLet_eq c3.symm).trans ?_
    refine (if_neg w_8).trans ?_
    refine (zLet_eq m24).trans ?_
    refine (if_neg w_9).trans ?_
    refine (zLet_eq c4.symm).trans ?_
    refine (if_neg w_10).trans ?_
    refine (zLet_eq m25).trans ?_
    refine (if_neg w_11).trans ?_
    refine (zLet_eq c5.symm).trans ?_
    refine (zLet_eq (show fn57 [ρ 7, ρ 0] (γ 5) = (0, 0, γ 6) from l0.symm)).trans ?_
    refine (zLet_eq (show _ = γ 6 from rfl)).trans ?_
    rfl
  exact zGoo_ato hJ hD
theorem vn75a0_95 {S : Nat → zSpc} (hS57 : ∀ x g o v gz, S 57 x g o v gz → sn57 x g o v gz) (hS73 : ∀ x g o v gz, S 73 x g o v gz → sn73 x g o v gz) {a : List Int} {g : rHp} : ∀ (ρ : Nat → Int) (γ : Nat → rHp), jn75 a g 0 (zAg (zNA a75_ 0) ρ) (γ 1) → zO 15 S a g q75a0_95 ρ γ → zGl (fun i vs g1 => jn75 a g i vs g1) (sn75 a g) q75a0_95 ρ γ := by
  intro ρ γ hJ h
  obtain ⟨ha, hg, hr, hf, hm, hc, hl⟩ := h
  have ha : a = [ρ 0, ρ 1, ρ 2, ρ 3, ρ 4, ρ 5, ρ 6, ρ 7, ρ 8, ρ 9, ρ 10, ρ 11, ρ 12, ρ 13, ρ 14] := ha
  subst ha
  subst hg
  have hJ : jn75 [ρ 0, ρ 1, ρ 2, ρ 3, ρ 4, ρ 5, ρ 6, ρ 7, ρ 8, ρ 9, ρ 10, ρ 11, ρ 12, ρ 13, ρ 14] (γ 0) 0 [ρ 0, ρ 1, ρ 2, ρ 3, ρ 4, ρ 5, ρ 6, ρ 7, ρ 8, ρ 9, ρ 10, ρ 11, ρ 12, ρ 13, ρ 14, ρ 15, ρ 16, ρ 17, ρ 18, ρ 19] (γ 1) := hJ
  obtain ⟨-, -, -, r3, -, -, -, -, -, -, -, -, -, -, -, -, -, r17, -, -, r20, -⟩ := hr
  have r3 : (3 : Int) ≤ ρ 3 ∧ ρ 3 ≤ 4 := r3
  have r17 : (0 : Int) ≤ ρ 17 ∧ ρ 17 ≤ 0 := r17
  have r20 : (0 : Int) ≤ ρ 20 ∧ ρ 20 ≤ 0 := r20
  obtain ⟨f0, -⟩ := hf
  have f0 : (0 : Int) ≤ ρ 18 + -ρ 15 + (-1) := f0
  obtain ⟨w_0, w_1, w_2, w_3⟩ : (¬ (ρ 15 ≥ ρ 18)) ∧ (¬ (ρ 17 ≠ 0)) ∧ (¬ (ρ 3 ≤ 2)) ∧ (¬ (ρ 20 ≠ 0)) := ⟨by omega, by omega, by omega, by omega⟩
  obtain ⟨-, -, m2, -, -, -, m6, -, -, -, -, -, -, -, -, m15, m16, -, -, m19, -⟩ := hm
  have m2 : γ 0 71 0 (ρ 0) = ρ 3 := m2
  have m6 : γ 0 69 0 (ρ 0) = ρ 7 := m6
  have m15 : γ 1 15 0 77 = ρ 17 := m15
  have m16 : γ 1 15 0 90 = ρ 18 := m16
  have m19 : γ 1 109 0 (ρ 15) = ρ 20 := m19
  show jn75 [ρ 0, ρ 1, ρ 2, ρ 3, ρ 4, ρ 5, ρ 6, ρ 7, ρ 8, ρ 9, ρ 10, ρ 11, ρ 12, ρ 13, ρ 14] (γ 0) 0 [ρ 0, ρ 1, ρ 2, ρ 3, ρ 4, ρ 5, ρ 6, ρ 7, ρ 8, ρ 9, ρ 10, ρ 11, ρ 12, ρ 13, ρ 14, ρ 15 + 1, ρ 16, ρ 17, ρ 18, ρ 19] (γ 1)
  have hD : en75 (γ 0) (0, [ρ 0, ρ 15], γ 1) = .inl (0, [ρ 0, ρ 15 + 1], γ 1) := by
    unfold en75
    refine (if_pos (show (0 : Nat) = 0 by decide)).trans ?_
    refine (zLet_eq (show _ = γ 1 from rfl)).trans ?_
    refine (zLet_eq (show _ = ρ 0 from rfl)).trans ?_
    refine (zLet_eq (show _ = ρ 15 from rfl)).trans ?_
    refine (zLet_eq m2).trans ?_
    refine (zLet_eq m6).trans ?_
    refine (zLet_eq m15).trans ?_
    refine (zLet_eq m16).trans ?_
    refine (if_neg w_0).trans ?_
    refine (if_neg w_1).trans ?_
    refine (if_neg w_2).trans ?_
    refine (zLet_eq m19).trans ?_
    refine (if_neg w_3).trans ?_
    rfl
  exact zGoo_ato hJ hD
theorem yn75 {S : Nat → zSpc} (hS57 : ∀ x g o v gz, S 57 x g o v gz → sn57 x g o v gz) (hS73 : ∀ x g o v gz, S 73 x g o v gz → sn73 x g o v gz) : ∀ x g o v gz, zSem uW uT w75_.2.2.2.1 w75_.2.2.1.1.length S q75 (fun i => q75a.getD i []) (zNA a75_) x g o v gz → sn75 x g o v gz := by
  intro a g o v gz h
  exact zSem_all (l0 := q75) (las := q75a) (S := S) (J := (fun i vs g1 => jn75 a g i vs g1)) (P := sn75 a g) (fun _ => (show zAll _ [q75_0] from (zAll_c (vn75_0 hS57 hS73) zAll_n))) (fun _ => (show zAllI _ 0 [q75a0] from ⟨(show zAll _ [q75a0_0, q75a0_1, q75a0_2, q75a0_3, q75a0_4, q75a0_5, q75a0_6, q75a0_7, q75a0_8, q75a0_9, q75a0_10, q75a0_11, q75a0_12, q75a0_13, q75a0_14, q75a0_15, q75a0_16, q75a0_17, q75a0_18, q75a0_19, q75a0_20, q75a0_21, q75a0_22, q75a0_23, q75a0_24, q75a0_25, q75a0_26, q75a0_27, q75a0_28, q75a0_29, q75a0_30, q75a0_31, q75a0_32, q75a0_33, q75a0_34, q75a0_35, q75a0_36, q75a0_37, q75a0_38, q75a0_39, q75a0_40, q75a0_41, q75a0_42, q75a0_43, q75a0_44, q75a0_45, q75a0_46, q75a0_47, q75a0_48, q75a0_49, q75a0_50, q75a0_51, q75a0_52, q75a0_53, q75a0_54, q75a0_55, q75a0_56, q75a0_57, q75a0_58, q75a0_59, q75a0_60, q75a0_61, q75a0_62, q75a0_63, q75a0_64, q75a0_65, q75a0_66, q75a0_67, q75a0_68, q75a0_69, q75a0_70, q75a0_71, q75a0_72, q75a0_73, q75a0_74, q75a0_75, q75a0_76, q75a0_77, q75a0_78, q75a0_79, q75a0_80, q75a0_81, q75a0_82, q75a0_83, q75a0_84, q75a0_85, q75a0_86, q75a0_87, q75a0_88, q75a0_89, q75a0_90, q75a0_91, q75a0_92, q75a0_93, q75a0_94, q75a0_95] from (zAll_c (vn75a0_0 hS57 hS73) (zAll_c (vn75a0_1 hS57 hS73) (zAll_c (vn75a0_2 hS57 hS73) (zAll_c (vn75a0_3 hS57 hS73) (zAll_c (vn75a0_4 hS57 hS73) (zAll_c (vn75a0_5 hS57 hS73) (zAll_c (vn75a0_6 hS57 hS73) (zAll_c (vn75a0_7 hS57 hS73) (zAll_c (vn75a0_8 hS57 hS73) (zAll_c (vn75a0_9 hS57 hS73) (zAll_c (vn75a0_10 hS57 hS73) (zAll_c (vn75a0_11 hS57 hS73) (zAll_c (vn75a0_12 hS57 hS73) (zAll_c (vn75a0_13 hS57 hS73) (zAll_c (vn75a0_14 hS57 hS73) (zAll_c (vn75a0_15 hS57 hS73) (zAll_c (vn75a0_16 hS57 hS73) (zAll_c (vn75a0_17 hS57 hS73) (zAll_c (vn75a0_18 hS57 hS73) (zAll_c (vn75a0_19 hS57 hS73) (zAll_c (vn75a0_20 hS57 hS73) (zAll_c (vn75a0_21 hS57 hS73) (zAll_c (vn75a0_22 hS57 hS73) (zAll_c (vn75a0_23 hS57 hS73) (zAll_c (vn75a0_24 hS57 hS73) (zAll_c (vn75a0_25 hS57 hS73) (zAll_c (vn75a0_26 hS57 hS73) (zAll_c (vn75a0_27 hS57 hS73) (zAll_c (vn75a0_28 hS57 hS73) (zAll_c (vn75a0_29 hS57 hS73) (zAll_c (vn75a0_30 hS57 hS73) (zAll_c (vn75a0_31 hS57 hS73) (zAll_c (vn75a0_32 hS57 hS73) (zAll_c (vn75a0_33 hS57 hS73) (zAll_c (vn75a0_34 hS57 hS73) (zAll_c (vn75a0_35 hS57 hS73) (zAll_c (vn75a0_36 hS57 hS73) (zAll_c (vn75a0_37 hS57 hS73) (zAll_c (vn75a0_38 hS57 hS73) (zAll_c (vn75a0_39 hS57 hS73) (zAll_c (vn75a0_40 hS57 hS73) (zAll_c (vn75a0_41 hS57 hS73) (zAll_c (vn75a0_42 hS57 hS73) (zAll_c (vn75a0_43 hS57 hS73) (zAll_c (vn75a0_44 hS57 hS73) (zAll_c (vn75a0_45 hS57 hS73) (zAll_c (vn75a0_46 hS57 hS73) (zAll_c (vn75a0_47 hS57 hS73) (zAll_c (vn75a0_48 hS57 hS73) (zAll_c (vn75a0_49 hS57 hS73) (zAll_c (vn75a0_50 hS57 hS73) (zAll_c (vn75a0_51 hS57 hS73) (zAll_c (vn75a0_52 hS57 hS73) (zAll_c (vn75a0_53 hS57 hS73) (zAll_c (vn75a0_54 hS57 hS73) (zAll_c (vn75a0_55 hS57 hS73) (zAll_c (vn75a0_56 hS57 hS73) (zAll_c (vn75a0_57 hS57 hS73) (zAll_c (vn75a0_58 hS57 hS73) (zAll_c (vn75a0_59 hS57 hS73) (zAll_c (vn75a0_60 hS57 hS73) (zAll_c (vn75a0_61 hS57 hS73) (zAll_c (vn75a0_62 hS57 hS73) (zAll_c (vn75a0_63 hS57 hS73) (zAll_c (vn75a0_64 hS57 hS73) (zAll_c (vn75a0_65 hS57 hS73) (zAll_c (vn75a0_66 hS57 hS73) (zAll_c (vn75a0_67 hS57 hS73) (zAll_c (vn75a0_68 hS57 hS73) (zAll_c (vn75a0_69 hS57 hS73) (zAll_c (vn75a0_70 hS57 hS73) (zAll_c (vn75a0_71 hS57 hS73) (zAll_c (vn75a0_72 hS57 hS73) (zAll_c (vn75a0_73 hS57 hS73) (zAll_c (vn75a0_74 hS57 hS73) (zAll_c (vn75a0_75 hS57 hS73) (zAll_c (vn75a0_76 hS57 hS73) (zAll_c (vn75a0_77 hS57 hS73) (zAll_c (vn75a0_78 hS57 hS73) (zAll_c (vn75a0_79 hS57 hS73) (zAll_c (vn75a0_80 hS57 hS73) (zAll_c (vn75a0_81 hS57 hS73) (zAll_c (vn75a0_82 hS57 hS73) (zAll_c (vn75a0_83 hS57 hS73) (zAll_c (vn75a0_84 hS57 hS73) (zAll_c (vn75a0_85 hS57 hS73) (zAll_c (vn75a0_86 hS57 hS73) (zAll_c (vn75a0_87 hS57 hS73) (zAll_c (vn75a0_88 hS57 hS73) (zAll_c (vn75a0_89 hS57 hS73) (zAll_c (vn75a0_90 hS57 hS73) (zAll_c (vn75a0_91 hS57 hS73) (zAll_c (vn75a0_92 hS57 hS73) (zAll_c (vn75a0_93 hS57 hS73) (zAll_c (vn75a0_94 hS57 hS73) (zAll_c (vn75a0_95 hS57 hS73) zAll_n))))))))))))))))))))))))))))))))))))))))))))))))))))))))))))))))))))))))))))))))))))))))))))))))), trivial⟩)) h
