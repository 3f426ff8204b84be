/-! ===== the runs are the functions ===== -/
theorem vn76_0 {S : Nat → zSpc} (hS57 : ∀ x g o v gz, S 57 x g o v gz → sn57 x g o v gz) (hS71 : ∀ x g o v gz, S 71 x g o v gz → sn71 x g o v gz) (hS72 : ∀ x g o v gz, S 72 x g o v gz → sn72 x g o v gz) (hS75 : ∀ x g o v gz, S 75 x g o v gz → sn75 x g o v gz) {a : List Int} {g : rHp} : ∀ (ρ : Nat → Int) (γ : Nat → rHp), zO 15 S a g q76_0 ρ γ → zGl (fun i vs g1 => jn76 a g i vs g1) (sn76 a g) q76_0 ρ γ := by
  intro ρ γ h
  obtain ⟨ha, hg, hr, hf, hm, hc, hl⟩ := h
  have ha : a = [ρ 0, ρ 1, ρ 2, ρ 3, ρ 4, ρ 5, ρ 6, ρ 7, ρ 8, ρ 9, ρ 10, ρ 11, ρ 12, ρ 13, ρ 14] := ha
  subst ha
  subst hg
  obtain ⟨-, c1⟩ := hc
  have c1 : γ 1 = rUp (γ 0) 15 0 76 0 := c1
  show jn76 [ρ 0, ρ 1, ρ 2, ρ 3, ρ 4, ρ 5, ρ 6, ρ 7, ρ 8, ρ 9, ρ 10, ρ 11, ρ 12, ρ 13, ρ 14] (γ 0) 0 [ρ 0, ρ 1, ρ 2, ρ 3, ρ 4, ρ 5, ρ 6, ρ 7, ρ 8, ρ 9, ρ 10, ρ 11, ρ 12, ρ 13, ρ 14, 0, ρ 4, ρ 6, 0] (γ 1)
  have hD : dn76 [ρ 0] (γ 0) = .inl (0, [ρ 0, 0], γ 1) := by
    unfold dn76
    refine (zLet_eq (show _ = ρ 0 from rfl)).trans ?_
    refine (zLet_eq c1.symm).trans ?_
    rfl
  exact zGoo_to hD
theorem vn76a0_0 {S : Nat → zSpc} (hS57 : ∀ x g o v gz, S 57 x g o v gz → sn57 x g o v gz) (hS71 : ∀ x g o v gz, S 71 x g o v gz → sn71 x g o v gz) (hS72 : ∀ x g o v gz, S 72 x g o v gz → sn72 x g o v gz) (hS75 : ∀ x g o v gz, S 75 x g o v gz → sn75 x g o v gz) {a : List Int} {g : rHp} : ∀ (ρ : Nat → Int) (γ : Nat → rHp), jn76 a g 0 (zAg (zNA a76_ 0) ρ) (γ 1) → zO 15 S a g q76a0_0 ρ γ → zGl (fun i vs g1 => jn76 a g i vs g1) (sn76 a g) q76a0_0 ρ γ := by
  intro ρ γ hJ h
  obtain ⟨ha, hg, hr, hf, hm, hc, hl⟩ := h
  have ha : a = [ρ 0, ρ 1, ρ 2, ρ 3, ρ 4, ρ 5, ρ 6, ρ 7, ρ 8, ρ 9, ρ 10, ρ 11, ρ 12, ρ 13, ρ 14] := ha
  subst ha
  subst hg
  have hJ : jn76 [ρ 0, ρ 1, ρ 2, ρ 3, ρ 4, ρ 5, ρ 6, ρ 7, ρ 8, ρ 9, ρ 10, ρ 11, ρ 12, ρ 13, ρ 14] (γ 0) 0 [ρ 0, ρ 1, ρ 2, ρ 3, ρ 4, ρ 5, ρ 6, ρ 7, ρ 8, ρ 9, ρ 10, ρ 11, ρ 12, ρ 13, ρ 14, ρ 15, ρ 16, ρ 17, ρ 18] (γ 1) := hJ
  obtain ⟨f0, -⟩ := hf
  have f0 : (0 : Int) ≤ ρ 15 + -ρ 3 := f0
  have w_0 : ρ 15 ≥ ρ 3 := by omega
  obtain ⟨-, -, m2, -, -, -, -, -, -, -, -, -, -, -, -, m15, -⟩ := hm
  have m2 : γ 0 15 0 17 = ρ 3 := m2
  have m15 : γ 1 15 0 77 = ρ 17 := m15
  show jn76 [ρ 0, ρ 1, ρ 2, ρ 3, ρ 4, ρ 5, ρ 6, ρ 7, ρ 8, ρ 9, ρ 10, ρ 11, ρ 12, ρ 13, ρ 14] (γ 0) 1 [ρ 0, ρ 1, ρ 2, ρ 3, ρ 4, ρ 5, ρ 6, ρ 7, ρ 8, ρ 9, ρ 10, ρ 11, ρ 12, ρ 13, ρ 14, 0, ρ 16, ρ 5, ρ 17, ρ 18, ρ 10, ρ 13] (γ 1)
  have hD : en76 (γ 0) (0, [ρ 0, ρ 15], γ 1) = .inl (1, [ρ 0, 0], γ 1) := by
    unfold en76
    refine (if_pos (show (0 : Nat) = 0 by decide)).trans ?_
    refine (zLet_eq (show _ = γ 1 from rfl)).trans ?_
    refine (zLet_eq (show _ = ρ 0 from rfl)).trans ?_
    refine (zLet_eq (show _ = ρ 15 from rfl)).trans ?_
    refine (zLet_eq m2).trans ?_
    refine (zLet_eq m15).trans ?_
    refine (if_pos w_0).trans ?_
    rfl
  exact zGoo_ato hJ hD
theorem vn76a0_1 {S : Nat → zSpc} (hS57 : ∀ x g o v gz, S 57 x g o v gz → sn57 x g o v gz) (hS71 : ∀ x g o v gz, S 71 x g o v gz → sn71 x g o v gz) (hS72 : ∀ x g o v gz, S 72 x g o v gz → sn72 x g o v gz) (hS75 : ∀ x g o v gz, S 75 x g o v gz → sn75 x g o v gz) {a : List Int} {g : rHp} : ∀ (ρ : Nat → Int) (γ : Nat → rHp), jn76 a g 0 (zAg (zNA a76_ 0) ρ) (γ 1) → zO 15 S a g q76a0_1 ρ γ → zGl (fun i vs g1 => jn76 a g i vs g1) (sn76 a g) q76a0_1 ρ γ := by
  intro ρ γ hJ h
  obtain ⟨ha, hg, hr, hf, hm, hc, hl⟩ := h
  have ha : a = [ρ 0, ρ 1, ρ 2, ρ 3, ρ 4, ρ 5, ρ 6, ρ 7, ρ 8, ρ 9, ρ 10, ρ 11, ρ 12, ρ 13, ρ 14] := ha
  subst ha
  subst hg
  have hJ : jn76 [ρ 0, ρ 1, ρ 2, ρ 3, ρ 4, ρ 5, ρ 6, ρ 7, ρ 8, ρ 9, ρ 10, ρ 11, ρ 12, ρ 13, ρ 14] (γ 0) 0 [ρ 0, ρ 1, ρ 2, ρ 3, ρ 4, ρ 5, ρ 6, ρ 7, ρ 8, ρ 9, ρ 10, ρ 11, ρ 12, ρ 13, ρ 14, ρ 15, ρ 16, ρ 17, ρ 18] (γ 1) := hJ
  obtain ⟨-, -, -, -, -, -, -, -, -, -, -, -, -, -, -, -, -, r17, -⟩ := hr
  have r17 : (1 : Int) ≤ ρ 17 ∧ ρ 17 ≤ 3 := r17
  obtain ⟨f0, -⟩ := hf
  have f0 : (0 : Int) ≤ -ρ 15 + ρ 3 + (-1) := f0
  obtain ⟨w_0, w_1⟩ : (¬ (ρ 15 ≥ ρ 3)) ∧ (ρ 17 ≠ 0) := ⟨by omega, by omega⟩
  obtain ⟨-, -, m2, -, -, -, -, -, -, -, -, -, -, -, -, m15, -⟩ := hm
  have m2 : γ 0 15 0 17 = ρ 3 := m2
  have m15 : γ 1 15 0 77 = ρ 17 := m15
  show jn76 [ρ 0, ρ 1, ρ 2, ρ 3, ρ 4, ρ 5, ρ 6, ρ 7, ρ 8, ρ 9, ρ 10, ρ 11, ρ 12, ρ 13, ρ 14] (γ 0) 1 [ρ 0, ρ 1, ρ 2, ρ 3, ρ 4, ρ 5, ρ 6, ρ 7, ρ 8, ρ 9, ρ 10, ρ 11, ρ 12, ρ 13, ρ 14, 0, ρ 16, ρ 5, ρ 17, ρ 18, ρ 10, ρ 13] (γ 1)
  have hD : en76 (γ 0) (0, [ρ 0, ρ 15], γ 1) = .inl (1, [ρ 0, 0], γ 1) := by
    unfold en76
    refine (if_pos (show (0 : Nat) = 0 by decide)).trans ?_
    refine (zLet_eq (show _ = γ 1 from rfl)).trans ?_
    refine (zLet_eq (show _ = ρ 0 from rfl)).trans ?_
    refine (zLet_eq (show _ = ρ 15 from rfl)).trans ?_
    refine (zLet_eq m2).trans ?_
    refine (zLet_eq m15).trans ?_
    refine (if_neg w_0).trans ?_
    refine (if_pos w_1).trans ?_
    rfl
  exact zGoo_ato hJ hD
theorem vn76a0_2 {S : Nat → zSpc} (hS57 : ∀ x g o v gz, S 57 x g o v gz → sn57 x g o v gz) (hS71 : ∀ x g o v gz, S 71 x g o v gz → sn71 x g o v gz) (hS72 : ∀ x g o v gz, S 72 x g o v gz → sn72 x g o v gz) (hS75 : ∀ x g o v gz, S 75 x g o v gz → sn75 x g o v gz) {a : List Int} {g : rHp} : ∀ (ρ : Nat → Int) (γ : Nat → rHp), jn76 a g 0 (zAg (zNA a76_ 0) ρ) (γ 1) → zO 15 S a g q76a0_2 ρ γ → zGl (fun i vs g1 => jn76 a g i vs g1) (sn76 a g) q76a0_2 ρ γ := by
  intro ρ γ hJ h
  obtain ⟨ha, hg, hr, hf, hm, hc, hl⟩ := h
  have ha : a = [ρ 0, ρ 1, ρ 2, ρ 3, ρ 4, ρ 5, ρ 6, ρ 7, ρ 8, ρ 9, ρ 10, ρ 11, ρ 12, ρ 13, ρ 14] := ha
  subst ha
  subst hg
  have hJ : jn76 [ρ 0, ρ 1, ρ 2, ρ 3, ρ 4, ρ 5, ρ 6, ρ 7, ρ 8, ρ 9, ρ 10, ρ 11, ρ 12, ρ 13, ρ 14] (γ 0) 0 [ρ 0, ρ 1, ρ 2, ρ 3, ρ 4, ρ 5, ρ 6, ρ 7, ρ 8, ρ 9, ρ 10, ρ 11, ρ 12, ρ 13, ρ 14, ρ 15, ρ 16, ρ 17, ρ 18] (γ 1) := hJ
  obtain ⟨-, -, -, -, -, -, -, -, -, -, -, -, -, -, -, -, -, r17, -⟩ := hr
  have r17 : (0 : Int) ≤ ρ 17 ∧ ρ 17 ≤ 0 := r17
  obtain ⟨-, -, -, f3, f4, f5, -⟩ := hf
  have f3 : (0 : Int) ≤ -ρ 20 + ρ 0 := f3
  have f4 : (0 : Int) ≤ ρ 20 + -ρ 0 := f4
  have f5 : (0 : Int) ≤ -ρ 15 + ρ 3 + (-1) := f5
  obtain ⟨w_0, w_1, w_2⟩ : (¬ (ρ 15 ≥ ρ 3)) ∧ (¬ (ρ 17 ≠ 0)) ∧ (ρ 20 = ρ 0) := ⟨by omega, by omega, by omega⟩
  obtain ⟨-, -, m2, -, -, -, -, -, -, -, -, -, -, -, -, m15, -, m17, m18, m19, m20, m21, m22, -⟩ := hm
  have m2 : γ 0 15 0 17 = ρ 3 := m2
  have m15 : γ 1 15 0 77 = ρ 17 := m15
  have m17 : γ 0 67 0 (ρ 15) = ρ 19 := m17
  have m18 : γ 0 92 0 (ρ 19) = ρ 20 := m18
  have m19 : γ 0 68 0 (4 * ρ 15) = ρ 21 := m19
  have m20 : γ 0 68 0 (4 * ρ 15 + 1) = ρ 22 := m20
  have m21 : γ 0 68 0 (4 * ρ 15 + 2) = ρ 23 := m21
  have m22 : γ 0 68 0 (4 * ρ 15 + 3) = ρ 24 := m22
  obtain ⟨⟨⟨⟨⟨-, c2⟩, c3⟩, c4⟩, c5⟩, -⟩ := hc
  have c2 : γ 2 = rUp (γ 1) 102 0 0 (ρ 21) := c2
  have c3 : γ 3 = rUp (γ 2) 102 0 1 (ρ 22) := c3
  have c4 : γ 4 = rUp (γ 3) 102 0 2 (ρ 23) := c4
  have c5 : γ 5 = rUp (γ 4) 102 0 3 (ρ 24) := c5
  obtain ⟨l0, -⟩ := hl
  have l0 : sn57 [ρ 19, (-1), ρ 2, ρ 16, ρ 25, ρ 26, ρ 27, ρ 18, ρ 17] (γ 5) 0 0 (γ 6) := hS57 _ _ _ _ _ l0
  show jn76 [ρ 0, ρ 1, ρ 2, ρ 3, ρ 4, ρ 5, ρ 6, ρ 7, ρ 8, ρ 9, ρ 10, ρ 11, ρ 12, ρ 13, ρ 14] (γ 0) 0 [ρ 0, ρ 1, ρ 2, ρ 3, ρ 4, ρ 5, ρ 6, ρ 7, ρ 8, ρ 9, ρ 10, ρ 11, ρ 12, ρ 13, ρ 14, ρ 15 + 1, ρ 28, ρ 32, ρ 18] (γ 6)
  have hD : en76 (γ 0) (0, [ρ 0, ρ 15], γ 1) = .inl (0, [ρ 0, ρ 15 + 1], γ 6) := by
    unfold en76
    refine (if_pos (show (0 : Nat) = 0 by decide)).trans ?_
    refine (zLet_eq (show _ = γ 1 from rfl)).trans ?_
    refine (zLet_eq (show _ = ρ 0 from rfl)).trans ?_
    refine (zLet_eq (show _ = ρ 15 from rfl)).trans ?_
    refine (zLet_eq m2).trans ?_
    refine (zLet_eq m15).trans ?_
    refine (if_neg w_0).trans ?_
    refine (if_neg w_1).trans ?_
    refine (zLet_eq m17).trans ?_
    refine (zLet_eq m18).trans ?_
    refine (if_pos w_2).trans ?_
    refine (zLet_eq m19).trans ?_
    refine (zLet_eq c2.symm).trans ?_
    refine (zLet_eq m20).trans ?_
    refine (zLet_eq c3.symm).trans ?_
    refine (zLet_eq m21).trans ?_
    refine (zLet_eq c4.symm).trans ?_
    refine (zLet_eq m22).trans ?_
    refine (zLet_eq c5.symm).trans ?_
    refine (zLet_eq (show fn57 [ρ 19, (-1)] (γ 5) = (0, 0, γ 6) from l0.symm)).trans ?_
    refine (zLet_eq (show _ = γ 6 from rfl)).trans ?_
    rfl
  exact zGoo_ato hJ hD
theorem vn76a0_3 {S : Nat → zSpc} (hS57 : ∀ x g o v gz, S 57 x g o v gz → sn57 x g o v gz) (hS71 : ∀ x g o v gz, S 71 x g o v gz → sn71 x g o v gz) (hS72 : ∀ x g o v gz, S 72 x g o v gz → sn72 x g o v gz) (hS75 : ∀ x g o v gz, S 75 x g o v gz → sn75 x g o v gz) {a : List Int} {g : rHp} : ∀ (ρ : Nat → Int) (γ : Nat → rHp), jn76 a g 0 (zAg (zNA a76_ 0) ρ) (γ 1) → zO 15 S a g q76a0_3 ρ γ → zGl (fun i vs g1 => jn76 a g i vs g1) (sn76 a g) q76a0_3 ρ γ := by
  intro ρ γ hJ h
  obtain ⟨ha, hg, hr, hf, hm, hc, hl⟩ := h
  have ha : a = [ρ 0, ρ 1, ρ 2, ρ 3, ρ 4, ρ 5, ρ 6, ρ 7, ρ 8, ρ 9, ρ 10, ρ 11, ρ 12, ρ 13, ρ 14] := ha
  subst ha
  subst hg
  have hJ : jn76 [ρ 0, ρ 1, ρ 2, ρ 3, ρ 4, ρ 5, ρ 6, ρ 7, ρ 8, ρ 9, ρ 10, ρ 11, ρ 12, ρ 13, ρ 14] (γ 0) 0 [ρ 0, ρ 1, ρ 2, ρ 3, ρ 4, ρ 5, ρ 6, ρ 7, ρ 8, ρ 9, ρ 10, ρ 11, ρ 12, ρ 13, ρ 14, ρ 15, ρ 16, ρ 17, ρ 18] (γ 1) := hJ
  obtain ⟨r0, -, -, -, -, -, -, -, -, -, -, -, -, -, -, -, -, r17, -, -, r20, -⟩ := hr
  have r0 : (0 : Int) ≤ ρ 0 ∧ ρ 0 ≤ 21 := r0
  have r17 : (0 : Int) ≤ ρ 17 ∧ ρ 17 ≤ 0 := r17
  have r20 : (0 : Int) ≤ ρ 20 ∧ ρ 20 ≤ 20 := r20
  obtain ⟨f0, -⟩ := hf
  have f0 : (0 : Int) ≤ -ρ 15 + ρ 3 + (-1) := f0
  obtain ⟨w_0, w_1⟩ : (¬ (ρ 15 ≥ ρ 3)) ∧ (¬ (ρ 17 ≠ 0)) := ⟨by omega, by omega⟩
  obtain ⟨-, -, m2, -, -, -, -, -, -, -, -, -, -, -, -, m15, -, m17, m18, -⟩ := hm
  have m2 : γ 0 15 0 17 = ρ 3 := m2
  have m15 : γ 1 15 0 77 = ρ 17 := m15
  have m17 : γ 0 67 0 (ρ 15) = ρ 19 := m17
  have m18 : γ 0 92 0 (ρ 19) = ρ 20 := m18
  obtain ⟨l0, -⟩ := hl
  have l0 : ρ 20 ≠ ρ 0 := l0
  have wl_0 : ¬ (ρ 20 = ρ 0) := by omega
  show jn76 [ρ 0, ρ 1, ρ 2, ρ 3, ρ 4, ρ 5, ρ 6, ρ 7, ρ 8, ρ 9, ρ 10, ρ 11, ρ 12, ρ 13, ρ 14] (γ 0) 0 [ρ 0, ρ 1, ρ 2, ρ 3, ρ 4, ρ 5, ρ 6, ρ 7, ρ 8, ρ 9, ρ 10, ρ 11, ρ 12, ρ 13, ρ 14, ρ 15 + 1, ρ 16, ρ 17, ρ 18] (γ 1)
  have hD : en76 (γ 0) (0, [ρ 0, ρ 15], γ 1) = .inl (0, [ρ 0, ρ 15 + 1], γ 1) := by
    unfold en76
    refine (if_pos (show (0 : Nat) = 0 by decide)).trans ?_
    refine (zLet_eq (show _ = γ 1 from rfl)).trans ?_
    refine (zLet_eq (show _ = ρ 0 from rfl)).trans ?_
    refine (zLet_eq (show _ = ρ 15 from rfl)).trans ?_
    refine (zLet_eq m2).trans ?_
    refine (zLet_eq m15).trans ?_
    refine (if_neg w_0).trans ?_
    refine (if_neg w_1).trans ?_
    refine (zLet_eq m17).trans ?_
    refine (zLet_eq m18).trans ?_
    refine (if_neg wl_0).trans ?_
    rfl
  exact zGoo_ato hJ hD
theorem vn76a1_0 {S : Nat → zSpc} (hS57 : ∀ x g o v gz, S 57 x g o v gz → sn57 x g o v gz) (hS71 : ∀ x g o v gz, S 71 x g o v gz → sn71 x g o v gz) (hS72 : ∀ x g o v gz, S 72 x g o v gz → sn72 x g o v gz) (hS75 : ∀ x g o v gz, S 75 x g o v gz → sn75 x g o v gz) {a : List Int} {g : rHp} : ∀ (ρ : Nat → Int) (γ : Nat → rHp), jn76 a g 1 (zAg (zNA a76_ 1) ρ) (γ 1) → zO 15 S a g q76a1_0 ρ γ → zGl (fun i vs g1 => jn76 a g i vs g1) (sn76 a g) q76a1_0 ρ γ := by
  intro ρ γ hJ h
  obtain ⟨ha, hg, hr, hf, hm, hc, hl⟩ := h
  have ha : a = [ρ 0, ρ 1, ρ 2, ρ 3, ρ 4, ρ 5, ρ 6, ρ 7, ρ 8, ρ 9, ρ 10, ρ 11, ρ 12, ρ 13, ρ 14] := ha
  subst ha
  subst hg
  have hJ : jn76 [ρ 0, ρ 1, ρ 2, ρ 3, ρ 4, ρ 5, ρ 6, ρ 7, ρ 8, ρ 9, ρ 10, ρ 11, ρ 12, ρ 13, ρ 14] (γ 0) 1 [ρ 0, ρ 1, ρ 2, ρ 3, ρ 4, ρ 5, ρ 6, ρ 7, ρ 8, ρ 9, ρ 10, ρ 11, ρ 12, ρ 13, ρ 14, ρ 15, ρ 16, ρ 17, ρ 18, ρ 19, ρ 20, ρ 21] (γ 1) := hJ
  obtain ⟨f0, -⟩ := hf
  have f0 : (0 : Int) ≤ ρ 15 + -ρ 1 := f0
  have w_0 : ρ 15 ≥ ρ 1 := by omega
  obtain ⟨m0, -, -, -, -, -, -, -, -, -, -, -, -, -, -, -, m16, -⟩ := hm
  have m0 : γ 0 15 0 32 = ρ 1 := m0
  have m16 : γ 1 15 0 77 = ρ 18 := m16
  obtain ⟨⟨-, c2⟩, c3⟩ := hc
  have c2 : γ 2 = rUp (γ 1) 15 0 82 0 := c2
  have c3 : γ 3 = rUp (γ 2) 15 0 83 0 := c3
  show jn76 [ρ 0, ρ 1, ρ 2, ρ 3, ρ 4, ρ 5, ρ 6, ρ 7, ρ 8, ρ 9, ρ 10, ρ 11, ρ 12, ρ 13, ρ 14] (γ 0) 2 [ρ 0, ρ 1, ρ 2, ρ 3, ρ 4, ρ 5, ρ 6, ρ 7, ρ 8, ρ 9, ρ 10, ρ 11, ρ 12, ρ 13, ρ 14, ρ 16, ρ 17, ρ 18, ρ 8, ρ 19, ρ 20, 0, 0, ρ 21] (γ 3)
  have hD : en76 (γ 0) (1, [ρ 0, ρ 15], γ 1) = .inl (2, [ρ 0], γ 3) := by
    unfold en76
    refine (if_neg (show ¬ (1 : Nat) = 0 by decide)).trans ?_
    refine (if_pos (show (1 : Nat) = 1 by decide)).trans ?_
    refine (zLet_eq (show _ = γ 1 from rfl)).trans ?_
    refine (zLet_eq (show _ = ρ 0 from rfl)).trans ?_
    refine (zLet_eq (show _ = ρ 15 from rfl)).trans ?_
    refine (zLet_eq m0).trans ?_
    refine (zLet_eq m16).trans ?_
    refine (if_pos w_0).trans ?_
    refine (zLet_eq c2.symm).trans ?_
    refine (zLet_eq c3.symm).trans ?_
    rfl
  exact zGoo_ato hJ hD
theorem vn76a1_1 {S : Nat → zSpc} (hS57 : ∀ x g o v gz, S 57 x g o v gz → sn57 x g o v gz) (hS71 : ∀ x g o v gz, S 71 x g o v gz → sn71 x g o v gz) (hS72 : ∀ x g o v gz, S 72 x g o v gz → sn72 x g o v gz) (hS75 : ∀ x g o v gz, S 75 x g o v gz → sn75 x g o v gz) {a : List Int} {g : rHp} : ∀ (ρ : Nat → Int) (γ : Nat → rHp), jn76 a g 1 (zAg (zNA a76_ 1) ρ) (γ 1) → zO 15 S a g q76a1_1 ρ γ → zGl (fun i vs g1 => jn76 a g i vs g1) (sn76 a g) q76a1_1 ρ γ := by
  intro ρ γ hJ h
  obtain ⟨ha, hg, hr, hf, hm, hc, hl⟩ := h
  have ha : a = [ρ 0, ρ 1, ρ 2, ρ 3, ρ 4, ρ 5, ρ 6, ρ 7, ρ 8, ρ 9, ρ 10, ρ 11, ρ 12, ρ 13, ρ 14] := ha
  subst ha
  subst hg
  have hJ : jn76 [ρ 0, ρ 1, ρ 2, ρ 3, ρ 4, ρ 5, ρ 6, ρ 7, ρ 8, ρ 9, ρ 10, ρ 11, ρ 12, ρ 13, ρ 14] (γ 0) 1 [ρ 0, ρ 1, ρ 2, ρ 3, ρ 4, ρ 5, ρ 6, ρ 7, ρ 8, ρ 9, ρ 10, ρ 11, ρ 12, ρ 13, ρ 14, ρ 15, ρ 16, ρ 17, ρ 18, ρ 19, ρ 20, ρ 21] (γ 1) := hJ
  obtain ⟨-, -, -, -, -, -, -, -, -, -, -, -, -, -, -, -, -, -, r18, -⟩ := hr
  have r18 : (1 : Int) ≤ ρ 18 ∧ ρ 18 ≤ 3 := r18
  obtain ⟨f0, -⟩ := hf
  have f0 : (0 : Int) ≤ -ρ 15 + ρ 1 + (-1) := f0
  obtain ⟨w_0, w_1⟩ : (¬ (ρ 15 ≥ ρ 1)) ∧ (ρ 18 ≠ 0) := ⟨by omega, by omega⟩
  obtain ⟨m0, -, -, -, -, -, -, -, -, -, -, -, -, -, -, -, m16, -⟩ := hm
  have m0 : γ 0 15 0 32 = ρ 1 := m0
  have m16 : γ 1 15 0 77 = ρ 18 := m16
  obtain ⟨⟨-, c2⟩, c3⟩ := hc
  have c2 : γ 2 = rUp (γ 1) 15 0 82 0 := c2
  have c3 : γ 3 = rUp (γ 2) 15 0 83 0 := c3
  show jn76 [ρ 0, ρ 1, ρ 2, ρ 3, ρ 4, ρ 5, ρ 6, ρ 7, ρ 8, ρ 9, ρ 10, ρ 11, ρ 12, ρ 13, ρ 14] (γ 0) 2 [ρ 0, ρ 1, ρ 2, ρ 3, ρ 4, ρ 5, ρ 6, ρ 7, ρ 8, ρ 9, ρ 10, ρ 11, ρ 12, ρ 13, ρ 14, ρ 16, ρ 17, ρ 18, ρ 8, ρ 19, ρ 20, 0, 0, ρ 21] (γ 3)
  have hD : en76 (γ 0) (1, [ρ 0, ρ 15], γ 1) = .inl (2, [ρ 0], γ 3) := by
    unfold en76
    refine (if_neg (show ¬ (1 : Nat) = 0 by decide)).trans ?_
    refine (if_pos (show (1 : Nat) = 1 by decide)).trans ?_
    refine (zLet_eq (show _ = γ 1 from rfl)).trans ?_
    refine (zLet_eq (show _ = ρ 0 from rfl)).trans ?_
    refine (zLet_eq (show _ = ρ 15 from rfl)).trans ?_
    refine (zLet_eq m0).trans ?_
    refine (zLet_eq m16).trans ?_
    refine (if_neg w_0).trans ?_
    refine (if_pos w_1).trans ?_
    refine (zLet_eq c2.symm).trans ?_
    refine (zLet_eq c3.symm).trans ?_
    rfl
  exact zGoo_ato hJ hD
theorem vn76a1_2 {S : Nat → zSpc} (hS57 : ∀ x g o v gz, S 57 x g o v gz → sn57 x g o v gz) (hS71 : ∀ x g o v gz, S 71 x g o v gz → sn71 x g o v gz) (hS72 : ∀ x g o v gz, S 72 x g o v gz → sn72 x g o v gz) (hS75 : ∀ x g o v gz, S 75 x g o v gz → sn75 x g o v gz) {a : List Int} {g : rHp} : ∀ (ρ : Nat → Int) (γ : Nat → rHp), jn76 a g 1 (zAg (zNA a76_ 1) ρ) (γ 1) → zO 15 S a g q76a1_2 ρ γ → zGl (fun i vs g1 => jn76 a g i vs g1) (sn76 a g) q76a1_2 ρ γ := by
  intro ρ γ hJ h
  obtain ⟨ha, hg, hr, hf, hm, hc, hl⟩ := h
  have ha : a = [ρ 0, ρ 1, ρ 2, ρ 3, ρ 4, ρ 5, ρ 6, ρ 7, ρ 8, ρ 9, ρ 10, ρ 11, ρ 12, ρ 13, ρ 14] := ha
  subst ha
  subst hg
  have hJ : jn76 [ρ 0, ρ 1, ρ 2, ρ 3, ρ 4, ρ 5, ρ 6, ρ 7, ρ 8, ρ 9, ρ 10, ρ 11, ρ 12, ρ 13, ρ 14] (γ 0) 1 [ρ 0, ρ 1, ρ 2, ρ 3, ρ 4, ρ 5, ρ 6, ρ 7, ρ 8, ρ 9, ρ 10, ρ 11, ρ 12, ρ 13, ρ 14, ρ 15, ρ 16, ρ 17, ρ 18, ρ 19, ρ 20, ρ 21] (γ 1) := hJ
  obtain ⟨-, -, -, -, -, -, -, -, -, -, -, -, -, -, -, -, -, -, r18, -, -, -, r22, -⟩ := hr
  have r18 : (0 : Int) ≤ ρ 18 ∧ ρ 18 ≤ 0 := r18
  have r22 : (0 : Int) ≤ ρ 22 ∧ ρ 22 ≤ 0 := r22
  obtain ⟨f0, -⟩ := hf
  have f0 : (0 : Int) ≤ -ρ 15 + ρ 1 + (-1) := f0
  obtain ⟨w_0, w_1, w_2⟩ : (¬ (ρ 15 ≥ ρ 1)) ∧ (¬ (ρ 18 ≠ 0)) ∧ (ρ 22 ≤ 0) := ⟨by omega, by omega, by omega⟩
  obtain ⟨m0, -, -, -, -, -, -, -, -, -, -, -, -, -, -, -, m16, -, -, -, m20, -⟩ := hm
  have m0 : γ 0 15 0 32 = ρ 1 := m0
  have m16 : γ 1 15 0 77 = ρ 18 := m16
  have m20 : γ 0 71 0 (ρ 15) = ρ 22 := m20
  show jn76 [ρ 0, ρ 1, ρ 2, ρ 3, ρ 4, ρ 5, ρ 6, ρ 7, ρ 8, ρ 9, ρ 10, ρ 11, ρ 12, ρ 13, ρ 14] (γ 0) 1 [ρ 0, ρ 1, ρ 2, ρ 3, ρ 4, ρ 5, ρ 6, ρ 7, ρ 8, ρ 9, ρ 10, ρ 11, ρ 12, ρ 13, ρ 14, ρ 15 + 1, ρ 16, ρ 17, ρ 18, ρ 19, ρ 20, ρ 21] (γ 1)
  have hD : en76 (γ 0) (1, [ρ 0, ρ 15], γ 1) = .inl (1, [ρ 0, ρ 15 + 1], γ 1) := by
    unfold en76
    refine (if_neg (show ¬ (1 : Nat) = 0 by decide)).trans ?_
    refine (if_pos (show (1 : Nat) = 1 by decide)).trans ?_
    refine (zLet_eq (show _ = γ 1 from rfl)).trans ?_
    refine (zLet_eq (show _ = ρ 0 from rfl)).trans ?_
    refine (zLet_eq (show _ = ρ 15 from rfl)).trans ?_
    refine (zLet_eq m0).trans ?_
    refine (zLet_eq m16).trans ?_
    refine (if_neg w_0).trans ?_
    refine (if_neg w_1).trans ?_
    refine (zLet_eq m20).trans ?_
    refine (if_pos w_2).trans ?_
    rfl
  exact zGoo_ato hJ hD
theorem vn76a1_3 {S : Nat → zSpc} (hS57 : ∀ x g o v gz, S 57 x g o v gz → sn57 x g o v gz) (hS71 : ∀ x g o v gz, S 71 x g o v gz → sn71 x g o v gz) (hS72 : ∀ x g o v gz, S 72 x g o v gz → sn72 x g o v gz) (hS75 : ∀ x g o v gz, S 75 x g o v gz → sn75 x g o v gz) {a : List Int} {g : rHp} : ∀ (ρ : Nat → Int) (γ : Nat → rHp), jn76 a g 1 (zAg (zNA a76_ 1) ρ) (γ 1) → zO 15 S a g q76a1_3 ρ γ → zGl (fun i vs g1 => jn76 a g i vs g1) (sn76 a g) q76a1_3 ρ γ := by
  intro ρ γ hJ h
  obtain ⟨ha, hg, hr, hf, hm, hc, hl⟩ := h
  have ha : a = [ρ 0, ρ 1, ρ 2, ρ 3, ρ 4, ρ 5, ρ 6, ρ 7, ρ 8, ρ 9, ρ 10, ρ 11, ρ 12, ρ 13, ρ 14] := ha
  subst ha
  subst hg
  have hJ : jn76 [ρ 0, ρ 1, ρ 2, ρ 3, ρ 4, ρ 5, ρ 6, ρ 7, ρ 8, ρ 9, ρ 10, ρ 11, ρ 12, ρ 13, ρ 14] (γ 0) 1 [ρ 0, ρ 1, ρ 2, ρ 3, ρ 4, ρ 5, ρ 6, ρ 7, ρ 8, ρ 9, ρ 10, ρ 11, ρ 12, ρ 13, ρ 14, ρ 15, ρ 16, ρ 17, ρ 18, ρ 19, ρ 20, ρ 21] (γ 1) := hJ
  obtain ⟨r0, -, -, -, -, -, -, -, -, -, -, -, -, -, -, -, -, -, r18, -, -, -, r22, -, r24, -⟩ := hr
  have r0 : (0 : Int) ≤ ρ 0 ∧ ρ 0 ≤ 21 := r0
  have r18 : (0 : Int) ≤ ρ 18 ∧ ρ 18 ≤ 0 := r18
  have r22 : (1 : Int) ≤ ρ 22 ∧ ρ 22 ≤ 4 := r22
  have r24 : (0 : Int) ≤ ρ 24 ∧ ρ 24 ≤ 20 := r24
  obtain ⟨f0, -⟩ := hf
  have f0 : (0 : Int) ≤ -ρ 15 + ρ 1 + (-1) := f0
  obtain ⟨w_0, w_1, w_2⟩ : (¬ (ρ 15 ≥ ρ 1)) ∧ (¬ (ρ 18 ≠ 0)) ∧ (¬ (ρ 22 ≤ 0)) := ⟨by omega, by omega, by omega⟩
  obtain ⟨m0, -, -, -, -, -, -, -, -, -, -, -, -, -, -, -, m16, -, -, -, m20, m21, m22, -⟩ := hm
  have m0 : γ 0 15 0 32 = ρ 1 := m0
  have m16 : γ 1 15 0 77 = ρ 18 := m16
  have m20 : γ 0 71 0 (ρ 15) = ρ 22 := m20
  have m21 : γ 0 69 0 (ρ 15) = ρ 23 := m21
  have m22 : γ 0 92 0 (ρ 23) = ρ 24 := m22
  obtain ⟨l0, -⟩ := hl
  have l0 : ρ 24 ≠ ρ 0 := l0
  have wl_0 : ρ 24 ≠ ρ 0 := by omega
  show jn76 [ρ 0, ρ 1, ρ 2, ρ 3, ρ 4, ρ 5, ρ 6, ρ 7, ρ 8, ρ 9, ρ 10, ρ 11, ρ 12, ρ 13, ρ 14] (γ 0) 1 [ρ 0, ρ 1, ρ 2, ρ 3, ρ 4, ρ 5, ρ 6, ρ 7, ρ 8, ρ 9, ρ 10, ρ 11, ρ 12, ρ 13, ρ 14, ρ 15 + 1, ρ 16, ρ 17, ρ 18, ρ 19, ρ 20, ρ 21] (γ 1)
  have hD : en76 (γ 0) (1, [ρ 0, ρ 15], γ 1) = .inl (1, [ρ 0, ρ 15 + 1], γ 1) := by
    unfold en76
    refine (if_neg (show ¬ (1 : Nat) = 0 by decide)).trans ?_
    refine (if_pos (show (1 : Nat) = 1 by decide)).trans ?_
    refine (zLet_eq (show _ = γ 1 from rfl)).trans ?_
    refine (zLet_eq (show _ = ρ 0 from rfl)).trans ?_
    refine (zLet_eq (show _ = ρ 15 from rfl)).trans ?_
    refine (zLet_eq m0).trans ?_
    refine (zLet_eq m16).trans ?_
    refine (if_neg w_0).trans ?_
    refine (if_neg w_1).trans ?_
    refine (zLet_eq m20).trans ?_
    refine (if_neg w_2).trans ?_
    refine (zLet_eq m21).trans ?_
    refine (zLet_eq m22).trans ?_
    refine (if_pos wl_0).trans ?_
    rfl
  exact zGoo_ato hJ hD
theorem vn76a1_4 {S : Nat → zSpc} (hS57 : ∀ x g o v gz, S 57 x g o v gz → sn57 x g o v gz) (hS71 : ∀ x g o v gz, S 71 x g o v gz → sn71 x g o v gz) (hS72 : ∀ x g o v gz, S 72 x g o v gz → sn72 x g o v gz) (hS75 : ∀ x g o v gz, S 75 x g o v gz → sn75 x g o v gz) {a : List Int} {g : rHp} : ∀ (ρ : Nat → Int) (γ : Nat → rHp), jn76 a g 1 (zAg (zNA a76_ 1) ρ) (γ 1) → zO 15 S a g q76a1_4 ρ γ → zGl (fun i vs g1 => jn76 a g i vs g1) (sn76 a g) q76a1_4 ρ γ := by
  intro ρ γ hJ h
  obtain ⟨ha, hg, hr, hf, hm, hc, hl⟩ := h
  have ha : a = [ρ 0, ρ 1, ρ 2, ρ 3, ρ 4, ρ 5, ρ 6, ρ 7, ρ 8, ρ 9, ρ 10, ρ 11, ρ 12, ρ 13, ρ 14] := ha
  subst ha
  subst hg
  have hJ : jn76 [ρ 0, ρ 1, ρ 2, ρ 3, ρ 4, ρ 5, ρ 6, ρ 7, ρ 8, ρ 9, ρ 10, ρ 11, ρ 12, ρ 13, ρ 14] (γ 0) 1 [ρ 0, ρ 1, ρ 2, ρ 3, ρ 4, ρ 5, ρ 6, ρ 7, ρ 8, ρ 9, ρ 10, ρ 11, ρ 12, ρ 13, ρ 14, ρ 15, ρ 16, ρ 17, ρ 18, ρ 19, ρ 20, ρ 21] (γ 1) := hJ
  obtain ⟨-, -, -, -, -, -, -, -, -, -, -, -, -, -, -, -, -, -, r18, -, -, -, r22, -⟩ := hr
  have r18 : (0 : Int) ≤ ρ 18 ∧ ρ 18 ≤ 0 := r18
  have r22 : (1 : Int) ≤ ρ 22 ∧ ρ 22 ≤ 4 := r22
  obtain ⟨f0, -, -, -, f4, f5, -⟩ := hf
  have f0 : (0 : Int) ≤ -ρ 15 + ρ 1 + (-1) := f0
  have f4 : (0 : Int) ≤ -ρ 24 + ρ 0 := f4
  have f5 : (0 : Int) ≤ ρ 24 + -ρ 0 := f5
  obtain ⟨w_0, w_1, w_2, w_3⟩ : (¬ (ρ 15 ≥ ρ 1)) ∧ (¬ (ρ 18 ≠ 0)) ∧ (¬ (ρ 22 ≤ 0)) ∧ (¬ (ρ 24 ≠ ρ 0)) := ⟨by omega, by omega, by omega, by omega⟩
  obtain ⟨m0, -, -, -, -, -, -, -, -, -, -, -, -, -, -, -, m16, -, -, -, m20, m21, m22, -⟩ := hm
  have m0 : γ 0 15 0 32 = ρ 1 := m0
  have m16 : γ 1 15 0 77 = ρ 18 := m16
  have m20 : γ 0 71 0 (ρ 15) = ρ 22 := m20
  have m21 : γ 0 69 0 (ρ 15) = ρ 23 := m21
  have m22 : γ 0 92 0 (ρ 23) = ρ 24 := m22
  obtain ⟨l0, -⟩ := hl
  have l0 : sn75 [ρ 15, ρ 1, ρ 2, ρ 22, ρ 17, ρ 18, ρ 21, ρ 23, ρ 7, ρ 16, ρ 19, ρ 20, ρ 11, ρ 12, ρ 14] (γ 1) 0 0 (γ 2) := hS75 _ _ _ _ _ l0
  show jn76 [ρ 0, ρ 1, ρ 2, ρ 3, ρ 4, ρ 5, ρ 6, ρ 7, ρ 8, ρ 9, ρ 10, ρ 11, ρ 12, ρ 13, ρ 14] (γ 0) 1 [ρ 0, ρ 1, ρ 2, ρ 3, ρ 4, ρ 5, ρ 6, ρ 7, ρ 8, ρ 9, ρ 10, ρ 11, ρ 12, ρ 13, ρ 14, ρ 15 + 1, ρ 28, ρ 25, ρ 26, ρ 19, ρ 16, ρ 27] (γ 2)
  have hD : en76 (γ 0) (1, [ρ 0, ρ 15], γ 1) = .inl (1, [ρ 0, ρ 15 + 1], γ 2) := by
    unfold en76
    refine (if_neg (show ¬ (1 : Nat) = 0 by decide)).trans ?_
    refine (if_pos (show (1 : Nat) = 1 by decide)).trans ?_
    refine (zLet_eq (show _ = γ 1 from rfl)).trans ?_
    refine (zLet_eq (show _ = ρ 0 from rfl)).trans ?_
    refine (zLet_eq (show _ = ρ 15 from rfl)).trans ?_
    refine (zLet_eq m0).trans ?_
    refine (zLet_eq m16).trans ?_
    refine (if_neg w_0).trans ?_
    refine (if_neg w_1).trans ?_
    refine (zLet_eq m20).trans ?_
    refine (if_neg w_2).trans ?_
    refine (zLet_eq m21).trans ?_
    refine (zLet_eq m22).trans ?_
    refine (if_neg w_3).trans ?_
    refine (zLet_eq (show fn75 [ρ 15] (γ 1) = (0, 0, γ 2) from l0.symm)).trans ?_
    refine (zLet_eq (show _ = γ 2 from rfl)).trans ?_
    rfl
  exact zGoo_ato hJ hD
theorem vn76a2_0 {S : Nat → zSpc} (hS57 : ∀ x g o v gz, S 57 x g o v gz → sn57 x g o v gz) (hS71 : ∀ x g o v gz, S 71 x g o v gz → sn71 x g o v gz) (hS72 : ∀ x g o v gz, S 72 x g o v gz → sn72 x g o v gz) (hS75 : ∀ x g o v gz, S 75 x g o v gz → sn75 x g o v gz) {a : List Int} {g : rHp} : ∀ (ρ : Nat → Int) (γ : Nat → rHp), jn76 a g 2 (zAg (zNA a76_ 2) ρ) (γ 1) → zO 15 S a g q76a2_0 ρ γ → zGl (fun i vs g1 => jn76 a g i vs g1) (sn76 a g) q76a2_0 ρ γ := by
  intro ρ γ hJ h
  obtain ⟨ha, hg, hr, hf, hm, hc, hl⟩ := h
  have ha : a = [ρ 0, ρ 1, ρ 2, ρ 3, ρ 4, ρ 5, ρ 6, ρ 7, ρ 8, ρ 9, ρ 10, ρ 11, ρ 12, ρ 13, ρ 14] := ha
  subst ha
  subst hg
  have hJ : jn76 [ρ 0, ρ 1, ρ 2, ρ 3, ρ 4, ρ 5, ρ 6, ρ 7, ρ 8, ρ 9, ρ 10, ρ 11, ρ 12, ρ 13, ρ 14] (γ 0) 2 [ρ 0, ρ 1, ρ 2, ρ 3, ρ 4, ρ 5, ρ 6, ρ 7, ρ 8, ρ 9, ρ 10, ρ 11, ρ 12, ρ 13, ρ 14, ρ 15, ρ 16, ρ 17, ρ 18, ρ 19, ρ 20, ρ 21, ρ 22, ρ 23] (γ 1) := hJ
  obtain ⟨-, -, -, -, -, -, -, -, -, -, -, -, -, -, -, -, -, r17, -⟩ := hr
  have r17 : (1 : Int) ≤ ρ 17 ∧ ρ 17 ≤ 3 := r17
  have w_0 : ρ 17 ≠ 0 := by omega
  obtain ⟨-, -, -, -, -, -, -, -, -, -, -, -, -, -, m14, -, m16, m17, m18, -⟩ := hm
  have m14 : γ 1 15 0 71 = ρ 15 := m14
  have m16 : γ 1 15 0 77 = ρ 17 := m16
  have m17 : γ 1 15 0 73 = ρ 18 := m17
  have m18 : γ 1 15 0 76 = ρ 19 := m18
  show sn76 [ρ 0, ρ 1, ρ 2, ρ 3, ρ 4, ρ 5, ρ 6, ρ 7, ρ 8, ρ 9, ρ 10, ρ 11, ρ 12, ρ 13, ρ 14] (γ 0) 0 0 (γ 1)
  have hD : en76 (γ 0) (2, [ρ 0], γ 1) = .inr (0, 0, γ 1) := by
    unfold en76
    refine (if_neg (show ¬ (2 : Nat) = 0 by decide)).trans ?_
    refine (if_neg (show ¬ (2 : Nat) = 1 by decide)).trans ?_
    refine (if_pos (show (2 : Nat) = 2 by decide)).trans ?_
    refine (zLet_eq (show _ = γ 1 from rfl)).trans ?_
    refine (zLet_eq (show _ = ρ 0 from rfl)).trans ?_
    refine (zLet_eq m14).trans ?_
    refine (zLet_eq m16).trans ?_
    refine (zLet_eq m17).trans ?_
    refine (zLet_eq m18).trans ?_
    refine (if_pos w_0).trans ?_
    rfl
  exact zGoo_aend hJ hD
theorem vn76a2_1 {S : Nat → zSpc} (hS57 : ∀ x g o v gz, S 57 x g o v gz → sn57 x g o v gz) (hS71 : ∀ x g o v gz, S 71 x g o v gz → sn71 x g o v gz) (hS72 : ∀ x g o v gz, S 72 x g o v gz → sn72 x g o v gz) (hS75 : ∀ x g o v gz, S 75 x g o v gz → sn75 x g o v gz) {a : List Int} {g : rHp} : ∀ (ρ : Nat → Int) (γ : Nat → rHp), jn76 a g 2 (zAg (zNA a76_ 2) ρ) (γ 1) → zO 15 S a g q76a2_1 ρ γ → zGl (fun i vs g1 => jn76 a g i vs g1) (sn76 a g) q76a2_1 ρ γ := by
  intro ρ γ hJ h
  obtain ⟨ha, hg, hr, hf, hm, hc, hl⟩ := h
  have ha : a = [ρ 0, ρ 1, ρ 2, ρ 3, ρ 4, ρ 5, ρ 6, ρ 7, ρ 8, ρ 9, ρ 10, ρ 11, ρ 12, ρ 13, ρ 14] := ha
  subst ha
  subst hg
  have hJ : jn76 [ρ 0, ρ 1, ρ 2, ρ 3, ρ 4, ρ 5, ρ 6, ρ 7, ρ 8, ρ 9, ρ 10, ρ 11, ρ 12, ρ 13, ρ 14] (γ 0) 2 [ρ 0, ρ 1, ρ 2, ρ 3, ρ 4, ρ 5, ρ 6, ρ 7, ρ 8, ρ 9, ρ 10, ρ 11, ρ 12, ρ 13, ρ 14, ρ 15, ρ 16, ρ 17, ρ 18, ρ 19, ρ 20, ρ 21, ρ 22, ρ 23] (γ 1) := hJ
  obtain ⟨-, -, -, -, -, -, -, -, -, -, -, -, -, -, -, -, -, r17, -, -, -, -, -, -, r24, -⟩ := hr
  have r17 : (0 : Int) ≤ ρ 17 ∧ ρ 17 ≤ 0 := r17
  have r24 : ((-2147483648) : Int) ≤ ρ 24 ∧ ρ 24 ≤ 1 := r24
  obtain ⟨w_0, w_1⟩ : (¬ (ρ 17 ≠ 0)) ∧ (ρ 24 ≤ 1) := ⟨by omega, by omega⟩
  obtain ⟨-, -, -, -, -, -, -, -, -, -, -, -, -, -, m14, -, m16, m17, m18, -⟩ := hm
  have m14 : γ 1 15 0 71 = ρ 15 := m14
  have m16 : γ 1 15 0 77 = ρ 17 := m16
  have m17 : γ 1 15 0 73 = ρ 18 := m17
  have m18 : γ 1 15 0 76 = ρ 19 := m18
  obtain ⟨⟨⟨⟨-, c2⟩, c3⟩, c4⟩, c5⟩ := hc
  have c2 : γ 2 = rUp (γ 1) 15 0 76 (ρ 24) := c2
  have c3 : γ 3 = rUp (γ 2) 15 0 73 (ρ 25) := c3
  have c4 : γ 4 = rUp (γ 3) 15 0 81 (ρ 15) := c4
  have c5 : γ 5 = rUp (γ 4) 15 0 84 0 := c5
  obtain ⟨l0, l1, -⟩ := hl
  have l0 : zOpP (.iadd) (γ 0) (γ 1) [ρ 19, 1] (ρ 24) := l0
  have l1 : zOpP (.iadd) (γ 0) (γ 1) [ρ 18, 1] (ρ 25) := l1
  show jn76 [ρ 0, ρ 1, ρ 2, ρ 3, ρ 4, ρ 5, ρ 6, ρ 7, ρ 8, ρ 9, ρ 10, ρ 11, ρ 12, ρ 13, ρ 14] (γ 0) 3 [ρ 0, ρ 1, ρ 2, ρ 3, ρ 4, ρ 5, ρ 6, ρ 7, ρ 8, ρ 9, ρ 10, ρ 11, ρ 12, ρ 13, ρ 14, 0, ρ 15, ρ 15, ρ 16, ρ 17, ρ 25, ρ 24, ρ 15, ρ 21, ρ 22, ρ 23] (γ 5)
  have hD : en76 (γ 0) (2, [ρ 0], γ 1) = .inl (3, [ρ 0, 0, ρ 15], γ 5) := by
    unfold en76
    refine (if_neg (show ¬ (2 : Nat) = 0 by decide)).trans ?_
    refine (if_neg (show ¬ (2 : Nat) = 1 by decide)).trans ?_
    refine (if_pos (show (2 : Nat) = 2 by decide)).trans ?_
    refine (zLet_eq (show _ = γ 1 from rfl)).trans ?_
    refine (zLet_eq (show _ = ρ 0 from rfl)).trans ?_
    refine (zLet_eq m14).trans ?_
    refine (zLet_eq m16).trans ?_
    refine (zLet_eq m17).trans ?_
    refine (zLet_eq m18).trans ?_
    refine (if_neg w_0).trans ?_
    refine (zLet_eq (zF2_ok l0)).trans ?_
    refine (zLet_eq c2.symm).trans ?_
    refine (zLet_eq (zF2_ok l1)).trans ?_
    refine (zLet_eq c3.symm).trans ?_
    refine (zLet_eq c4.symm).trans ?_
    refine (if_pos w_1).trans ?_
    refine (zLet_eq c5.symm).trans ?_
    rfl
  exact zGoo_ato hJ hD
theorem vn76a2_2 {S : Nat → zSpc} (hS57 : ∀ x g o v gz, S 57 x g o v gz → sn57 x g o v gz) (hS71 : ∀ x g o v gz, S 71 x g o v gz → sn71 x g o v gz) (hS72 : ∀ x g o v gz, S 72 x g o v gz → sn72 x g o v gz) (hS75 : ∀ x g o v gz, S 75 x g o v gz → sn75 x g o v gz) {a : List Int} {g : rHp} : ∀ (ρ : Nat → Int) (γ : Nat → rHp), jn76 a g 2 (zAg (zNA a76_ 2) ρ) (γ 1) → zO 15 S a g q76a2_2 ρ γ → zGl (fun i vs g1 => jn76 a g i vs g1) (sn76 a g) q76a2_2 ρ γ := by
  intro ρ γ hJ h
  obtain ⟨ha, hg, hr, hf, hm, hc, hl⟩ := h
  have ha : a = [ρ 0, ρ 1, ρ 2, ρ 3, ρ 4, ρ 5, ρ 6, ρ 7, ρ 8, ρ 9, ρ 10, ρ 11, ρ 12, ρ 13, ρ 14] := ha
  subst ha
  subst hg
  have hJ : jn76 [ρ 0, ρ 1, ρ 2, ρ 3, ρ 4, ρ 5, ρ 6, ρ 7, ρ 8, ρ 9, ρ 10, ρ 11, ρ 12, ρ 13, ρ 14] (γ 0) 2 [ρ 0, ρ 1, ρ 2, ρ 3, ρ 4, ρ 5, ρ 6, ρ 7, ρ 8, ρ 9, ρ 10, ρ 11, ρ 12, ρ 13, ρ 14, ρ 15, ρ 16, ρ 17, ρ 18, ρ 19, ρ 20, ρ 21, ρ 22, ρ 23] (γ 1) := hJ
  obtain ⟨-, -, -, -, -, -, -, -, -, -, -, -, -, -, -, -, -, r17, -, -, -, -, -, -, r24, -⟩ := hr
  have r17 : (0 : Int) ≤ ρ 17 ∧ ρ 17 ≤ 0 := r17
  have r24 : (2 : Int) ≤ ρ 24 ∧ ρ 24 ≤ 2147483647 := r24
  obtain ⟨w_0, w_1⟩ : (¬ (ρ 17 ≠ 0)) ∧ (¬ (ρ 24 ≤ 1)) := ⟨by omega, by omega⟩
  obtain ⟨-, -, -, -, -, -, -, -, -, -, -, -, -, -, m14, -, m16, m17, m18, -⟩ := hm
  have m14 : γ 1 15 0 71 = ρ 15 := m14
  have m16 : γ 1 15 0 77 = ρ 17 := m16
  have m17 : γ 1 15 0 73 = ρ 18 := m17
  have m18 : γ 1 15 0 76 = ρ 19 := m18
  obtain ⟨⟨⟨⟨-, c2⟩, c3⟩, c4⟩, c5⟩ := hc
  have c2 : γ 2 = rUp (γ 1) 15 0 76 (ρ 24) := c2
  have c3 : γ 3 = rUp (γ 2) 15 0 73 (ρ 25) := c3
  have c4 : γ 4 = rUp (γ 3) 15 0 81 (ρ 15) := c4
  have c5 : γ 5 = rUp (γ 4) 15 0 84 1 := c5
  obtain ⟨l0, l1, -⟩ := hl
  have l0 : zOpP (.iadd) (γ 0) (γ 1) [ρ 19, 1] (ρ 24) := l0
  have l1 : zOpP (.iadd) (γ 0) (γ 1) [ρ 18, 1] (ρ 25) := l1
  show jn76 [ρ 0, ρ 1, ρ 2, ρ 3, ρ 4, ρ 5, ρ 6, ρ 7, ρ 8, ρ 9, ρ 10, ρ 11, ρ 12, ρ 13, ρ 14] (γ 0) 3 [ρ 0, ρ 1, ρ 2, ρ 3, ρ 4, ρ 5, ρ 6, ρ 7, ρ 8, ρ 9, ρ 10, ρ 11, ρ 12, ρ 13, ρ 14, 0, ρ 15, ρ 15, ρ 16, ρ 17, ρ 25, ρ 24, ρ 15, ρ 21, ρ 22, ρ 23] (γ 5)
  have hD : en76 (γ 0) (2, [ρ 0], γ 1) = .inl (3, [ρ 0, 0, ρ 15], γ 5) := by
    unfold en76
    refine (if_neg (show ¬ (2 : Nat) = 0 by decide)).trans ?_
    refine (if_neg (show ¬ (2 : Nat) = 1 by decide)).trans ?_
    refine (if_pos (show (2 : Nat) = 2 by decide)).trans ?_
    refine (zLet_eq (show _ = γ 1 from rfl)).trans ?_
    refine (zLet_eq (show _ = ρ 0 from rfl)).trans ?_
    refine (zLet_eq m14).trans ?_
    refine (zLet_eq m16).trans ?_
    refine (zLet_eq m17).trans ?_
    refine (zLet_eq m18).trans ?_
    refine (if_neg w_0).trans ?_
    refine (zLet_eq (zF2_ok l0)).trans ?_
    refine (zLet_eq c2.symm).trans ?_
    refine (zLet_eq (zF2_ok l1)).trans ?_
    refine (zLet_eq c3.symm).trans ?_
    refine (zLet_eq c4.symm).trans ?_
    refine (if_neg w_1).trans ?_
    refine (zLet_eq c5.symm).trans ?_
    rfl
  exact zGoo_ato hJ hD
theorem vn76a3_0 {S : Nat → zSpc} (hS57 : ∀ x g o v gz, S 57 x g o v gz → sn57 x g o v gz) (hS71 : ∀ x g o v gz, S 71 x g o v gz → sn71 x g o v gz) (hS72 : ∀ x g o v gz, S 72 x g o v gz → sn72 x g o v gz) (hS75 : ∀ x g o v gz, S 75 x g o v gz → sn75 x g o v gz) {a : List Int} {g : rHp} : ∀ (ρ : Nat → Int) (γ : Nat → rHp), jn76 a g 3 (zAg (zNA a76_ 3) ρ) (γ 1) → zO 15 S a g q76a3_0 ρ γ → zGl (fun i vs g1 => jn76 a g i vs g1) (sn76 a g) q76a3_0 ρ γ := by
  intro ρ γ hJ h
  obtain ⟨ha, hg, hr, hf, hm, hc, hl⟩ := h
  have ha : a = [ρ 0, ρ 1, ρ 2, ρ 3, ρ 4, ρ 5, ρ 6, ρ 7, ρ 8, ρ 9, ρ 10, ρ 11, ρ 12, ρ 13, ρ 14] := ha
  subst ha
  subst hg
  have hJ : jn76 [ρ 0, ρ 1, ρ 2, ρ 3, ρ 4, ρ 5, ρ 6, ρ 7, ρ 8, ρ 9, ρ 10, ρ 11, ρ 12, ρ 13, ρ 14] (γ 0) 3 [ρ 0, ρ 1, ρ 2, ρ 3, ρ 4, ρ 5, ρ 6, ρ 7, ρ 8, ρ 9, ρ 10, ρ 11, ρ 12, ρ 13, ρ 14, ρ 15, ρ 16, ρ 17, ρ 18, ρ 19, ρ 20, ρ 21, ρ 22, ρ 23, ρ 24, ρ 25] (γ 1) := hJ
  obtain ⟨f0, f1, -⟩ := hf
  have f0 : (0 : Int) ≤ -ρ 17 + ρ 16 := f0
  have f1 : (0 : Int) ≤ ρ 15 + -ρ 1 := f1
  obtain ⟨w_0, w_1⟩ : (ρ 15 ≥ ρ 1) ∧ (ρ 17 ≤ ρ 16) := ⟨by omega, by omega⟩
  obtain ⟨m0, -, -, -, -, -, -, -, -, -, -, -, -, -, m14, -, m16, -, m18, -⟩ := hm
  have m0 : γ 0 15 0 32 = ρ 1 := m0
  have m14 : γ 1 15 0 71 = ρ 17 := m14
  have m16 : γ 1 15 0 77 = ρ 19 := m16
  have m18 : γ 1 15 0 76 = ρ 21 := m18
  obtain ⟨⟨-, c2⟩, c3⟩ := hc
  have c2 : γ 2 = rUp (γ 1) 15 0 82 (ρ 16) := c2
  have c3 : γ 3 = rUp (γ 2) 15 0 83 (ρ 17) := c3
  show sn76 [ρ 0, ρ 1, ρ 2, ρ 3, ρ 4, ρ 5, ρ 6, ρ 7, ρ 8, ρ 9, ρ 10, ρ 11, ρ 12, ρ 13, ρ 14] (γ 0) 0 0 (γ 3)
  have hD : en76 (γ 0) (3, [ρ 0, ρ 15, ρ 16], γ 1) = .inr (0, 0, γ 3) := by
    unfold en76
    refine (if_neg (show ¬ (3 : Nat) = 0 by decide)).trans ?_
    refine (if_neg (show ¬ (3 : Nat) = 1 by decide)).trans ?_
    refine (if_neg (show ¬ (3 : Nat) = 2 by decide)).trans ?_
    refine (if_pos (show (3 : Nat) = 3 by decide)).trans ?_
    refine (zLet_eq (show _ = γ 1 from rfl)).trans ?_
    refine (zLet_eq (show _ = ρ 0 from rfl)).trans ?_
    refine (zLet_eq (show _ = ρ 15 from rfl)).trans ?_
    refine (zLet_eq (show _ = ρ 16 from rfl)).trans ?_
    refine (zLet_eq m0).trans ?_
    refine (zLet_eq m14).trans ?_
    refine (zLet_eq m16).trans ?_
    refine (zLet_eq m18).trans ?_
    refine (if_pos w_0).trans ?_
    refine (if_pos w_1).trans ?_
    refine (zLet_eq c2.symm).trans ?_
    refine (zLet_eq c3.symm).trans ?_
    rfl
  exact zGoo_aend hJ hD
theorem vn76a3_1 {S : Nat → zSpc} (hS57 : ∀ x g o v gz, S 57 x g o v gz → sn57 x g o v gz) (hS71 : ∀ x g o v gz, S 71 x g o v gz → sn71 x g o v gz) (hS72 : ∀ x g o v gz, S 72 x g o v gz → sn72 x g o v gz) (hS75 : ∀ x g o v gz, S 75 x g o v gz → sn75 x g o v gz) {a : List Int} {g : rHp} : ∀ (ρ : Nat → Int) (γ : Nat → rHp), jn76 a g 3 (zAg (zNA a76_ 3) ρ) (γ 1) → zO 15 S a g q76a3_1 ρ γ → zGl (fun i vs g1 => jn76 a g i vs g1) (sn76 a g) q76a3_1 ρ γ := by
  intro ρ γ hJ h
  obtain ⟨ha, hg, hr, hf, hm, hc, hl⟩ := h
  have ha : a = [ρ 0, ρ 1, ρ 2, ρ 3, ρ 4, ρ 5, ρ 6, ρ 7, ρ 8, ρ 9, ρ 10, ρ 11, ρ 12, ρ 13, ρ 14] := ha
  subst ha
  subst hg
  have hJ : jn76 [ρ 0, ρ 1, ρ 2, ρ 3, ρ 4, ρ 5, ρ 6, ρ 7, ρ 8, ρ 9, ρ 10, ρ 11, ρ 12, ρ 13, ρ 14] (γ 0) 3 [ρ 0, ρ 1, ρ 2, ρ 3, ρ 4, ρ 5, ρ 6, ρ 7, ρ 8, ρ 9, ρ 10, ρ 11, ρ 12, ρ 13, ρ 14, ρ 15, ρ 16, ρ 17, ρ 18, ρ 19, ρ 20, ρ 21, ρ 22, ρ 23, ρ 24, ρ 25] (γ 1) := hJ
  obtain ⟨f0, f1, -⟩ := hf
  have f0 : (0 : Int) ≤ ρ 17 + -ρ 16 + (-1) := f0
  have f1 : (0 : Int) ≤ ρ 15 + -ρ 1 := f1
  obtain ⟨w_0, w_1⟩ : (ρ 15 ≥ ρ 1) ∧ (¬ (ρ 17 ≤ ρ 16)) := ⟨by omega, by omega⟩
  obtain ⟨m0, -, -, -, -, -, -, -, -, -, -, -, -, -, m14, -, m16, -, m18, -⟩ := hm
  have m0 : γ 0 15 0 32 = ρ 1 := m0
  have m14 : γ 1 15 0 71 = ρ 17 := m14
  have m16 : γ 1 15 0 77 = ρ 19 := m16
  have m18 : γ 1 15 0 76 = ρ 21 := m18
  obtain ⟨⟨-, c2⟩, c3⟩ := hc
  have c2 : γ 2 = rUp (γ 1) 15 0 82 (ρ 16) := c2
  have c3 : γ 3 = rUp (γ 2) 15 0 83 (ρ 17) := c3
  show jn76 [ρ 0, ρ 1, ρ 2, ρ 3, ρ 4, ρ 5, ρ 6, ρ 7, ρ 8, ρ 9, ρ 10, ρ 11, ρ 12, ρ 13, ρ 14] (γ 0) 2 [ρ 0, ρ 1, ρ 2, ρ 3, ρ 4, ρ 5, ρ 6, ρ 7, ρ 8, ρ 9, ρ 10, ρ 11, ρ 12, ρ 13, ρ 14, ρ 17, ρ 18, ρ 19, ρ 20, ρ 21, ρ 22, ρ 16, ρ 17, ρ 25] (γ 3)
  have hD : en76 (γ 0) (3, [ρ 0, ρ 15, ρ 16], γ 1) = .inl (2, [ρ 0], γ 3) := by
    unfold en76
    refine (if_neg (show ¬ (3 : Nat) = 0 by decide)).trans ?_
    refine (if_neg (show ¬ (3 : Nat) = 1 by decide)).trans ?_
    refine (if_neg (show ¬ (3 : Nat) = 2 by decide)).trans ?_
    refine (if_pos (show (3 : Nat) = 3 by decide)).trans ?_
    refine (zLet_eq (show _ = γ 1 from rfl)).trans ?_
    refine (zLet_eq (show _ = ρ 0 from rfl)).trans ?_
    refine (zLet_eq (show _ = ρ 15 from rfl)).trans ?_
    refine (zLet_eq (show _ = ρ 16 from rfl)).trans ?_
    refine (zLet_eq m0).trans ?_
    refine (zLet_eq m14).trans ?_
    refine (zLet_eq m16).trans ?_
    refine (zLet_eq m18).trans ?_
    refine (if_pos w_0).trans ?_
    refine (if_neg w_1).trans ?_
    refine (zLet_eq c2.symm).trans ?_
    refine (zLet_eq c3.symm).trans ?_
    rfl
  exact zGoo_ato hJ hD
theorem vn76a3_2 {S : Nat → zSpc} (hS57 : ∀ x g o v gz, S 57 x g o v gz → sn57 x g o v gz) (hS71 : ∀ x g o v gz, S 71 x g o v gz → sn71 x g o v gz) (hS72 : ∀ x g o v gz, S 72 x g o v gz → sn72 x g o v gz) (hS75 : ∀ x g o v gz, S 75 x g o v gz → sn75 x g o v gz) {a : List Int} {g : rHp} : ∀ (ρ : Nat → Int) (γ : Nat → rHp), jn76 a g 3 (zAg (zNA a76_ 3) ρ) (γ 1) → zO 15 S a g q76a3_2 ρ γ → zGl (fun i vs g1 => jn76 a g i vs g1) (sn76 a g) q76a3_2 ρ γ := by
  intro ρ γ hJ h
  obtain ⟨ha, hg, hr, hf, hm, hc, hl⟩ := h
  have ha : a = [ρ 0, ρ 1, ρ 2, ρ 3, ρ 4, ρ 5, ρ 6, ρ 7, ρ 8, ρ 9, ρ 10, ρ 11, ρ 12, ρ 13, ρ 14] := ha
  subst ha
  subst hg
  have hJ : jn76 [ρ 0, ρ 1, ρ 2, ρ 3, ρ 4, ρ 5, ρ 6, ρ 7, ρ 8, ρ 9, ρ 10, ρ 11, ρ 12, ρ 13, ρ 14] (γ 0) 3 [ρ 0, ρ 1, ρ 2, ρ 3, ρ 4, ρ 5, ρ 6, ρ 7, ρ 8, ρ 9, ρ 10, ρ 11, ρ 12, ρ 13, ρ 14, ρ 15, ρ 16, ρ 17, ρ 18, ρ 19, ρ 20, ρ 21, ρ 22, ρ 23, ρ 24, ρ 25] (γ 1) := hJ
  obtain ⟨-, -, -, -, -, -, -, -, -, -, -, -, -, -, -, -, -, -, -, r19, -⟩ := hr
  have r19 : (1 : Int) ≤ ρ 19 ∧ ρ 19 ≤ 3 := r19
  obtain ⟨f0, f1, -⟩ := hf
  have f0 : (0 : Int) ≤ -ρ 17 + ρ 16 := f0
  have f1 : (0 : Int) ≤ -ρ 15 + ρ 1 + (-1) := f1
  obtain ⟨w_0, w_1, w_2⟩ : (¬ (ρ 15 ≥ ρ 1)) ∧ (ρ 19 ≠ 0) ∧ (ρ 17 ≤ ρ 16) := ⟨by omega, by omega, by omega⟩
  obtain ⟨m0, -, -, -, -, -, -, -, -, -, -, -, -, -, m14, -, m16, -, m18, -⟩ := hm
  have m0 : γ 0 15 0 32 = ρ 1 := m0
  have m14 : γ 1 15 0 71 = ρ 17 := m14
  have m16 : γ 1 15 0 77 = ρ 19 := m16
  have m18 : γ 1 15 0 76 = ρ 21 := m18
  obtain ⟨⟨-, c2⟩, c3⟩ := hc
  have c2 : γ 2 = rUp (γ 1) 15 0 82 (ρ 16) := c2
  have c3 : γ 3 = rUp (γ 2) 15 0 83 (ρ 17) := c3
  show sn76 [ρ 0, ρ 1, ρ 2, ρ 3, ρ 4, ρ 5, ρ 6, ρ 7, ρ 8, ρ 9, ρ 10, ρ 11, ρ 12, ρ 13, ρ 14] (γ 0) 0 0 (γ 3)
  have hD : en76 (γ 0) (3, [ρ 0, ρ 15, ρ 16], γ 1) = .inr (0, 0, γ 3) := by
    unfold en76
    refine (if_neg (show ¬ (3 : Nat) = 0 by decide)).trans ?_
    refine (if_neg (show ¬ (3 : Nat) = 1 by decide)).trans ?_
    refine (if_neg (show ¬ (3 : Nat) = 2 by decide)).trans ?_
    refine (if_pos (show (3 : Nat) = 3 by decide)).trans ?_
    refine (zLet_eq (show _ = γ 1 from rfl)).trans ?_
    refine (zLet_eq (show _ = ρ 0 from rfl)).trans ?_
    refine (zLet_eq (show _ = ρ 15 from rfl)).trans ?_
    refine (zLet_eq (show _ = ρ 16 from rfl)).trans ?_
    refine (zLet_eq m0).trans ?_
    refine (zLet_eq m14).trans ?_
    refine (zLet_eq m16).trans ?_
    refine (zLet_eq m18).trans ?_
    refine (if_neg w_0).trans ?_
    refine (if_pos w_1).trans ?_
    refine (if_pos w_2).trans ?_
    refine (zLet_eq c2.symm).trans ?_
    refine (zLet_eq c3.symm).trans ?_
    rfl
  exact zGoo_aend hJ hD
theorem vn76a3_3 {S : Nat → zSpc} (hS57 : ∀ x g o v gz, S 57 x g o v gz → sn57 x g o v gz) (hS71 : ∀ x g o v gz, S 71 x g o v gz → sn71 x g o v gz) (hS72 : ∀ x g o v gz, S 72 x g o v gz → sn72 x g o v gz) (hS75 : ∀ x g o v gz, S 75 x g o v gz → sn75 x g o v gz) {a : List Int} {g : rHp} : ∀ (ρ : Nat → Int) (γ : Nat → rHp), jn76 a g 3 (zAg (zNA a76_ 3) ρ) (γ 1) → zO 15 S a g q76a3_3 ρ γ → zGl (fun i vs g1 => jn76 a g i vs g1) (sn76 a g) q76a3_3 ρ γ := by
  intro ρ γ hJ h
  obtain ⟨ha, hg, hr, hf, hm, hc, hl⟩ := h
  have ha : a = [ρ 0, ρ 1, ρ 2, ρ 3, ρ 4, ρ 5, ρ 6, ρ 7, ρ 8, ρ 9, ρ 10, ρ 11, ρ 12, ρ 13, ρ 14] := ha
  subst ha
  subst hg
  have hJ : jn76 [ρ 0, ρ 1, ρ 2, ρ 3, ρ 4, ρ 5, ρ 6, ρ 7, ρ 8, ρ 9, ρ 10, ρ 11, ρ 12, ρ 13, ρ 14] (γ 0) 3 [ρ 0, ρ 1, ρ 2, ρ 3, ρ 4, ρ 5, ρ 6, ρ 7, ρ 8, ρ 9, ρ 10, ρ 11, ρ 12, ρ 13, ρ 14, ρ 15, ρ 16, ρ 17, ρ 18, ρ 19, ρ 20, ρ 21, ρ 22, ρ 23, ρ 24, ρ 25] (γ 1) := hJ
  obtain ⟨-, -, -, -, -, -, -, -, -, -, -, -, -, -, -, -, -, -, -, r19, -⟩ := hr
  have r19 : (1 : Int) ≤ ρ 19 ∧ ρ 19 ≤ 3 := r19
  obtain ⟨f0, f1, -⟩ := hf
  have f0 : (0 : Int) ≤ ρ 17 + -ρ 16 + (-1) := f0
  have f1 : (0 : Int) ≤ -ρ 15 + ρ 1 + (-1) := f1
  obtain ⟨w_0, w_1, w_2⟩ : (¬ (ρ 15 ≥ ρ 1)) ∧ (ρ 19 ≠ 0) ∧ (¬ (ρ 17 ≤ ρ 16)) := ⟨by omega, by omega, by omega⟩
  obtain ⟨m0, -, -, -, -, -, -, -, -, -, -, -, -, -, m14, -, m16, -, m18, -⟩ := hm
  have m0 : γ 0 15 0 32 = ρ 1 := m0
  have m14 : γ 1 15 0 71 = ρ 17 := m14
  have m16 : γ 1 15 0 77 = ρ 19 := m16
  have m18 : γ 1 15 0 76 = ρ 21 := m18
  obtain ⟨⟨-, c2⟩, c3⟩ := hc
  have c2 : γ 2 = rUp (γ 1) 15 0 82 (ρ 16) := c2
  have c3 : γ 3 = rUp (γ 2) 15 0 83 (ρ 17) := c3
  show jn76 [ρ 0, ρ 1, ρ 2, ρ 3, ρ 4, ρ 5, ρ 6, ρ 7, ρ 8, ρ 9, ρ 10, ρ 11, ρ 12, ρ 13, ρ 14] (γ 0) 2 [ρ 0, ρ 1, ρ 2, ρ 3, ρ 4, ρ 5, ρ 6, ρ 7, ρ 8, ρ 9, ρ 10, ρ 11, ρ 12, ρ 13, ρ 14, ρ 17, ρ 18, ρ 19, ρ 20, ρ 21, ρ 22, ρ 16, ρ 17, ρ 25] (γ 3)
  have hD : en76 (γ 0) (3, [ρ 0, ρ 15, ρ 16], γ 1) = .inl (2, [ρ 0], γ 3) := by
    unfold en76
    refine (if_neg (show ¬ (3 : Nat) = 0 by decide)).trans ?_
    refine (if_neg (show ¬ (3 : Nat) = 1 by decide)).trans ?_
    refine (if_neg (show ¬ (3 : Nat) = 2 by decide)).trans ?_
    refine (if_pos (show (3 : Nat) = 3 by decide)).trans ?_
    refine (zLet_eq (show _ = γ 1 from rfl)).trans ?_
    refine (zLet_eq (show _ = ρ 0 from rfl)).trans ?_
    refine (zLet_eq (show _ = ρ 15 from rfl)).trans ?_
    refine (zLet_eq (show _ = ρ 16 from rfl)).trans ?_
    refine (zLet_eq m0).trans ?_
    refine (zLet_eq m14).trans ?_
    refine (zLet_eq m16).trans ?_
    refine (zLet_eq m18).trans ?_
    refine (if_neg w_0).trans ?_
    refine (if_pos w_1).trans ?_
    refine (if_neg w_2).trans ?_
    refine (zLet_eq c2.symm).trans ?_
    refine (zLet_eq c3.symm).trans ?_
    rfl
  exact zGoo_ato hJ hD
theorem vn76a3_4 {S : Nat → zSpc} (hS57 : ∀ x g o v gz, S 57 x g o v gz → sn57 x g o v gz) (hS71 : ∀ x g o v gz, S 71 x g o v gz → sn71 x g o v gz) (hS72 : ∀ x g o v gz, S 72 x g o v gz → sn72 x g o v gz) (hS75 : ∀ x g o v gz, S 75 x g o v gz → sn75 x g o v gz) {a : List Int} {g : rHp} : ∀ (ρ : Nat → Int) (γ : Nat → rHp), jn76 a g 3 (zAg (zNA a76_ 3) ρ) (γ 1) → zO 15 S a g q76a3_4 ρ γ → zGl (fun i vs g1 => jn76 a g i vs g1) (sn76 a g) q76a3_4 ρ γ := by
  intro ρ γ hJ h
  obtain ⟨ha, hg, hr, hf, hm, hc, hl⟩ := h
  have ha : a = [ρ 0, ρ 1, ρ 2, ρ 3, ρ 4, ρ 5, ρ 6, ρ 7, ρ 8, ρ 9, ρ 10, ρ 11, ρ 12, ρ 13, ρ 14] := ha
  subst ha
  subst hg
  have hJ : jn76 [ρ 0, ρ 1, ρ 2, ρ 3, ρ 4, ρ 5, ρ 6, ρ 7, ρ 8, ρ 9, ρ 10, ρ 11, ρ 12, ρ 13, ρ 14] (γ 0) 3 [ρ 0, ρ 1, ρ 2, ρ 3, ρ 4, ρ 5, ρ 6, ρ 7, ρ 8, ρ 9, ρ 10, ρ 11, ρ 12, ρ 13, ρ 14, ρ 15, ρ 16, ρ 17, ρ 18, ρ 19, ρ 20, ρ 21, ρ 22, ρ 23, ρ 24, ρ 25] (γ 1) := hJ
  obtain ⟨-, -, -, -, -, -, -, -, -, -, -, -, -, -, -, -, -, -, -, r19, -, -, -, -, -, -, r26, -⟩ := hr
  have r19 : (0 : Int) ≤ ρ 19 ∧ ρ 19 ≤ 0 := r19
  have r26 : (1 : Int) ≤ ρ 26 ∧ ρ 26 ≤ 4 := r26
  obtain ⟨f0, -⟩ := hf
  have f0 : (0 : Int) ≤ -ρ 15 + ρ 1 + (-1) := f0
  obtain ⟨w_0, w_1, w_2⟩ : (¬ (ρ 15 ≥ ρ 1)) ∧ (¬ (ρ 19 ≠ 0)) ∧ (ρ 26 ≠ 0) := ⟨by omega, by omega, by omega⟩
  obtain ⟨m0, -, -, -, -, -, -, -, -, -, -, -, -, -, m14, -, m16, -, m18, -, -, -, -, m23, -⟩ := hm
  have m0 : γ 0 15 0 32 = ρ 1 := m0
  have m14 : γ 1 15 0 71 = ρ 17 := m14
  have m16 : γ 1 15 0 77 = ρ 19 := m16
  have m18 : γ 1 15 0 76 = ρ 21 := m18
  have m23 : γ 0 71 0 (ρ 15) = ρ 26 := m23
  show jn76 [ρ 0, ρ 1, ρ 2, ρ 3, ρ 4, ρ 5, ρ 6, ρ 7, ρ 8, ρ 9, ρ 10, ρ 11, ρ 12, ρ 13, ρ 14] (γ 0) 3 [ρ 0, ρ 1, ρ 2, ρ 3, ρ 4, ρ 5, ρ 6, ρ 7, ρ 8, ρ 9, ρ 10, ρ 11, ρ 12, ρ 13, ρ 14, ρ 15 + 1, ρ 16, ρ 17, ρ 18, ρ 19, ρ 20, ρ 21, ρ 22, ρ 23, ρ 24, ρ 25] (γ 1)
  have hD : en76 (γ 0) (3, [ρ 0, ρ 15, ρ 16], γ 1) = .inl (3, [ρ 0, ρ 15 + 1, ρ 16], γ 1) := by
    unfold en76
    refine (if_neg (show ¬ (3 : Nat) = 0 by decide)).trans ?_
    refine (if_neg (show ¬ (3 : Nat) = 1 by decide)).trans ?_
    refine (if_neg (show ¬ (3 : Nat) = 2 by decide)).trans ?_
    refine (if_pos (show (3 : Nat) = 3 by decide)).trans ?_
    refine (zLet_eq (show _ = γ 1 from rfl)).trans ?_
    refine (zLet_eq (show _ = ρ 0 from rfl)).trans ?_
    refine (zLet_eq (show _ = ρ 15 from rfl)).trans ?_
    refine (zLet_eq (show _ = ρ 16 from rfl)).trans ?_
    refine (zLet_eq m0).trans ?_
    refine (zLet_eq m14).trans ?_
    refine (zLet_eq m16).trans ?_
    refine (zLet_eq m18).trans ?_
    refine (if_neg w_0).trans ?_
    refine (if_neg w_1).trans ?_
    refine (zLet_eq m23).trans ?_
    refine (if_pos w_2).trans ?_
    rfl
  exact zGoo_ato hJ hD
theorem vn76a3_5 {S : Nat → zSpc} (hS57 : ∀ x g o v gz, S 57 x g o v gz → sn57 x g o v gz) (hS71 : ∀ x g o v gz, S 71 x g o v gz → sn71 x g o v gz) (hS72 : ∀ x g o v gz, S 72 x g o v gz → sn72 x g o v gz) (hS75 : ∀ x g o v gz, S 75 x g o v gz → sn75 x g o v gz) {a : List Int} {g : rHp} : ∀ (ρ : Nat → Int) (γ : Nat → rHp), jn76 a g 3 (zAg (zNA a76_ 3) ρ) (γ 1) → zO 15 S a g q76a3_5 ρ γ → zGl (fun i vs g1 => jn76 a g i vs g1) (sn76 a g) q76a3_5 ρ γ := by
  intro ρ γ hJ h
  obtain ⟨ha, hg, hr, hf, hm, hc, hl⟩ := h
  have ha : a = [ρ 0, ρ 1, ρ 2, ρ 3, ρ 4, ρ 5, ρ 6, ρ 7, ρ 8, ρ 9, ρ 10, ρ 11, ρ 12, ρ 13, ρ 14] := ha
  subst ha
  subst hg
  have hJ : jn76 [ρ 0, ρ 1, ρ 2, ρ 3, ρ 4, ρ 5, ρ 6, ρ 7, ρ 8, ρ 9, ρ 10, ρ 11, ρ 12, ρ 13, ρ 14] (γ 0) 3 [ρ 0, ρ 1, ρ 2, ρ 3, ρ 4, ρ 5, ρ 6, ρ 7, ρ 8, ρ 9, ρ 10, ρ 11, ρ 12, ρ 13, ρ 14, ρ 15, ρ 16, ρ 17, ρ 18, ρ 19, ρ 20, ρ 21, ρ 22, ρ 23, ρ 24, ρ 25] (γ 1) := hJ
  obtain ⟨r0, -, -, -, -, -, -, -, -, -, -, -, -, -, -, -, -, -, -, r19, -, -, -, -, -, -, r26, -, r28, -⟩ := hr
  have r0 : (0 : Int) ≤ ρ 0 ∧ ρ 0 ≤ 21 := r0
  have r19 : (0 : Int) ≤ ρ 19 ∧ ρ 19 ≤ 0 := r19
  have r26 : (0 : Int) ≤ ρ 26 ∧ ρ 26 ≤ 0 := r26
  have r28 : (0 : Int) ≤ ρ 28 ∧ ρ 28 ≤ 20 := r28
  obtain ⟨f0, -⟩ := hf
  have f0 : (0 : Int) ≤ -ρ 15 + ρ 1 + (-1) := f0
  obtain ⟨w_0, w_1, w_2⟩ : (¬ (ρ 15 ≥ ρ 1)) ∧ (¬ (ρ 19 ≠ 0)) ∧ (¬ (ρ 26 ≠ 0)) := ⟨by omega, by omega, by omega⟩
  obtain ⟨m0, -, -, -, -, -, -, -, -, -, -, -, -, -, m14, -, m16, -, m18, -, -, -, -, m23, m24, m25, -⟩ := hm
  have m0 : γ 0 15 0 32 = ρ 1 := m0
  have m14 : γ 1 15 0 71 = ρ 17 := m14
  have m16 : γ 1 15 0 77 = ρ 19 := m16
  have m18 : γ 1 15 0 76 = ρ 21 := m18
  have m23 : γ 0 71 0 (ρ 15) = ρ 26 := m23
  have m24 : γ 0 69 0 (ρ 15) = ρ 27 := m24
  have m25 : γ 0 92 0 (ρ 27) = ρ 28 := m25
  obtain ⟨l0, -⟩ := hl
  have l0 : ρ 28 ≠ ρ 0 := l0
  have wl_0 : ρ 28 ≠ ρ 0 := by omega
  show jn76 [ρ 0, ρ 1, ρ 2, ρ 3, ρ 4, ρ 5, ρ 6, ρ 7, ρ 8, ρ 9, ρ 10, ρ 11, ρ 12, ρ 13, ρ 14] (γ 0) 3 [ρ 0, ρ 1, ρ 2, ρ 3, ρ 4, ρ 5, ρ 6, ρ 7, ρ 8, ρ 9, ρ 10, ρ 11, ρ 12, ρ 13, ρ 14, ρ 15 + 1, ρ 16, ρ 17, ρ 18, ρ 19, ρ 20, ρ 21, ρ 22, ρ 23, ρ 24, ρ 25] (γ 1)
  have hD : en76 (γ 0) (3, [ρ 0, ρ 15, ρ 16], γ 1) = .inl (3, [ρ 0, ρ 15 + 1, ρ 16], γ 1) := by
    unfold en76
    refine (if_neg (show ¬ (3 : Nat) = 0 by decide)).trans ?_
    refine (if_neg (show ¬ (3 : Nat) = 1 by decide)).trans ?_
    refine (if_neg (show ¬ (3 : Nat) = 2 by decide)).trans ?_
    refine (if_pos (show (3 : Nat) = 3 by decide)).trans ?_
    refine (zLet_eq (show _ = γ 1 from rfl)).trans ?_
    refine (zLet_eq (show _ = ρ 0 from rfl)).trans ?_
    refine (zLet_eq (show _ = ρ 15 from rfl)).trans ?_
    refine (zLet_eq (show _ = ρ 16 from rfl)).trans ?_
    refine (zLet_eq m0).trans ?_
    refine (zLet_eq m14).trans ?_
    refine (zLet_eq m16).trans ?_
    refine (zLet_eq m18).trans ?_
    refine (if_neg w_0).trans ?_
    refine (if_neg w_1).trans ?_
    refine (zLet_eq m23).trans ?_
    refine (if_neg w_2).trans ?_
    refine (zLet_eq m24).trans ?_
    refine (zLet_eq m25).trans ?_
    refine (if_pos wl_0).trans ?_
    rfl
  exact zGoo_ato hJ hD
theorem vn76a3_6 {S : Nat → zSpc} (hS57 : ∀ x g o v gz, S 57 x g o v gz → sn57 x g o v gz) (hS71 : ∀ x g o v gz, S 71 x g o v gz → sn71 x g o v gz) (hS72 : ∀ x g o v gz, S 72 x g o v gz → sn72 x g o v gz) (hS75 : ∀ x g o v gz, S 75 x g o v gz → sn75 x g o v gz) {a : List Int} {g : rHp} : ∀ (ρ : Nat → Int) (γ : Nat → rHp), jn76 a g 3 (zAg (zNA a76_ 3) ρ) (γ 1) → zO 15 S a g q76a3_6 ρ γ → zGl (fun i vs g1 => jn76 a g i vs g1) (sn76 a g) q76a3_6 ρ γ := by
  intro ρ γ hJ h
  obtain ⟨ha, hg, hr, hf, hm, hc, hl⟩ := h
  have ha : a = [ρ 0, ρ 1, ρ 2, ρ 3, ρ 4, ρ 5, ρ 6, ρ 7, ρ 8, ρ 9, ρ 10, ρ 11, ρ 12, ρ 13, ρ 14] := ha
  subst ha
  subst hg
  have hJ : jn76 [ρ 0, ρ 1, ρ 2, ρ 3, ρ 4, ρ 5, ρ 6, ρ 7, ρ 8, ρ 9, ρ 10, ρ 11, ρ 12, ρ 13, ρ 14] (γ 0) 3 [ρ 0, ρ 1, ρ 2, ρ 3, ρ 4, ρ 5, ρ 6, ρ 7, ρ 8, ρ 9, ρ 10, ρ 11, ρ 12, ρ 13, ρ 14, ρ 15, ρ 16, ρ 17, ρ 18, ρ 19, ρ 20, ρ 21, ρ 22, ρ 23, ρ 24, ρ 25] (γ 1) := hJ
  obtain ⟨-, -, -, -, -, -, -, -, -, -, -, -, -, -, -, -, -, -, -, r19, -, r21, -, -, -, -, r26, -⟩ := hr
  have r19 : (0 : Int) ≤ ρ 19 ∧ ρ 19 ≤ 0 := r19
  have r21 : (1 : Int) ≤ ρ 21 ∧ ρ 21 ≤ 1 := r21
  have r26 : (0 : Int) ≤ ρ 26 ∧ ρ 26 ≤ 0 := r26
  obtain ⟨f0, -, -, -, f4, f5, -⟩ := hf
  have f0 : (0 : Int) ≤ -ρ 15 + ρ 1 + (-1) := f0
  have f4 : (0 : Int) ≤ -ρ 28 + ρ 0 := f4
  have f5 : (0 : Int) ≤ ρ 28 + -ρ 0 := f5
  obtain ⟨w_0, w_1, w_2, w_3, w_4⟩ : (¬ (ρ 15 ≥ ρ 1)) ∧ (¬ (ρ 19 ≠ 0)) ∧ (¬ (ρ 26 ≠ 0)) ∧ (¬ (ρ 28 ≠ ρ 0)) ∧ (ρ 21 = 1) := ⟨by omega, by omega, by omega, by omega, by omega⟩
  obtain ⟨m0, -, -, -, -, -, -, -, -, -, -, -, -, -, m14, -, m16, -, m18, -, -, -, -, m23, m24, m25, -⟩ := hm
  have m0 : γ 0 15 0 32 = ρ 1 := m0
  have m14 : γ 1 15 0 71 = ρ 17 := m14
  have m16 : γ 1 15 0 77 = ρ 19 := m16
  have m18 : γ 1 15 0 76 = ρ 21 := m18
  have m23 : γ 0 71 0 (ρ 15) = ρ 26 := m23
  have m24 : γ 0 69 0 (ρ 15) = ρ 27 := m24
  have m25 : γ 0 92 0 (ρ 27) = ρ 28 := m25
  obtain ⟨l0, -⟩ := hl
  have l0 : sn72 [ρ 15, ρ 29, ρ 1, ρ 18, ρ 19, ρ 14, ρ 2, ρ 7, ρ 17, ρ 21, ρ 22, ρ 23, ρ 24] (γ 1) 0 0 (γ 2) := hS72 _ _ _ _ _ l0
  show jn76 [ρ 0, ρ 1, ρ 2, ρ 3, ρ 4, ρ 5, ρ 6, ρ 7, ρ 8, ρ 9, ρ 10, ρ 11, ρ 12, ρ 13, ρ 14] (γ 0) 3 [ρ 0, ρ 1, ρ 2, ρ 3, ρ 4, ρ 5, ρ 6, ρ 7, ρ 8, ρ 9, ρ 10, ρ 11, ρ 12, ρ 13, ρ 14, ρ 15 + 1, ρ 16, ρ 32, ρ 30, ρ 31, ρ 20, ρ 21, ρ 22, ρ 23, ρ 24, ρ 25] (γ 2)
  have hD : en76 (γ 0) (3, [ρ 0, ρ 15, ρ 16], γ 1) = .inl (3, [ρ 0, ρ 15 + 1, ρ 16], γ 2) := by
    unfold en76
    refine (if_neg (show ¬ (3 : Nat) = 0 by decide)).trans ?_
    refine (if_neg (show ¬ (3 : Nat) = 1 by decide)).trans ?_
    refine (if_neg (show ¬ (3 : Nat) = 2 by decide)).trans ?_
    refine (if_pos (show (3 : Nat) = 3 by decide)).trans ?_
    refine (zLet_eq (show _ = γ 1 from rfl)).trans ?_
    refine (zLet_eq (show _ = ρ 0 from rfl)).trans ?_
    refine (zLet_eq (show _ = ρ 15 from rfl)).trans ?_
    refine (zLet_eq (show _ = ρ 16 from rfl)).trans ?_
    refine (zLet_eq m0).trans ?_
    refine (zLet_eq m14).trans ?_
    refine (zLet_eq m16).trans ?_
    refine (zLet_eq m18).trans ?_
    refine (if_neg w_0).trans ?_
    refine (if_neg w_1).trans ?_
    refine (zLet_eq m23).trans ?_
    refine (if_neg w_2).trans ?_
    refine (zLet_eq m24).trans ?_
    refine (zLet_eq m25).trans ?_
    refine (if_neg w_3).trans ?_
    refine (if_pos w_4).trans ?_
    refine (zLet_eq (show fn72 [ρ 15] (γ 1) = (0, 0, γ 2) from l0.symm)).trans ?_
    refine (zLet_eq (show _ = γ 2 from rfl)).trans ?_
    rfl
  exact zGoo_ato hJ hD
theorem vn76a3_7 {S : Nat → zSpc} (hS57 : ∀ x g o v gz, S 57 x g o v gz → sn57 x g o v gz) (hS71 : ∀ x g o v gz, S 71 x g o v gz → sn71 x g o v gz) (hS72 : ∀ x g o v gz, S 72 x g o v gz → sn72 x g o v gz) (hS75 : ∀ x g o v gz, S 75 x g o v gz → sn75 x g o v gz) {a : List Int} {g : rHp} : ∀ (ρ : Nat → Int) (γ : Nat → rHp), jn76 a g 3 (zAg (zNA a76_ 3) ρ) (γ 1) → zO 15 S a g q76a3_7 ρ γ → zGl (fun i vs g1 => jn76 a g i vs g1) (sn76 a g) q76a3_7 ρ γ := by
  intro ρ γ hJ h
  obtain ⟨ha, hg, hr, hf, hm, hc, hl⟩ := h
  have ha : a = [ρ 0, ρ 1, ρ 2, ρ 3, ρ 4, ρ 5, ρ 6, ρ 7, ρ 8, ρ 9, ρ 10, ρ 11, ρ 12, ρ 13, ρ 14] := ha
  subst ha
  subst hg
  have hJ : jn76 [ρ 0, ρ 1, ρ 2, ρ 3, ρ 4, ρ 5, ρ 6, ρ 7, ρ 8, ρ 9, ρ 10, ρ 11, ρ 12, ρ 13, ρ 14] (γ 0) 3 [ρ 0, ρ 1, ρ 2, ρ 3, ρ 4, ρ 5, ρ 6, ρ 7, ρ 8, ρ 9, ρ 10, ρ 11, ρ 12, ρ 13, ρ 14, ρ 15, ρ 16, ρ 17, ρ 18, ρ 19, ρ 20, ρ 21, ρ 22, ρ 23, ρ 24, ρ 25] (γ 1) := hJ
  obtain ⟨-, -, -, -, -, -, -, -, -, -, -, -, -, -, -, -, -, -, -, r19, -, r21, -, -, -, -, r26, -, -, -, r30, -⟩ := hr
  have r19 : (0 : Int) ≤ ρ 19 ∧ ρ 19 ≤ 0 := r19
  have r21 : ((-2147483648) : Int) ≤ ρ 21 ∧ ρ 21 ≤ 2147483647 := r21
  have r26 : (0 : Int) ≤ ρ 26 ∧ ρ 26 ≤ 0 := r26
  have r30 : (0 : Int) ≤ ρ 30 ∧ ρ 30 ≤ 0 := r30
  obtain ⟨-, f1, f2, f3, -⟩ := hf
  have f1 : (0 : Int) ≤ -ρ 28 + ρ 0 := f1
  have f2 : (0 : Int) ≤ ρ 28 + -ρ 0 := f2
  have f3 : (0 : Int) ≤ -ρ 15 + ρ 1 + (-1) := f3
  obtain ⟨w_0, w_1, w_2, w_3, w_4⟩ : (¬ (ρ 15 ≥ ρ 1)) ∧ (¬ (ρ 19 ≠ 0)) ∧ (¬ (ρ 26 ≠ 0)) ∧ (¬ (ρ 28 ≠ ρ 0)) ∧ (ρ 30 ≤ 0) := ⟨by omega, by omega, by omega, by omega, by omega⟩
  obtain ⟨m0, -, -, -, -, -, -, -, -, -, -, -, -, -, m14, -, m16, -, m18, -, -, -, -, m23, m24, m25, -⟩ := hm
  have m0 : γ 0 15 0 32 = ρ 1 := m0
  have m14 : γ 1 15 0 71 = ρ 17 := m14
  have m16 : γ 1 15 0 77 = ρ 19 := m16
  have m18 : γ 1 15 0 76 = ρ 21 := m18
  have m23 : γ 0 71 0 (ρ 15) = ρ 26 := m23
  have m24 : γ 0 69 0 (ρ 15) = ρ 27 := m24
  have m25 : γ 0 92 0 (ρ 27) = ρ 28 := m25
  obtain ⟨l0, l1, -⟩ := hl
  have l0 : ρ 21 ≠ 1 := l0
  have l1 : sn71 [ρ 15, ρ 29] (γ 1) 0 (ρ 30) (γ 2) := hS71 _ _ _ _ _ l1
  have wl_0 : ¬ (ρ 21 = 1) := by omega
  show jn76 [ρ 0, ρ 1, ρ 2, ρ 3, ρ 4, ρ 5, ρ 6, ρ 7, ρ 8, ρ 9, ρ 10, ρ 11, ρ 12, ρ 13, ρ 14] (γ 0) 3 [ρ 0, ρ 1, ρ 2, ρ 3, ρ 4, ρ 5, ρ 6, ρ 7, ρ 8, ρ 9, ρ 10, ρ 11, ρ 12, ρ 13, ρ 14, ρ 15 + 1, ρ 16, ρ 17, ρ 18, ρ 19, ρ 20, ρ 21, ρ 22, ρ 23, ρ 24, ρ 25] (γ 2)
  have hD : en76 (γ 0) (3, [ρ 0, ρ 15, ρ 16], γ 1) = .inl (3, [ρ 0, ρ 15 + 1, ρ 16], γ 2) := by
    unfold en76
    refine (if_neg (show ¬ (3 : Nat) = 0 by decide)).trans ?_
    refine (if_neg (show ¬ (3 : Nat) = 1 by decide)).trans ?_
    refine (if_neg (show ¬ (3 : Nat) = 2 by decide)).trans ?_
    refine (if_pos (show (3 : Nat) = 3 by decide)).trans ?_
    refine (zLet_eq (show _ = γ 1 from rfl)).trans ?_
    refine (zLet_eq (show _ = ρ 0 from rfl)).trans ?_
    refine (zLet_eq (show _ = ρ 15 from rfl)).trans ?_
    refine (zLet_eq (show _ = ρ 16 from rfl)).trans ?_
    refine (zLet_eq m0).trans ?_
    refine (zLet_eq m14).trans ?_
    refine (zLet_eq m16).trans ?_
    refine (zLet_eq m18).trans ?_
    refine (if_neg w_0).trans ?_
    refine (if_neg w_1).trans ?_
    refine (zLet_eq m23).trans ?_
    refine (if_neg w_2).trans ?_
    refine (zLet_eq m24).trans ?_
    refine (zLet_eq m25).trans ?_
    refine (if_neg w_3).trans ?_
    refine (if_neg wl_0).trans ?_
    refine (zLet_eq (show fn71 [ρ 15] (γ 1) = (0, ρ 30, γ 2) from l1.symm)).trans ?_
    refine (zLet_eq (show _ = γ 2 from rfl)).trans ?_
    refine (zLet_eq (show _ = ρ 30 from rfl)).trans ?_
    refine (if_pos w_4).trans ?_
    rfl
  exact zGoo_ato hJ hD
theorem vn76a3_8 {S : Nat → zSpc} (hS57 : ∀ x g o v gz, S 57 x g o v gz → sn57 x g o v gz) (hS71 : ∀ x g o v gz, S 71 x g o v gz → sn71 x g o v gz) (hS72 : ∀ x g o v gz, S 72 x g o v gz → sn72 x g o v gz) (hS75 : ∀ x g o v gz, S 75 x g o v gz → sn75 x g o v gz) {a : List Int} {g : rHp} : ∀ (ρ : Nat → Int) (γ : Nat → rHp), jn76 a g 3 (zAg (zNA a76_ 3) ρ) (γ 1) → zO 15 S a g q76a3_8 ρ γ → zGl (fun i vs g1 => jn76 a g i vs g1) (sn76 a g) q76a3_8 ρ γ := by
  intro ρ γ hJ h
  obtain ⟨ha, hg, hr, hf, hm, hc, hl⟩ := h
  have ha : a = [ρ 0, ρ 1, ρ 2, ρ 3, ρ 4, ρ 5, ρ 6, ρ 7, ρ 8, ρ 9, ρ 10, ρ 11, ρ 12, ρ 13, ρ 14] := ha
  subst ha
  subst hg
  have hJ : jn76 [ρ 0, ρ 1, ρ 2, ρ 3, ρ 4, ρ 5, ρ 6, ρ 7, ρ 8, ρ 9, ρ 10, ρ 11, ρ 12, ρ 13, ρ 14] (γ 0) 3 [ρ 0, ρ 1, ρ 2, ρ 3, ρ 4, ρ 5, ρ 6, ρ 7, ρ 8, ρ 9, ρ 10, ρ 11, ρ 12, ρ 13, ρ 14, ρ 15, ρ 16, ρ 17, ρ 18, ρ 19, ρ 20, ρ 21, ρ 22, ρ 23, ρ 24, ρ 25] (γ 1) := hJ
  obtain ⟨-, -, -, -, -, -, -, -, -, -, -, -, -, -, -, -, -, -, -, r19, -, r21, -, -, -, -, r26, -, -, -, r30, -⟩ := hr
  have r19 : (0 : Int) ≤ ρ 19 ∧ ρ 19 ≤ 0 := r19
  have r21 : ((-2147483648) : Int) ≤ ρ 21 ∧ ρ 21 ≤ 2147483647 := r21
  have r26 : (0 : Int) ≤ ρ 26 ∧ ρ 26 ≤ 0 := r26
  have r30 : (1 : Int) ≤ ρ 30 ∧ ρ 30 ≤ 8 := r30
  obtain ⟨f0, -, -, -, -, f5, f6, -⟩ := hf
  have f0 : (0 : Int) ≤ -ρ 15 + ρ 1 + (-1) := f0
  have f5 : (0 : Int) ≤ -ρ 28 + ρ 0 := f5
  have f6 : (0 : Int) ≤ ρ 28 + -ρ 0 := f6
  obtain ⟨w_0, w_1, w_2, w_3, w_4⟩ : (¬ (ρ 15 ≥ ρ 1)) ∧ (¬ (ρ 19 ≠ 0)) ∧ (¬ (ρ 26 ≠ 0)) ∧ (¬ (ρ 28 ≠ ρ 0)) ∧ (¬ (ρ 30 ≤ 0)) := ⟨by omega, by omega, by omega, by omega, by omega⟩
  obtain ⟨m0, -, -, -, -, -, -, -, -, -, -, -, -, -, m14, -, m16, -, m18, -, -, -, -, m23, m24, m25, -⟩ := hm
  have m0 : γ 0 15 0 32 = ρ 1 := m0
  have m14 : γ 1 15 0 71 = ρ 17 := m14
  have m16 : γ 1 15 0 77 = ρ 19 := m16
  have m18 : γ 1 15 0 76 = ρ 21 := m18
  have m23 : γ 0 71 0 (ρ 15) = ρ 26 := m23
  have m24 : γ 0 69 0 (ρ 15) = ρ 27 := m24
  have m25 : γ 0 92 0 (ρ 27) = ρ 28 := m25
  obtain ⟨l0, l1, l2, -⟩ := hl
  have l0 : ρ 21 ≠ 1 := l0
  have l1 : sn71 [ρ 15, ρ 29] (γ 1) 0 (ρ 30) (γ 2) := hS71 _ _ _ _ _ l1
  have l2 : sn72 [ρ 15, ρ 29, ρ 1, ρ 18, ρ 19, ρ 14, ρ 2, ρ 7, ρ 17, ρ 21, ρ 22, ρ 23, ρ 24] (γ 2) 0 0 (γ 3) := hS72 _ _ _ _ _ l2
  have wl_0 : ¬ (ρ 21 = 1) := by omega
  show jn76 [ρ 0, ρ 1, ρ 2, ρ 3, ρ 4, ρ 5, ρ 6, ρ 7, ρ 8, ρ 9, ρ 10, ρ 11, ρ 12, ρ 13, ρ 14] (γ 0) 3 [ρ 0, ρ 1, ρ 2, ρ 3, ρ 4, ρ 5, ρ 6, ρ 7, ρ 8, ρ 9, ρ 10, ρ 11, ρ 12, ρ 13, ρ 14, ρ 15 + 1, ρ 16, ρ 33, ρ 31, ρ 32, ρ 20, ρ 21, ρ 22, ρ 23, ρ 24, ρ 25] (γ 3)
  have hD : en76 (γ 0) (3, [ρ 0, ρ 15, ρ 16], γ 1) = .inl (3, [ρ 0, ρ 15 + 1, ρ 16], γ 3) := by
    unfold en76
    refine (if_neg (show ¬ (3 : Nat) = 0 by decide)).trans ?_
    refine (if_neg (show ¬ (3 : Nat) = 1 by decide)).trans ?_
    refine (if_neg (show ¬ (3 : Nat) = 2 by decide)).trans ?_
    refine (if_pos (show (3 : Nat) = 3 by decide)).trans ?_
    refine (zLet_eq (show _ = γ 1 from rfl)).trans ?_
    refine (zLet_eq (show _ = ρ 0 from rfl)).trans ?_
    refine (zLet_eq (show _ = ρ 15 from rfl)).trans ?_
    refine (zLet_eq (show _ = ρ 16 from rfl)).trans ?_
    refine (zLet_eq m0).trans ?_
    refine (zLet_eq m14).trans ?_
    refine (zLet_eq m16).trans ?_
    refine (zLet_eq m18).trans ?_
    refine (if_neg w_0).trans ?_
    refine (if_neg w_1).trans ?_
    refine (zLet_eq m23).trans ?_
    refine (if_neg w_2).trans ?_
    refine (zLet_eq m24).trans ?_
    refine (zLet_eq m25).trans ?_
    refine (if_neg w_3).trans ?_
    refine (if_neg wl_0).trans ?_
    refine (zLet_eq (show fn71 [ρ 15] (γ 1) = (0, ρ 30, γ 2) from l1.symm)).trans ?_
    refine (zLet_eq (show _ = γ 2 from rfl)).trans ?_
    refine (zLet_eq (show _ = ρ 30 from rfl)).trans ?_
    refine (if_neg w_4).trans ?_
    refine (zLet_eq (show fn72 [ρ 15] (γ 2) = (0, 0, γ 3) from l2.symm)).trans ?_
    refine (zLet_eq (show _ = γ 3 from rfl)).trans ?_
    rfl
  exact zGoo_ato hJ hD
theorem yn76 {S : Nat → zSpc} (hS57 : ∀ x g o v gz, S 57 x g o v gz → sn57 x g o v gz) (hS71 : ∀ x g o v gz, S 71 x g o v gz → sn71 x g o v gz) (hS72 : ∀ x g o v gz, S 72 x g o v gz → sn72 x g o v gz) (hS75 : ∀ x g o v gz, S 75 x g o v gz → sn75 x g o v gz) : ∀ x g o v gz, zSem uW uT w76_.2.2.2.1 w76_.2.2.1.1.length S q76 (fun i => q76a.getD i []) (zNA a76_) x g o v gz → sn76 x g o v gz := by
  intro a g o v gz h
  exact zSem_all (l0 := q76) (las := q76a) (S := S) (J := (fun i vs g1 => jn76 a g i vs g1)) (P := sn76 a g) (fun _ => (show zAll _ [q76_0] from (zAll_c (vn76_0 hS57 hS71 hS72 hS75) zAll_n))) (fun _ => (show zAllI _ 0 [q76a0, q76a1, q76a2, q76a3] from ⟨(show zAll _ [q76a0_0, q76a0_1, q76a0_2, q76a0_3] from (zAll_c (vn76a0_0 hS57 hS71 hS72 hS75) (zAll_c (vn76a0_1 hS57 hS71 hS72 hS75) (zAll_c (vn76a0_2 hS57 hS71 hS72 hS75) (zAll_c (vn76a0_3 hS57 hS71 hS72 hS75) zAll_n))))), ⟨(show zAll _ [q76a1_0, q76a1_1, q76a1_2, q76a1_3, q76a1_4] from (zAll_c (vn76a1_0 hS57 hS71 hS72 hS75) (zAll_c (vn76a1_1 hS57 hS71 hS72 hS75) (zAll_c (vn76a1_2 hS57 hS71 hS72 hS75) (zAll_c (vn76a1_3 hS57 hS71 hS72 hS75) (zAll_c (vn76a1_4 hS57 hS71 hS72 hS75) zAll_n)))))), ⟨(show zAll _ [q76a2_0, q76a2_1, q76a2_2] from (zAll_c (vn76a2_0 hS57 hS71 hS72 hS75) (zAll_c (vn76a2_1 hS57 hS71 hS72 hS75) (zAll_c (vn76a2_2 hS57 hS71 hS72 hS75) zAll_n)))), ⟨(show zAll _ [q76a3_0, q76a3_1, q76a3_2, q76a3_3, q76a3_4, q76a3_5, q76a3_6, q76a3_7, q76a3_8] from (zAll_c (vn76a3_0 hS57 hS71 hS72 hS75) (zAll_c (vn76a3_1 hS57 hS71 hS72 hS75) (zAll_c (vn76a3_2 hS57 hS71 hS72 hS75) (zAll_c (vn76a3_3 hS57 hS71 hS72 hS75) (zAll_c (vn76a3_4 hS57 hS71 hS72 hS75) (zAll_c (vn76a3_5 hS57 hS71 hS72 hS75) (zAll_c (vn76a3_6 hS57 hS71 hS72 hS75) (zAll_c (vn76a3_7 hS57 hS71 hS72 hS75) (zAll_c (vn76a3_8 hS57 hS71 hS72 hS75) zAll_n)))))))))), trivial⟩⟩⟩⟩)) h
