/-! ===== the runs are the functions ===== -/
theorem vn72_0 {S : Nat → zSpc} (hS62 : ∀ x g o v gz, S 62 x g o v gz → sn62 x g o v gz) (hS63 : ∀ x g o v gz, S 63 x g o v gz → sn63 x g o v gz) (hS64 : ∀ x g o v gz, S 64 x g o v gz → sn64 x g o v gz) (hS65 : ∀ x g o v gz, S 65 x g o v gz → sn65 x g o v gz) (hS68 : ∀ x g o v gz, S 68 x g o v gz → sn68 x g o v gz) {a : List Int} {g : rHp} : ∀ (ρ : Nat → Int) (γ : Nat → rHp), zO 13 S a g q72_0 ρ γ → zGl (fun i vs g1 => jn72 a g i vs g1) (sn72 a g) q72_0 ρ γ := by
  intro ρ γ h
  obtain ⟨ha, hg, hr, hf, hm, hc, hl⟩ := h
  have ha : a = [ρ 0, ρ 1, ρ 2, ρ 3, ρ 4, ρ 5, ρ 6, ρ 7, ρ 8, ρ 9, ρ 10, ρ 11, ρ 12] := ha
  subst ha
  subst hg
  show jn72 [ρ 0, ρ 1, ρ 2, ρ 3, ρ 4, ρ 5, ρ 6, ρ 7, ρ 8, ρ 9, ρ 10, ρ 11, ρ 12] (γ 0) 0 [ρ 0, ρ 1, ρ 2, ρ 3, ρ 4, ρ 5, ρ 6, ρ 7, ρ 8, ρ 9, ρ 10, ρ 11, ρ 12, 0, ρ 3, ρ 4, ρ 8] (γ 0)
  have hD : dn72 [ρ 0] (γ 0) = .inl (0, [ρ 0, 0], γ 0) := by
    unfold dn72
    refine (zLet_eq (show _ = ρ 0 from rfl)).trans ?_
    rfl
  exact zGoo_to hD
theorem vn72a0_0 {S : Nat → zSpc} (hS62 : ∀ x g o v gz, S 62 x g o v gz → sn62 x g o v gz) (hS63 : ∀ x g o v gz, S 63 x g o v gz → sn63 x g o v gz) (hS64 : ∀ x g o v gz, S 64 x g o v gz → sn64 x g o v gz) (hS65 : ∀ x g o v gz, S 65 x g o v gz → sn65 x g o v gz) (hS68 : ∀ x g o v gz, S 68 x g o v gz → sn68 x g o v gz) {a : List Int} {g : rHp} : ∀ (ρ : Nat → Int) (γ : Nat → rHp), jn72 a g 0 (zAg (zNA a72_ 0) ρ) (γ 1) → zO 13 S a g q72a0_0 ρ γ → zGl (fun i vs g1 => jn72 a g i vs g1) (sn72 a g) q72a0_0 ρ γ := by
  intro ρ γ hJ h
  obtain ⟨ha, hg, hr, hf, hm, hc, hl⟩ := h
  have ha : a = [ρ 0, ρ 1, ρ 2, ρ 3, ρ 4, ρ 5, ρ 6, ρ 7, ρ 8, ρ 9, ρ 10, ρ 11, ρ 12] := ha
  subst ha
  subst hg
  have hJ : jn72 [ρ 0, ρ 1, ρ 2, ρ 3, ρ 4, ρ 5, ρ 6, ρ 7, ρ 8, ρ 9, ρ 10, ρ 11, ρ 12] (γ 0) 0 [ρ 0, ρ 1, ρ 2, ρ 3, ρ 4, ρ 5, ρ 6, ρ 7, ρ 8, ρ 9, ρ 10, ρ 11, ρ 12, ρ 13, ρ 14, ρ 15, ρ 16] (γ 1) := hJ
  obtain ⟨-, -, -, -, -, -, -, -, -, -, -, -, -, -, -, r15, -⟩ := hr
  have r15 : (1 : Int) ≤ ρ 15 ∧ ρ 15 ≤ 3 := r15
  have w_0 : ρ 15 ≠ 0 := by omega
  obtain ⟨m0, -, -, -, -, -, -, -, -, -, -, -, m12, m13, -⟩ := hm
  have m0 : γ 0 73 0 (ρ 0) = ρ 1 := m0
  have m12 : γ 1 15 0 72 = ρ 14 := m12
  have m13 : γ 1 15 0 77 = ρ 15 := m13
  show sn72 [ρ 0, ρ 1, ρ 2, ρ 3, ρ 4, ρ 5, ρ 6, ρ 7, ρ 8, ρ 9, ρ 10, ρ 11, ρ 12] (γ 0) 0 0 (γ 1)
  have hD : en72 (γ 0) (0, [ρ 0, ρ 13], γ 1) = .inr (0, 0, γ 1) := by
    unfold en72
    refine (if_pos (show (0 : Nat) = 0 by decide)).trans ?_
    refine (zLet_eq (show _ = γ 1 from rfl)).trans ?_
    refine (zLet_eq (show _ = ρ 0 from rfl)).trans ?_
    refine (zLet_eq (show _ = ρ 13 from rfl)).trans ?_
    refine (zLet_eq m0).trans ?_
    refine (zLet_eq m12).trans ?_
    refine (zLet_eq m13).trans ?_
    refine (if_pos w_0).trans ?_
    rfl
  exact zGoo_aend hJ hD
theorem vn72a0_1 {S : Nat → zSpc} (hS62 : ∀ x g o v gz, S 62 x g o v gz → sn62 x g o v gz) (hS63 : ∀ x g o v gz, S 63 x g o v gz → sn63 x g o v gz) (hS64 : ∀ x g o v gz, S 64 x g o v gz → sn64 x g o v gz) (hS65 : ∀ x g o v gz, S 65 x g o v gz → sn65 x g o v gz) (hS68 : ∀ x g o v gz, S 68 x g o v gz → sn68 x g o v gz) {a : List Int} {g : rHp} : ∀ (ρ : Nat → Int) (γ : Nat → rHp), jn72 a g 0 (zAg (zNA a72_ 0) ρ) (γ 1) → zO 13 S a g q72a0_1 ρ γ → zGl (fun i vs g1 => jn72 a g i vs g1) (sn72 a g) q72a0_1 ρ γ := by
  intro ρ γ hJ h
  obtain ⟨ha, hg, hr, hf, hm, hc, hl⟩ := h
  have ha : a = [ρ 0, ρ 1, ρ 2, ρ 3, ρ 4, ρ 5, ρ 6, ρ 7, ρ 8, ρ 9, ρ 10, ρ 11, ρ 12] := ha
  subst ha
  subst hg
  have hJ : jn72 [ρ 0, ρ 1, ρ 2, ρ 3, ρ 4, ρ 5, ρ 6, ρ 7, ρ 8, ρ 9, ρ 10, ρ 11, ρ 12] (γ 0) 0 [ρ 0, ρ 1, ρ 2, ρ 3, ρ 4, ρ 5, ρ 6, ρ 7, ρ 8, ρ 9, ρ 10, ρ 11, ρ 12, ρ 13, ρ 14, ρ 15, ρ 16] (γ 1) := hJ
  obtain ⟨-, -, -, -, -, -, -, -, -, -, -, -, -, -, r14, r15, -, r17, -, -, r20, -⟩ := hr
  have r14 : (0 : Int) ≤ ρ 14 ∧ ρ 14 ≤ 49999 := r14
  have r15 : (0 : Int) ≤ ρ 15 ∧ ρ 15 ≤ 0 := r15
  have r17 : (0 : Int) ≤ ρ 17 ∧ ρ 17 ≤ 0 := r17
  have r20 : (0 : Int) ≤ ρ 20 ∧ ρ 20 ≤ 1999 := r20
  obtain ⟨-, -, f2, -⟩ := hf
  have f2 : (0 : Int) ≤ -ρ 13 + ρ 1 + (-1) := f2
  obtain ⟨w_0, w_1, w_2, w_3, w_4, w_5⟩ : (¬ (ρ 15 ≠ 0)) ∧ (ρ 13 ≠ ρ 1) ∧ (0 ≤ -ρ 17 + 4) ∧ (ρ 17 = 0) ∧ (ρ 20 ≥ 0) ∧ (ρ 14 + 1 ≤ 50000) := ⟨by omega, by omega, by omega, by omega, by omega, by omega⟩
  obtain ⟨m0, -, -, -, -, -, -, -, -, -, -, -, m12, m13, -, m15, m16, m17, -⟩ := hm
  have m0 : γ 0 73 0 (ρ 0) = ρ 1 := m0
  have m12 : γ 1 15 0 72 = ρ 14 := m12
  have m13 : γ 1 15 0 77 = ρ 15 := m13
  have m15 : γ 0 77 0 (ρ 13 + 8 * ρ 0) = ρ 17 := m15
  have m16 : γ 0 78 0 (ρ 13 + 8 * ρ 0) = ρ 18 := m16
  have m17 : γ 1 100 0 (ρ 18) = ρ 19 := m17
  obtain ⟨⟨⟨-, c3⟩, c4⟩, -⟩ := hc
  have c3 : γ 3 = rUp (γ 2) 15 0 72 (ρ 14 + 1) := c3
  have c4 : γ 4 = rUp (γ 3) 104 0 (ρ 13) (ρ 20) := c4
  obtain ⟨l0, l1, -⟩ := hl
  have l0 : sn62 [ρ 0, ρ 13, ρ 19, ρ 10, ρ 16, ρ 11, ρ 12] (γ 1) 0 (ρ 20) (γ 2) := hS62 _ _ _ _ _ l0
  have l1 : sn63 [ρ 13 + 8 * ρ 0, ρ 20] (γ 4) 0 0 (γ 5) := hS63 _ _ _ _ _ l1
  show jn72 [ρ 0, ρ 1, ρ 2, ρ 3, ρ 4, ρ 5, ρ 6, ρ 7, ρ 8, ρ 9, ρ 10, ρ 11, ρ 12] (γ 0) 0 [ρ 0, ρ 1, ρ 2, ρ 3, ρ 4, ρ 5, ρ 6, ρ 7, ρ 8, ρ 9, ρ 10, ρ 11, ρ 12, ρ 13 + 1, ρ 14 + 1, ρ 15, ρ 16] (γ 5)
  have hD : en72 (γ 0) (0, [ρ 0, ρ 13], γ 1) = .inl (0, [ρ 0, ρ 13 + 1], γ 5) := by
    unfold en72
    refine (if_pos (show (0 : Nat) = 0 by decide)).trans ?_
    refine (zLet_eq (show _ = γ 1 from rfl)).trans ?_
    refine (zLet_eq (show _ = ρ 0 from rfl)).trans ?_
    refine (zLet_eq (show _ = ρ 13 from rfl)).trans ?_
    refine (zLet_eq m0).trans ?_
    refine (zLet_eq m12).trans ?_
    refine (zLet_eq m13).trans ?_
    refine (if_neg w_0).trans ?_
    refine (if_pos w_1).trans ?_
    refine (zLet_eq m15).trans ?_
    refine (if_pos w_2).trans ?_
    refine (if_pos w_3).trans ?_
    refine (zLet_eq m16).trans ?_
    refine (zLet_eq m17).trans ?_
    refine (zLet_eq (show fn62 [ρ 0, ρ 13, ρ 19] (γ 1) = (0, ρ 20, γ 2) from l0.symm)).trans ?_
    refine (zLet_eq (show _ = γ 2 from rfl)).trans ?_
    refine (zLet_eq (show _ = ρ 20 from rfl)).trans ?_
    refine (if_pos w_4).trans ?_
    refine (zLet_eq c3.symm).trans ?_
    refine (if_pos w_5).trans ?_
    refine (zLet_eq c4.symm).trans ?_
    refine (zLet_eq (show fn63 [ρ 13 + 8 * ρ 0, ρ 20] (γ 4) = (0, 0, γ 5) from l1.symm)).trans ?_
    refine (zLet_eq (show _ = γ 5 from rfl)).trans ?_
    rfl
  exact zGoo_ato hJ hD
theorem vn72a0_2 {S : Nat → zSpc} (hS62 : ∀ x g o v gz, S 62 x g o v gz → sn62 x g o v gz) (hS63 : ∀ x g o v gz, S 63 x g o v gz → sn63 x g o v gz) (hS64 : ∀ x g o v gz, S 64 x g o v gz → sn64 x g o v gz) (hS65 : ∀ x g o v gz, S 65 x g o v gz → sn65 x g o v gz) (hS68 : ∀ x g o v gz, S 68 x g o v gz → sn68 x g o v gz) {a : List Int} {g : rHp} : ∀ (ρ : Nat → Int) (γ : Nat → rHp), jn72 a g 0 (zAg (zNA a72_ 0) ρ) (γ 1) → zO 13 S a g q72a0_2 ρ γ → zGl (fun i vs g1 => jn72 a g i vs g1) (sn72 a g) q72a0_2 ρ γ := by
  intro ρ γ hJ h
  obtain ⟨ha, hg, hr, hf, hm, hc, hl⟩ := h
  have ha : a = [ρ 0, ρ 1, ρ 2, ρ 3, ρ 4, ρ 5, ρ 6, ρ 7, ρ 8, ρ 9, ρ 10, ρ 11, ρ 12] := ha
  subst ha
  subst hg
  have hJ : jn72 [ρ 0, ρ 1, ρ 2, ρ 3, ρ 4, ρ 5, ρ 6, ρ 7, ρ 8, ρ 9, ρ 10, ρ 11, ρ 12] (γ 0) 0 [ρ 0, ρ 1, ρ 2, ρ 3, ρ 4, ρ 5, ρ 6, ρ 7, ρ 8, ρ 9, ρ 10, ρ 11, ρ 12, ρ 13, ρ 14, ρ 15, ρ 16] (γ 1) := hJ
  obtain ⟨-, -, -, -, -, -, -, -, -, -, -, -, -, -, r14, r15, -, r17, -, -, r20, -⟩ := hr
  have r14 : (50000 : Int) ≤ ρ 14 ∧ ρ 14 ≤ 50001 := r14
  have r15 : (0 : Int) ≤ ρ 15 ∧ ρ 15 ≤ 0 := r15
  have r17 : (0 : Int) ≤ ρ 17 ∧ ρ 17 ≤ 0 := r17
  have r20 : (0 : Int) ≤ ρ 20 ∧ ρ 20 ≤ 1999 := r20
  obtain ⟨-, -, f2, -⟩ := hf
  have f2 : (0 : Int) ≤ -ρ 13 + ρ 1 + (-1) := f2
  obtain ⟨w_0, w_1, w_2, w_3, w_4, w_5⟩ : (¬ (ρ 15 ≠ 0)) ∧ (ρ 13 ≠ ρ 1) ∧ (0 ≤ -ρ 17 + 4) ∧ (ρ 17 = 0) ∧ (ρ 20 ≥ 0) ∧ (¬ (ρ 14 + 1 ≤ 50000)) := ⟨by omega, by omega, by omega, by omega, by omega, by omega⟩
  obtain ⟨m0, -, -, -, -, -, -, -, -, -, -, -, m12, m13, -, m15, m16, m17, -⟩ := hm
  have m0 : γ 0 73 0 (ρ 0) = ρ 1 := m0
  have m12 : γ 1 15 0 72 = ρ 14 := m12
  have m13 : γ 1 15 0 77 = ρ 15 := m13
  have m15 : γ 0 77 0 (ρ 13 + 8 * ρ 0) = ρ 17 := m15
  have m16 : γ 0 78 0 (ρ 13 + 8 * ρ 0) = ρ 18 := m16
  have m17 : γ 1 100 0 (ρ 18) = ρ 19 := m17
  obtain ⟨⟨⟨⟨-, c3⟩, c4⟩, c5⟩, -⟩ := hc
  have c3 : γ 3 = rUp (γ 2) 15 0 72 (ρ 14 + 1) := c3
  have c4 : γ 4 = rUp (γ 3) 15 0 77 2 := c4
  have c5 : γ 5 = rUp (γ 4) 104 0 (ρ 13) (ρ 20) := c5
  obtain ⟨l0, l1, -⟩ := hl
  have l0 : sn62 [ρ 0, ρ 13, ρ 19, ρ 10, ρ 16, ρ 11, ρ 12] (γ 1) 0 (ρ 20) (γ 2) := hS62 _ _ _ _ _ l0
  have l1 : sn63 [ρ 13 + 8 * ρ 0, ρ 20] (γ 5) 0 0 (γ 6) := hS63 _ _ _ _ _ l1
  show jn72 [ρ 0, ρ 1, ρ 2, ρ 3, ρ 4, ρ 5, ρ 6, ρ 7, ρ 8, ρ 9, ρ 10, ρ 11, ρ 12] (γ 0) 0 [ρ 0, ρ 1, ρ 2, ρ 3, ρ 4, ρ 5, ρ 6, ρ 7, ρ 8, ρ 9, ρ 10, ρ 11, ρ 12, ρ 13 + 1, ρ 14 + 1, 2, ρ 16] (γ 6)
  have hD : en72 (γ 0) (0, [ρ 0, ρ 13], γ 1) = .inl (0, [ρ 0, ρ 13 + 1], γ 6) := by
    unfold en72
    refine (if_pos (show (0 : Nat) = 0 by decide)).trans ?_
    refine (zLet_eq (show _ = γ 1 from rfl)).trans ?_
    refine (zLet_eq (show _ = ρ 0 from rfl)).trans ?_
    refine (zLet_eq (show _ = ρ 13 from rfl)).trans ?_
    refine (zLet_eq m0).trans ?_
    refine (zLet_eq m12).trans ?_
    refine (zLet_eq m13).trans ?_
    refine (if_neg w_0).trans ?_
    refine (if_pos w_1).trans ?_
    refine (zLet_eq m15).trans ?_
    refine (if_pos w_2).trans ?_
    refine (if_pos w_3).trans ?_
    refine (zLet_eq m16).trans ?_
    refine (zLet_eq m17).trans ?_
    refine (zLet_eq (show fn62 [ρ 0, ρ 13, ρ 19] (γ 1) = (0, ρ 20, γ 2) from l0.symm)).trans ?_
    refine (zLet_eq (show _ = γ 2 from rfl)).trans ?_
    refine (zLet_eq (show _ = ρ 20 from rfl)).trans ?_
    refine (if_pos w_4).trans ?_
    refine (zLet_eq c3.symm).trans ?_
    refine (if_neg w_5).trans ?_
    refine (zLet_eq c4.symm).trans ?_
    refine (zLet_eq c5.symm).trans ?_
    refine (zLet_eq (show fn63 [ρ 13 + 8 * ρ 0, ρ 20] (γ 5) = (0, 0, γ 6) from l1.symm)).trans ?_
    refine (zLet_eq (show _ = γ 6 from rfl)).trans ?_
    rfl
  exact zGoo_ato hJ hD
theorem vn72a0_3 {S : Nat → zSpc} (hS62 : ∀ x g o v gz, S 62 x g o v gz → sn62 x g o v gz) (hS63 : ∀ x g o v gz, S 63 x g o v gz → sn63 x g o v gz) (hS64 : ∀ x g o v gz, S 64 x g o v gz → sn64 x g o v gz) (hS65 : ∀ x g o v gz, S 65 x g o v gz → sn65 x g o v gz) (hS68 : ∀ x g o v gz, S 68 x g o v gz → sn68 x g o v gz) {a : List Int} {g : rHp} : ∀ (ρ : Nat → Int) (γ : Nat → rHp), jn72 a g 0 (zAg (zNA a72_ 0) ρ) (γ 1) → zO 13 S a g q72a0_3 ρ γ → zGl (fun i vs g1 => jn72 a g i vs g1) (sn72 a g) q72a0_3 ρ γ := by
  intro ρ γ hJ h
  obtain ⟨ha, hg, hr, hf, hm, hc, hl⟩ := h
  have ha : a = [ρ 0, ρ 1, ρ 2, ρ 3, ρ 4, ρ 5, ρ 6, ρ 7, ρ 8, ρ 9, ρ 10, ρ 11, ρ 12] := ha
  subst ha
  subst hg
  have hJ : jn72 [ρ 0, ρ 1, ρ 2, ρ 3, ρ 4, ρ 5, ρ 6, ρ 7, ρ 8, ρ 9, ρ 10, ρ 11, ρ 12] (γ 0) 0 [ρ 0, ρ 1, ρ 2, ρ 3, ρ 4, ρ 5, ρ 6, ρ 7, ρ 8, ρ 9, ρ 10, ρ 11, ρ 12, ρ 13, ρ 14, ρ 15, ρ 16] (γ 1) := hJ
  obtain ⟨-, -, -, -, -, -, -, -, -, -, -, -, -, -, -, r15, -, r17, -, -, r20, -⟩ := hr
  have r15 : (0 : Int) ≤ ρ 15 ∧ ρ 15 ≤ 0 := r15
  have r17 : (0 : Int) ≤ ρ 17 ∧ ρ 17 ≤ 0 := r17
  have r20 : ((-1) : Int) ≤ ρ 20 ∧ ρ 20 ≤ (-1) := r20
  obtain ⟨-, -, f2, -⟩ := hf
  have f2 : (0 : Int) ≤ -ρ 13 + ρ 1 + (-1) := f2
  obtain ⟨w_0, w_1, w_2, w_3, w_4⟩ : (¬ (ρ 15 ≠ 0)) ∧ (ρ 13 ≠ ρ 1) ∧ (0 ≤ -ρ 17 + 4) ∧ (ρ 17 = 0) ∧ (¬ (ρ 20 ≥ 0)) := ⟨by omega, by omega, by omega, by omega, by omega⟩
  obtain ⟨m0, -, -, -, -, -, -, -, -, -, -, -, m12, m13, -, m15, m16, m17, -⟩ := hm
  have m0 : γ 0 73 0 (ρ 0) = ρ 1 := m0
  have m12 : γ 1 15 0 72 = ρ 14 := m12
  have m13 : γ 1 15 0 77 = ρ 15 := m13
  have m15 : γ 0 77 0 (ρ 13 + 8 * ρ 0) = ρ 17 := m15
  have m16 : γ 0 78 0 (ρ 13 + 8 * ρ 0) = ρ 18 := m16
  have m17 : γ 1 100 0 (ρ 18) = ρ 19 := m17
  obtain ⟨l0, -⟩ := hl
  have l0 : sn62 [ρ 0, ρ 13, ρ 19, ρ 10, ρ 16, ρ 11, ρ 12] (γ 1) 0 (ρ 20) (γ 2) := hS62 _ _ _ _ _ l0
  show jn72 [ρ 0, ρ 1, ρ 2, ρ 3, ρ 4, ρ 5, ρ 6, ρ 7, ρ 8, ρ 9, ρ 10, ρ 11, ρ 12] (γ 0) 1 [ρ 0, ρ 1, ρ 2, ρ 3, ρ 4, ρ 5, ρ 6, ρ 7, ρ 8, ρ 9, ρ 10, ρ 11, ρ 12, ρ 13 + (-1), ρ 13 + 8 * ρ 0, ρ 14, ρ 15, ρ 16] (γ 2)
  have hD : en72 (γ 0) (0, [ρ 0, ρ 13], γ 1) = .inl (1, [ρ 0, ρ 13 + (-1), ρ 13 + 8 * ρ 0], γ 2) := by
    unfold en72
    refine (if_pos (show (0 : Nat) = 0 by decide)).trans ?_
    refine (zLet_eq (show _ = γ 1 from rfl)).trans ?_
    refine (zLet_eq (show _ = ρ 0 from rfl)).trans ?_
    refine (zLet_eq (show _ = ρ 13 from rfl)).trans ?_
    refine (zLet_eq m0).trans ?_
    refine (zLet_eq m12).trans ?_
    refine (zLet_eq m13).trans ?_
    refine (if_neg w_0).trans ?_
    refine (if_pos w_1).trans ?_
    refine (zLet_eq m15).trans ?_
    refine (if_pos w_2).trans ?_
    refine (if_pos w_3).trans ?_
    refine (zLet_eq m16).trans ?_
    refine (zLet_eq m17).trans ?_
    refine (zLet_eq (show fn62 [ρ 0, ρ 13, ρ 19] (γ 1) = (0, ρ 20, γ 2) from l0.symm)).trans ?_
    refine (zLet_eq (show _ = γ 2 from rfl)).trans ?_
    refine (zLet_eq (show _ = ρ 20 from rfl)).trans ?_
    refine (if_neg w_4).trans ?_
    rfl
  exact zGoo_ato hJ hD
theorem vn72a0_4 {S : Nat → zSpc} (hS62 : ∀ x g o v gz, S 62 x g o v gz → sn62 x g o v gz) (hS63 : ∀ x g o v gz, S 63 x g o v gz → sn63 x g o v gz) (hS64 : ∀ x g o v gz, S 64 x g o v gz → sn64 x g o v gz) (hS65 : ∀ x g o v gz, S 65 x g o v gz → sn65 x g o v gz) (hS68 : ∀ x g o v gz, S 68 x g o v gz → sn68 x g o v gz) {a : List Int} {g : rHp} : ∀ (ρ : Nat → Int) (γ : Nat → rHp), jn72 a g 0 (zAg (zNA a72_ 0) ρ) (γ 1) → zO 13 S a g q72a0_4 ρ γ → zGl (fun i vs g1 => jn72 a g i vs g1) (sn72 a g) q72a0_4 ρ γ := by
  intro ρ γ hJ h
  obtain ⟨ha, hg, hr, hf, hm, hc, hl⟩ := h
  have ha : a = [ρ 0, ρ 1, ρ 2, ρ 3, ρ 4, ρ 5, ρ 6, ρ 7, ρ 8, ρ 9, ρ 10, ρ 11, ρ 12] := ha
  subst ha
  subst hg
  have hJ : jn72 [ρ 0, ρ 1, ρ 2, ρ 3, ρ 4, ρ 5, ρ 6, ρ 7, ρ 8, ρ 9, ρ 10, ρ 11, ρ 12] (γ 0) 0 [ρ 0, ρ 1, ρ 2, ρ 3, ρ 4, ρ 5, ρ 6, ρ 7, ρ 8, ρ 9, ρ 10, ρ 11, ρ 12, ρ 13, ρ 14, ρ 15, ρ 16] (γ 1) := hJ
  obtain ⟨-, -, -, -, -, -, -, -, -, -, -, -, -, -, -, r15, -, r17, -⟩ := hr
  have r15 : (0 : Int) ≤ ρ 15 ∧ ρ 15 ≤ 0 := r15
  have r17 : (1 : Int) ≤ ρ 17 ∧ ρ 17 ≤ 4 := r17
  obtain ⟨-, f1, -⟩ := hf
  have f1 : (0 : Int) ≤ -ρ 13 + ρ 1 + (-1) := f1
  obtain ⟨w_0, w_1, w_2, w_3⟩ : (¬ (ρ 15 ≠ 0)) ∧ (ρ 13 ≠ ρ 1) ∧ (0 ≤ -ρ 17 + 4) ∧ (¬ (ρ 17 = 0)) := ⟨by omega, by omega, by omega, by omega⟩
  obtain ⟨m0, -, -, -, -, -, -, -, -, -, -, -, m12, m13, -, m15, -⟩ := hm
  have m0 : γ 0 73 0 (ρ 0) = ρ 1 := m0
  have m12 : γ 1 15 0 72 = ρ 14 := m12
  have m13 : γ 1 15 0 77 = ρ 15 := m13
  have m15 : γ 0 77 0 (ρ 13 + 8 * ρ 0) = ρ 17 := m15
  obtain ⟨l0, -⟩ := hl
  have l0 : sn64 [ρ 13 + 8 * ρ 0, ρ 17, ρ 18, ρ 10, ρ 16] (γ 1) 0 0 (γ 2) := hS64 _ _ _ _ _ l0
  show jn72 [ρ 0, ρ 1, ρ 2, ρ 3, ρ 4, ρ 5, ρ 6, ρ 7, ρ 8, ρ 9, ρ 10, ρ 11, ρ 12] (γ 0) 1 [ρ 0, ρ 1, ρ 2, ρ 3, ρ 4, ρ 5, ρ 6, ρ 7, ρ 8, ρ 9, ρ 10, ρ 11, ρ 12, ρ 13 + (-1), ρ 13 + 8 * ρ 0, ρ 14, ρ 15, ρ 16] (γ 2)
  have hD : en72 (γ 0) (0, [ρ 0, ρ 13], γ 1) = .inl (1, [ρ 0, ρ 13 + (-1), ρ 13 + 8 * ρ 0], γ 2) := by
    unfold en72
    refine (if_pos (show (0 : Nat) = 0 by decide)).trans ?_
    refine (zLet_eq (show _ = γ 1 from rfl)).trans ?_
    refine (zLet_eq (show _ = ρ 0 from rfl)).trans ?_
    refine (zLet_eq (show _ = ρ 13 from rfl)).trans ?_
    refine (zLet_eq m0).trans ?_
    refine (zLet_eq m12).trans ?_
    refine (zLet_eq m13).trans ?_
    refine (if_neg w_0).trans ?_
    refine (if_pos w_1).trans ?_
    refine (zLet_eq m15).trans ?_
    refine (if_pos w_2).trans ?_
    refine (if_neg w_3).trans ?_
    refine (zLet_eq (show fn64 [ρ 13 + 8 * ρ 0] (γ 1) = (0, 0, γ 2) from l0.symm)).trans ?_
    refine (zLet_eq (show _ = γ 2 from rfl)).trans ?_
    refine (if_neg zQ0_).trans ?_
    rfl
  exact zGoo_ato hJ hD
theorem vn72a0_5 {S : Nat → zSpc} (hS62 : ∀ x g o v gz, S 62 x g o v gz → sn62 x g o v gz) (hS63 : ∀ x g o v gz, S 63 x g o v gz → sn63 x g o v gz) (hS64 : ∀ x g o v gz, S 64 x g o v gz → sn64 x g o v gz) (hS65 : ∀ x g o v gz, S 65 x g o v gz → sn65 x g o v gz) (hS68 : ∀ x g o v gz, S 68 x g o v gz → sn68 x g o v gz) {a : List Int} {g : rHp} : ∀ (ρ : Nat → Int) (γ : Nat → rHp), jn72 a g 0 (zAg (zNA a72_ 0) ρ) (γ 1) → zO 13 S a g q72a0_5 ρ γ → zGl (fun i vs g1 => jn72 a g i vs g1) (sn72 a g) q72a0_5 ρ γ := by
  intro ρ γ hJ h
  obtain ⟨ha, hg, hr, hf, hm, hc, hl⟩ := h
  have ha : a = [ρ 0, ρ 1, ρ 2, ρ 3, ρ 4, ρ 5, ρ 6, ρ 7, ρ 8, ρ 9, ρ 10, ρ 11, ρ 12] := ha
  subst ha
  subst hg
  have hJ : jn72 [ρ 0, ρ 1, ρ 2, ρ 3, ρ 4, ρ 5, ρ 6, ρ 7, ρ 8, ρ 9, ρ 10, ρ 11, ρ 12] (γ 0) 0 [ρ 0, ρ 1, ρ 2, ρ 3, ρ 4, ρ 5, ρ 6, ρ 7, ρ 8, ρ 9, ρ 10, ρ 11, ρ 12, ρ 13, ρ 14, ρ 15, ρ 16] (γ 1) := hJ
  obtain ⟨-, -, -, -, -, -, -, -, -, -, -, -, -, -, -, r15, -, r17, -⟩ := hr
  have r15 : (0 : Int) ≤ ρ 15 ∧ ρ 15 ≤ 0 := r15
  have r17 : (1 : Int) ≤ ρ 17 ∧ ρ 17 ≤ 4 := r17
  obtain ⟨-, f1, -⟩ := hf
  have f1 : (0 : Int) ≤ -ρ 13 + ρ 1 + (-1) := f1
  obtain ⟨w_0, w_1, w_2, w_3⟩ : (¬ (ρ 15 ≠ 0)) ∧ (ρ 13 ≠ ρ 1) ∧ (0 ≤ -ρ 17 + 4) ∧ (¬ (ρ 17 = 0)) := ⟨by omega, by omega, by omega, by omega⟩
  obtain ⟨m0, -, -, -, -, -, -, -, -, -, -, -, m12, m13, -, m15, -⟩ := hm
  have m0 : γ 0 73 0 (ρ 0) = ρ 1 := m0
  have m12 : γ 1 15 0 72 = ρ 14 := m12
  have m13 : γ 1 15 0 77 = ρ 15 := m13
  have m15 : γ 0 77 0 (ρ 13 + 8 * ρ 0) = ρ 17 := m15
  obtain ⟨l0, -⟩ := hl
  have l0 : sn64 [ρ 13 + 8 * ρ 0, ρ 17, ρ 18, ρ 10, ρ 16] (γ 1) 0 1 (γ 2) := hS64 _ _ _ _ _ l0
  show jn72 [ρ 0, ρ 1, ρ 2, ρ 3, ρ 4, ρ 5, ρ 6, ρ 7, ρ 8, ρ 9, ρ 10, ρ 11, ρ 12] (γ 0) 0 [ρ 0, ρ 1, ρ 2, ρ 3, ρ 4, ρ 5, ρ 6, ρ 7, ρ 8, ρ 9, ρ 10, ρ 11, ρ 12, ρ 13 + 1, ρ 14, ρ 15, ρ 16] (γ 2)
  have hD : en72 (γ 0) (0, [ρ 0, ρ 13], γ 1) = .inl (0, [ρ 0, ρ 13 + 1], γ 2) := by
    unfold en72
    refine (if_pos (show (0 : Nat) = 0 by decide)).trans ?_
    refine (zLet_eq (show _ = γ 1 from rfl)).trans ?_
    refine (zLet_eq (show _ = ρ 0 from rfl)).trans ?_
    refine (zLet_eq (show _ = ρ 13 from rfl)).trans ?_
    refine (zLet_eq m0).trans ?_
    refine (zLet_eq m12).trans ?_
    refine (zLet_eq m13).trans ?_
    refine (if_neg w_0).trans ?_
    refine (if_pos w_1).trans ?_
    refine (zLet_eq m15).trans ?_
    refine (if_pos w_2).trans ?_
    refine (if_neg w_3).trans ?_
    refine (zLet_eq (show fn64 [ρ 13 + 8 * ρ 0] (γ 1) = (0, 1, γ 2) from l0.symm)).trans ?_
    refine (zLet_eq (show _ = γ 2 from rfl)).trans ?_
    refine (if_pos zQ1_).trans ?_
    rfl
  exact zGoo_ato hJ hD
theorem vn72a0_6 {S : Nat → zSpc} (hS62 : ∀ x g o v gz, S 62 x g o v gz → sn62 x g o v gz) (hS63 : ∀ x g o v gz, S 63 x g o v gz → sn63 x g o v gz) (hS64 : ∀ x g o v gz, S 64 x g o v gz → sn64 x g o v gz) (hS65 : ∀ x g o v gz, S 65 x g o v gz → sn65 x g o v gz) (hS68 : ∀ x g o v gz, S 68 x g o v gz → sn68 x g o v gz) {a : List Int} {g : rHp} : ∀ (ρ : Nat → Int) (γ : Nat → rHp), jn72 a g 0 (zAg (zNA a72_ 0) ρ) (γ 1) → zO 13 S a g q72a0_6 ρ γ → zGl (fun i vs g1 => jn72 a g i vs g1) (sn72 a g) q72a0_6 ρ γ := by
  intro ρ γ hJ h
  obtain ⟨ha, hg, hr, hf, hm, hc, hl⟩ := h
  have ha : a = [ρ 0, ρ 1, ρ 2, ρ 3, ρ 4, ρ 5, ρ 6, ρ 7, ρ 8, ρ 9, ρ 10, ρ 11, ρ 12] := ha
  subst ha
  subst hg
  have hJ : jn72 [ρ 0, ρ 1, ρ 2, ρ 3, ρ 4, ρ 5, ρ 6, ρ 7, ρ 8, ρ 9, ρ 10, ρ 11, ρ 12] (γ 0) 0 [ρ 0, ρ 1, ρ 2, ρ 3, ρ 4, ρ 5, ρ 6, ρ 7, ρ 8, ρ 9, ρ 10, ρ 11, ρ 12, ρ 13, ρ 14, ρ 15, ρ 16] (γ 1) := hJ
  obtain ⟨-, -, -, -, -, -, -, -, -, -, -, -, -, -, -, r15, -, r17, -⟩ := hr
  have r15 : (0 : Int) ≤ ρ 15 ∧ ρ 15 ≤ 0 := r15
  have r17 : (5 : Int) ≤ ρ 17 ∧ ρ 17 ≤ 7 := r17
  obtain ⟨-, f1, -⟩ := hf
  have f1 : (0 : Int) ≤ -ρ 13 + ρ 1 + (-1) := f1
  obtain ⟨w_0, w_1, w_2⟩ : (¬ (ρ 15 ≠ 0)) ∧ (ρ 13 ≠ ρ 1) ∧ (¬ (0 ≤ -ρ 17 + 4)) := ⟨by omega, by omega, by omega⟩
  obtain ⟨m0, -, -, -, -, -, -, -, -, -, -, -, m12, m13, -, m15, -⟩ := hm
  have m0 : γ 0 73 0 (ρ 0) = ρ 1 := m0
  have m12 : γ 1 15 0 72 = ρ 14 := m12
  have m13 : γ 1 15 0 77 = ρ 15 := m13
  have m15 : γ 0 77 0 (ρ 13 + 8 * ρ 0) = ρ 17 := m15
  obtain ⟨l0, -⟩ := hl
  have l0 : sn65 [ρ 13 + 8 * ρ 0, ρ 17, ρ 18, ρ 10, ρ 16] (γ 1) 0 0 (γ 2) := hS65 _ _ _ _ _ l0
  show jn72 [ρ 0, ρ 1, ρ 2, ρ 3, ρ 4, ρ 5, ρ 6, ρ 7, ρ 8, ρ 9, ρ 10, ρ 11, ρ 12] (γ 0) 1 [ρ 0, ρ 1, ρ 2, ρ 3, ρ 4, ρ 5, ρ 6, ρ 7, ρ 8, ρ 9, ρ 10, ρ 11, ρ 12, ρ 13 + (-1), ρ 13 + 8 * ρ 0, ρ 14, ρ 15, ρ 16] (γ 2)
  have hD : en72 (γ 0) (0, [ρ 0, ρ 13], γ 1) = .inl (1, [ρ 0, ρ 13 + (-1), ρ 13 + 8 * ρ 0], γ 2) := by
    unfold en72
    refine (if_pos (show (0 : Nat) = 0 by decide)).trans ?_
    refine (zLet_eq (show _ = γ 1 from rfl)).trans ?_
    refine (zLet_eq (show _ = ρ 0 from rfl)).trans ?_
    refine (zLet_eq (show _ = ρ 13 from rfl)).trans ?_
    refine (zLet_eq m0).trans ?_
    refine (zLet_eq m12).trans ?_
    refine (zLet_eq m13).trans ?_
    refine (if_neg w_0).trans ?_
    refine (if_pos w_1).trans ?_
    refine (zLet_eq m15).trans ?_
    refine (if_neg w_2).trans ?_
    refine (zLet_eq (show fn65 [ρ 13 + 8 * ρ 0] (γ 1) = (0, 0, γ 2) from l0.symm)).trans ?_
    refine (zLet_eq (show _ = γ 2 from rfl)).trans ?_
    refine (if_neg zQ0_).trans ?_
    rfl
  exact zGoo_ato hJ hD
theorem vn72a0_7 {S : Nat → zSpc} (hS62 : ∀ x g o v gz, S 62 x g o v gz → sn62 x g o v gz) (hS63 : ∀ x g o v gz, S 63 x g o v gz → sn63 x g o v gz) (hS64 : ∀ x g o v gz, S 64 x g o v gz → sn64 x g o v gz) (hS65 : ∀ x g o v gz, S 65 x g o v gz → sn65 x g o v gz) (hS68 : ∀ x g o v gz, S 68 x g o v gz → sn68 x g o v gz) {a : List Int} {g : rHp} : ∀ (ρ : Nat → Int) (γ : Nat → rHp), jn72 a g 0 (zAg (zNA a72_ 0) ρ) (γ 1) → zO 13 S a g q72a0_7 ρ γ → zGl (fun i vs g1 => jn72 a g i vs g1) (sn72 a g) q72a0_7 ρ γ := by
  intro ρ γ hJ h
  obtain ⟨ha, hg, hr, hf, hm, hc, hl⟩ := h
  have ha : a = [ρ 0, ρ 1, ρ 2, ρ 3, ρ 4, ρ 5, ρ 6, ρ 7, ρ 8, ρ 9, ρ 10, ρ 11, ρ 12] := ha
  subst ha
  subst hg
  have hJ : jn72 [ρ 0, ρ 1, ρ 2, ρ 3, ρ 4, ρ 5, ρ 6, ρ 7, ρ 8, ρ 9, ρ 10, ρ 11, ρ 12] (γ 0) 0 [ρ 0, ρ 1, ρ 2, ρ 3, ρ 4, ρ 5, ρ 6, ρ 7, ρ 8, ρ 9, ρ 10, ρ 11, ρ 12, ρ 13, ρ 14, ρ 15, ρ 16] (γ 1) := hJ
  obtain ⟨-, -, -, -, -, -, -, -, -, -, -, -, -, -, -, r15, -, r17, -⟩ := hr
  have r15 : (0 : Int) ≤ ρ 15 ∧ ρ 15 ≤ 0 := r15
  have r17 : (5 : Int) ≤ ρ 17 ∧ ρ 17 ≤ 7 := r17
  obtain ⟨-, f1, -⟩ := hf
  have f1 : (0 : Int) ≤ -ρ 13 + ρ 1 + (-1) := f1
  obtain ⟨w_0, w_1, w_2⟩ : (¬ (ρ 15 ≠ 0)) ∧ (ρ 13 ≠ ρ 1) ∧ (¬ (0 ≤ -ρ 17 + 4)) := ⟨by omega, by omega, by omega⟩
  obtain ⟨m0, -, -, -, -, -, -, -, -, -, -, -, m12, m13, -, m15, -⟩ := hm
  have m0 : γ 0 73 0 (ρ 0) = ρ 1 := m0
  have m12 : γ 1 15 0 72 = ρ 14 := m12
  have m13 : γ 1 15 0 77 = ρ 15 := m13
  have m15 : γ 0 77 0 (ρ 13 + 8 * ρ 0) = ρ 17 := m15
  obtain ⟨l0, -⟩ := hl
  have l0 : sn65 [ρ 13 + 8 * ρ 0, ρ 17, ρ 18, ρ 10, ρ 16] (γ 1) 0 1 (γ 2) := hS65 _ _ _ _ _ l0
  show jn72 [ρ 0, ρ 1, ρ 2, ρ 3, ρ 4, ρ 5, ρ 6, ρ 7, ρ 8, ρ 9, ρ 10, ρ 11, ρ 12] (γ 0) 0 [ρ 0, ρ 1, ρ 2, ρ 3, ρ 4, ρ 5, ρ 6, ρ 7, ρ 8, ρ 9, ρ 10, ρ 11, ρ 12, ρ 13 + 1, ρ 14, ρ 15, ρ 16] (γ 2)
  have hD : en72 (γ 0) (0, [ρ 0, ρ 13], γ 1) = .inl (0, [ρ 0, ρ 13 + 1], γ 2) := by
    unfold en72
    refine (if_pos (show (0 : Nat) = 0 by decide)).trans ?_
    refine (zLet_eq (show _ = γ 1 from rfl)).trans ?_
    refine (zLet_eq (show _ = ρ 0 from rfl)).trans ?_
    refine (zLet_eq (show _ = ρ 13 from rfl)).trans ?_
    refine (zLet_eq m0).trans ?_
    refine (zLet_eq m12).trans ?_
    refine (zLet_eq m13).trans ?_
    refine (if_neg w_0).trans ?_
    refine (if_pos w_1).trans ?_
    refine (zLet_eq m15).trans ?_
    refine (if_neg w_2).trans ?_
    refine (zLet_eq (show fn65 [ρ 13 + 8 * ρ 0] (γ 1) = (0, 1, γ 2) from l0.symm)).trans ?_
    refine (zLet_eq (show _ = γ 2 from rfl)).trans ?_
    refine (if_pos zQ1_).trans ?_
    rfl
  exact zGoo_ato hJ hD
theorem vn72a0_8 {S : Nat → zSpc} (hS62 : ∀ x g o v gz, S 62 x g o v gz → sn62 x g o v gz) (hS63 : ∀ x g o v gz, S 63 x g o v gz → sn63 x g o v gz) (hS64 : ∀ x g o v gz, S 64 x g o v gz → sn64 x g o v gz) (hS65 : ∀ x g o v gz, S 65 x g o v gz → sn65 x g o v gz) (hS68 : ∀ x g o v gz, S 68 x g o v gz → sn68 x g o v gz) {a : List Int} {g : rHp} : ∀ (ρ : Nat → Int) (γ : Nat → rHp), jn72 a g 0 (zAg (zNA a72_ 0) ρ) (γ 1) → zO 13 S a g q72a0_8 ρ γ → zGl (fun i vs g1 => jn72 a g i vs g1) (sn72 a g) q72a0_8 ρ γ := by
  intro ρ γ hJ h
  obtain ⟨ha, hg, hr, hf, hm, hc, hl⟩ := h
  have ha : a = [ρ 0, ρ 1, ρ 2, ρ 3, ρ 4, ρ 5, ρ 6, ρ 7, ρ 8, ρ 9, ρ 10, ρ 11, ρ 12] := ha
  subst ha
  subst hg
  have hJ : jn72 [ρ 0, ρ 1, ρ 2, ρ 3, ρ 4, ρ 5, ρ 6, ρ 7, ρ 8, ρ 9, ρ 10, ρ 11, ρ 12] (γ 0) 0 [ρ 0, ρ 1, ρ 2, ρ 3, ρ 4, ρ 5, ρ 6, ρ 7, ρ 8, ρ 9, ρ 10, ρ 11, ρ 12, ρ 13, ρ 14, ρ 15, ρ 16] (γ 1) := hJ
  obtain ⟨-, -, -, -, -, -, -, -, -, -, -, -, -, -, -, r15, -⟩ := hr
  have r15 : (0 : Int) ≤ ρ 15 ∧ ρ 15 ≤ 0 := r15
  obtain ⟨-, -, -, f3, f4, -⟩ := hf
  have f3 : (0 : Int) ≤ -ρ 13 + ρ 1 := f3
  have f4 : (0 : Int) ≤ ρ 13 + -ρ 1 := f4
  obtain ⟨w_0, w_1⟩ : (¬ (ρ 15 ≠ 0)) ∧ (¬ (ρ 13 ≠ ρ 1)) := ⟨by omega, by omega⟩
  obtain ⟨m0, -, -, -, -, -, -, -, -, -, -, -, m12, m13, -⟩ := hm
  have m0 : γ 0 73 0 (ρ 0) = ρ 1 := m0
  have m12 : γ 1 15 0 72 = ρ 14 := m12
  have m13 : γ 1 15 0 77 = ρ 15 := m13
  obtain ⟨l0, -⟩ := hl
  have l0 : sn68 [ρ 0, ρ 2, ρ 6, ρ 17, ρ 7, ρ 16, ρ 9, ρ 15] (γ 1) 0 0 (γ 2) := hS68 _ _ _ _ _ l0
  show jn72 [ρ 0, ρ 1, ρ 2, ρ 3, ρ 4, ρ 5, ρ 6, ρ 7, ρ 8, ρ 9, ρ 10, ρ 11, ρ 12] (γ 0) 1 [ρ 0, ρ 1, ρ 2, ρ 3, ρ 4, ρ 5, ρ 6, ρ 7, ρ 8, ρ 9, ρ 10, ρ 11, ρ 12, ρ 13 + (-1), ρ 13 + 8 * ρ 0, ρ 14, ρ 19, ρ 18] (γ 2)
  have hD : en72 (γ 0) (0, [ρ 0, ρ 13], γ 1) = .inl (1, [ρ 0, ρ 13 + (-1), ρ 13 + 8 * ρ 0], γ 2) := by
    unfold en72
    refine (if_pos (show (0 : Nat) = 0 by decide)).trans ?_
    refine (zLet_eq (show _ = γ 1 from rfl)).trans ?_
    refine (zLet_eq (show _ = ρ 0 from rfl)).trans ?_
    refine (zLet_eq (show _ = ρ 13 from rfl)).trans ?_
    refine (zLet_eq m0).trans ?_
    refine (zLet_eq m12).trans ?_
    refine (zLet_eq m13).trans ?_
    refine (if_neg w_0).trans ?_
    refine (if_neg w_1).trans ?_
    refine (zLet_eq (show fn68 [ρ 0] (γ 1) = (0, 0, γ 2) from l0.symm)).trans ?_
    refine (zLet_eq (show _ = γ 2 from rfl)).trans ?_
    rfl
  exact zGoo_ato hJ hD
theorem vn72a1_0 {S : Nat → zSpc} (hS62 : ∀ x g o v gz, S 62 x g o v gz → sn62 x g o v gz) (hS63 : ∀ x g o v gz, S 63 x g o v gz → sn63 x g o v gz) (hS64 : ∀ x g o v gz, S 64 x g o v gz → sn64 x g o v gz) (hS65 : ∀ x g o v gz, S 65 x g o v gz → sn65 x g o v gz) (hS68 : ∀ x g o v gz, S 68 x g o v gz → sn68 x g o v gz) {a : List Int} {g : rHp} : ∀ (ρ : Nat → Int) (γ : Nat → rHp), jn72 a g 1 (zAg (zNA a72_ 1) ρ) (γ 1) → zO 13 S a g q72a1_0 ρ γ → zGl (fun i vs g1 => jn72 a g i vs g1) (sn72 a g) q72a1_0 ρ γ := by
  intro ρ γ hJ h
  obtain ⟨ha, hg, hr, hf, hm, hc, hl⟩ := h
  have ha : a = [ρ 0, ρ 1, ρ 2, ρ 3, ρ 4, ρ 5, ρ 6, ρ 7, ρ 8, ρ 9, ρ 10, ρ 11, ρ 12] := ha
  subst ha
  subst hg
  have hJ : jn72 [ρ 0, ρ 1, ρ 2, ρ 3, ρ 4, ρ 5, ρ 6, ρ 7, ρ 8, ρ 9, ρ 10, ρ 11, ρ 12] (γ 0) 1 [ρ 0, ρ 1, ρ 2, ρ 3, ρ 4, ρ 5, ρ 6, ρ 7, ρ 8, ρ 9, ρ 10, ρ 11, ρ 12, ρ 13, ρ 14, ρ 15, ρ 16, ρ 17] (γ 1) := hJ
  obtain ⟨-, -, -, -, -, -, -, -, -, -, -, -, -, r13, -⟩ := hr
  have r13 : ((-1) : Int) ≤ ρ 13 ∧ ρ 13 ≤ (-1) := r13
  have w_0 : ρ 13 < 0 := by omega
  obtain ⟨-, -, -, -, -, -, -, -, -, -, -, -, m12, m13, -⟩ := hm
  have m12 : γ 1 15 0 72 = ρ 15 := m12
  have m13 : γ 1 15 0 77 = ρ 16 := m13
  show sn72 [ρ 0, ρ 1, ρ 2, ρ 3, ρ 4, ρ 5, ρ 6, ρ 7, ρ 8, ρ 9, ρ 10, ρ 11, ρ 12] (γ 0) 0 0 (γ 1)
  have hD : en72 (γ 0) (1, [ρ 0, ρ 13, ρ 14], γ 1) = .inr (0, 0, γ 1) := by
    unfold en72
    refine (if_neg (show ¬ (1 : Nat) = 0 by decide)).trans ?_
    refine (if_pos (show (1 : Nat) = 1 by decide)).trans ?_
    refine (zLet_eq (show _ = γ 1 from rfl)).trans ?_
    refine (zLet_eq (show _ = ρ 0 from rfl)).trans ?_
    refine (zLet_eq (show _ = ρ 13 from rfl)).trans ?_
    refine (zLet_eq m12).trans ?_
    refine (zLet_eq m13).trans ?_
    refine (if_pos w_0).trans ?_
    rfl
  exact zGoo_aend hJ hD
theorem vn72a1_1 {S : Nat → zSpc} (hS62 : ∀ x g o v gz, S 62 x g o v gz → sn62 x g o v gz) (hS63 : ∀ x g o v gz, S 63 x g o v gz → sn63 x g o v gz) (hS64 : ∀ x g o v gz, S 64 x g o v gz → sn64 x g o v gz) (hS65 : ∀ x g o v gz, S 65 x g o v gz → sn65 x g o v gz) (hS68 : ∀ x g o v gz, S 68 x g o v gz → sn68 x g o v gz) {a : List Int} {g : rHp} : ∀ (ρ : Nat → Int) (γ : Nat → rHp), jn72 a g 1 (zAg (zNA a72_ 1) ρ) (γ 1) → zO 13 S a g q72a1_1 ρ γ → zGl (fun i vs g1 => jn72 a g i vs g1) (sn72 a g) q72a1_1 ρ γ := by
  intro ρ γ hJ h
  obtain ⟨ha, hg, hr, hf, hm, hc, hl⟩ := h
  have ha : a = [ρ 0, ρ 1, ρ 2, ρ 3, ρ 4, ρ 5, ρ 6, ρ 7, ρ 8, ρ 9, ρ 10, ρ 11, ρ 12] := ha
  subst ha
  subst hg
  have hJ : jn72 [ρ 0, ρ 1, ρ 2, ρ 3, ρ 4, ρ 5, ρ 6, ρ 7, ρ 8, ρ 9, ρ 10, ρ 11, ρ 12] (γ 0) 1 [ρ 0, ρ 1, ρ 2, ρ 3, ρ 4, ρ 5, ρ 6, ρ 7, ρ 8, ρ 9, ρ 10, ρ 11, ρ 12, ρ 13, ρ 14, ρ 15, ρ 16, ρ 17] (γ 1) := hJ
  obtain ⟨-, -, -, -, -, -, -, -, -, -, -, -, -, r13, -, -, r16, -⟩ := hr
  have r13 : (0 : Int) ≤ ρ 13 ∧ ρ 13 ≤ 7 := r13
  have r16 : (1 : Int) ≤ ρ 16 ∧ ρ 16 ≤ 3 := r16
  obtain ⟨w_0, w_1⟩ : (¬ (ρ 13 < 0)) ∧ (ρ 16 ≠ 0) := ⟨by omega, by omega⟩
  obtain ⟨-, -, -, -, -, -, -, -, -, -, -, -, m12, m13, -⟩ := hm
  have m12 : γ 1 15 0 72 = ρ 15 := m12
  have m13 : γ 1 15 0 77 = ρ 16 := m13
  show sn72 [ρ 0, ρ 1, ρ 2, ρ 3, ρ 4, ρ 5, ρ 6, ρ 7, ρ 8, ρ 9, ρ 10, ρ 11, ρ 12] (γ 0) 0 0 (γ 1)
  have hD : en72 (γ 0) (1, [ρ 0, ρ 13, ρ 14], γ 1) = .inr (0, 0, γ 1) := by
    unfold en72
    refine (if_neg (show ¬ (1 : Nat) = 0 by decide)).trans ?_
    refine (if_pos (show (1 : Nat) = 1 by decide)).trans ?_
    refine (zLet_eq (show _ = γ 1 from rfl)).trans ?_
    refine (zLet_eq (show _ = ρ 0 from rfl)).trans ?_
    refine (zLet_eq (show _ = ρ 13 from rfl)).trans ?_
    refine (zLet_eq m12).trans ?_
    refine (zLet_eq m13).trans ?_
    refine (if_neg w_0).trans ?_
    refine (if_pos w_1).trans ?_
    rfl
  exact zGoo_aend hJ hD
theorem vn72a1_2 {S : Nat → zSpc} (hS62 : ∀ x g o v gz, S 62 x g o v gz → sn62 x g o v gz) (hS63 : ∀ x g o v gz, S 63 x g o v gz → sn63 x g o v gz) (hS64 : ∀ x g o v gz, S 64 x g o v gz → sn64 x g o v gz) (hS65 : ∀ x g o v gz, S 65 x g o v gz → sn65 x g o v gz) (hS68 : ∀ x g o v gz, S 68 x g o v gz → sn68 x g o v gz) {a : List Int} {g : rHp} : ∀ (ρ : Nat → Int) (γ : Nat → rHp), jn72 a g 1 (zAg (zNA a72_ 1) ρ) (γ 1) → zO 13 S a g q72a1_2 ρ γ → zGl (fun i vs g1 => jn72 a g i vs g1) (sn72 a g) q72a1_2 ρ γ := by
  intro ρ γ hJ h
  obtain ⟨ha, hg, hr, hf, hm, hc, hl⟩ := h
  have ha : a = [ρ 0, ρ 1, ρ 2, ρ 3, ρ 4, ρ 5, ρ 6, ρ 7, ρ 8, ρ 9, ρ 10, ρ 11, ρ 12] := ha
  subst ha
  subst hg
  have hJ : jn72 [ρ 0, ρ 1, ρ 2, ρ 3, ρ 4, ρ 5, ρ 6, ρ 7, ρ 8, ρ 9, ρ 10, ρ 11, ρ 12] (γ 0) 1 [ρ 0, ρ 1, ρ 2, ρ 3, ρ 4, ρ 5, ρ 6, ρ 7, ρ 8, ρ 9, ρ 10, ρ 11, ρ 12, ρ 13, ρ 14, ρ 15, ρ 16, ρ 17] (γ 1) := hJ
  obtain ⟨-, -, -, -, -, -, -, -, -, -, -, -, -, r13, -, r15, r16, -, r18, -, -, r21, -⟩ := hr
  have r13 : (0 : Int) ≤ ρ 13 ∧ ρ 13 ≤ 7 := r13
  have r15 : (0 : Int) ≤ ρ 15 ∧ ρ 15 ≤ 49999 := r15
  have r16 : (0 : Int) ≤ ρ 16 ∧ ρ 16 ≤ 0 := r16
  have r18 : (0 : Int) ≤ ρ 18 ∧ ρ 18 ≤ 0 := r18
  have r21 : (0 : Int) ≤ ρ 21 ∧ ρ 21 ≤ 1999 := r21
  obtain ⟨w_0, w_1, w_2, w_3, w_4, w_5⟩ : (¬ (ρ 13 < 0)) ∧ (¬ (ρ 16 ≠ 0)) ∧ (0 ≤ -ρ 18 + 4) ∧ (ρ 18 = 0) ∧ (ρ 21 ≥ 0) ∧ (ρ 15 + 1 ≤ 50000) := ⟨by omega, by omega, by omega, by omega, by omega, by omega⟩
  obtain ⟨-, -, -, -, -, -, -, -, -, -, -, -, m12, m13, -, m15, m16, m17, -⟩ := hm
  have m12 : γ 1 15 0 72 = ρ 15 := m12
  have m13 : γ 1 15 0 77 = ρ 16 := m13
  have m15 : γ 0 77 0 (ρ 13 + 8 * ρ 0) = ρ 18 := m15
  have m16 : γ 1 104 0 (ρ 13) = ρ 19 := m16
  have m17 : γ 1 96 0 (ρ 19) = ρ 20 := m17
  obtain ⟨⟨⟨-, c3⟩, c4⟩, -⟩ := hc
  have c3 : γ 3 = rUp (γ 2) 15 0 72 (ρ 15 + 1) := c3
  have c4 : γ 4 = rUp (γ 3) 104 0 (ρ 13) (ρ 21) := c4
  obtain ⟨l0, l1, -⟩ := hl
  have l0 : sn62 [ρ 0, ρ 13, ρ 20, ρ 10, ρ 17, ρ 11, ρ 12] (γ 1) 0 (ρ 21) (γ 2) := hS62 _ _ _ _ _ l0
  have l1 : sn63 [ρ 13 + 8 * ρ 0, ρ 21] (γ 4) 0 0 (γ 5) := hS63 _ _ _ _ _ l1
  show jn72 [ρ 0, ρ 1, ρ 2, ρ 3, ρ 4, ρ 5, ρ 6, ρ 7, ρ 8, ρ 9, ρ 10, ρ 11, ρ 12] (γ 0) 0 [ρ 0, ρ 1, ρ 2, ρ 3, ρ 4, ρ 5, ρ 6, ρ 7, ρ 8, ρ 9, ρ 10, ρ 11, ρ 12, ρ 13 + 1, ρ 15 + 1, ρ 16, ρ 17] (γ 5)
  have hD : en72 (γ 0) (1, [ρ 0, ρ 13, ρ 14], γ 1) = .inl (0, [ρ 0, ρ 13 + 1], γ 5) := by
    unfold en72
    refine (if_neg (show ¬ (1 : Nat) = 0 by decide)).trans ?_
    refine (if_pos (show (1 : Nat) = 1 by decide)).trans ?_
    refine (zLet_eq (show _ = γ 1 from rfl)).trans ?_
    refine (zLet_eq (show _ = ρ 0 from rfl)).trans ?_
    refine (zLet_eq (show _ = ρ 13 from rfl)).trans ?_
    refine (zLet_eq m12).trans ?_
    refine (zLet_eq m13).trans ?_
    refine (if_neg w_0).trans ?_
    refine (if_neg w_1).trans ?_
    refine (zLet_eq m15).trans ?_
    refine (if_pos w_2).trans ?_
    refine (if_pos w_3).trans ?_
    refine (zLet_eq m16).trans ?_
    refine (zLet_eq m17).trans ?_
    refine (zLet_eq (show fn62 [ρ 0, ρ 13, ρ 20] (γ 1) = (0, ρ 21, γ 2) from l0.symm)).trans ?_
    refine (zLet_eq (show _ = γ 2 from rfl)).trans ?_
    refine (zLet_eq (show _ = ρ 21 from rfl)).trans ?_
    refine (if_pos w_4).trans ?_
    refine (zLet_eq c3.symm).trans ?_
    refine (if_pos w_5).trans ?_
    refine (zLet_eq c4.symm).trans ?_
    refine (zLet_eq (show fn63 [ρ 13 + 8 * ρ 0, ρ 21] (γ 4) = (0, 0, γ 5) from l1.symm)).trans ?_
    refine (zLet_eq (show _ = γ 5 from rfl)).trans ?_
    rfl
  exact zGoo_ato hJ hD
theorem vn72a1_3 {S : Nat → zSpc} (hS62 : ∀ x g o v gz, S 62 x g o v gz → sn62 x g o v gz) (hS63 : ∀ x g o v gz, S 63 x g o v gz → sn63 x g o v gz) (hS64 : ∀ x g o v gz, S 64 x g o v gz → sn64 x g o v gz) (hS65 : ∀ x g o v gz, S 65 x g o v gz → sn65 x g o v gz) (hS68 : ∀ x g o v gz, S 68 x g o v gz → sn68 x g o v gz) {a : List Int} {g : rHp} : ∀ (ρ : Nat → Int) (γ : Nat → rHp), jn72 a g 1 (zAg (zNA a72_ 1) ρ) (γ 1) → zO 13 S a g q72a1_3 ρ γ → zGl (fun i vs g1 => jn72 a g i vs g1) (sn72 a g) q72a1_3 ρ γ := by
  intro ρ γ hJ h
  obtain ⟨ha, hg, hr, hf, hm, hc, hl⟩ := h
  have ha : a = [ρ 0, ρ 1, ρ 2, ρ 3, ρ 4, ρ 5, ρ 6, ρ 7, ρ 8, ρ 9, ρ 10, ρ 11, ρ 12] := ha
  subst ha
  subst hg
  have hJ : jn72 [ρ 0, ρ 1, ρ 2, ρ 3, ρ 4, ρ 5, ρ 6, ρ 7, ρ 8, ρ 9, ρ 10, ρ 11, ρ 12] (γ 0) 1 [ρ 0, ρ 1, ρ 2, ρ 3, ρ 4, ρ 5, ρ 6, ρ 7, ρ 8, ρ 9, ρ 10, ρ 11, ρ 12, ρ 13, ρ 14, ρ 15, ρ 16, ρ 17] (γ 1) := hJ
  obtain ⟨-, -, -, -, -, -, -, -, -, -, -, -, -, r13, -, r15, r16, -, r18, -, -, r21, -⟩ := hr
  have r13 : (0 : Int) ≤ ρ 13 ∧ ρ 13 ≤ 7 := r13
  have r15 : (50000 : Int) ≤ ρ 15 ∧ ρ 15 ≤ 50000 := r15
  have r16 : (0 : Int) ≤ ρ 16 ∧ ρ 16 ≤ 0 := r16
  have r18 : (0 : Int) ≤ ρ 18 ∧ ρ 18 ≤ 0 := r18
  have r21 : (0 : Int) ≤ ρ 21 ∧ ρ 21 ≤ 1999 := r21
  obtain ⟨w_0, w_1, w_2, w_3, w_4, w_5⟩ : (¬ (ρ 13 < 0)) ∧ (¬ (ρ 16 ≠ 0)) ∧ (0 ≤ -ρ 18 + 4) ∧ (ρ 18 = 0) ∧ (ρ 21 ≥ 0) ∧ (¬ (ρ 15 + 1 ≤ 50000)) := ⟨by omega, by omega, by omega, by omega, by omega, by omega⟩
  obtain ⟨-, -, -, -, -, -, -, -, -, -, -, -, m12, m13, -, m15, m16, m17, -⟩ := hm
  have m12 : γ 1 15 0 72 = ρ 15 := m12
  have m13 : γ 1 15 0 77 = ρ 16 := m13
  have m15 : γ 0 77 0 (ρ 13 + 8 * ρ 0) = ρ 18 := m15
  have m16 : γ 1 104 0 (ρ 13) = ρ 19 := m16
  have m17 : γ 1 96 0 (ρ 19) = ρ 20 := m17
  obtain ⟨⟨⟨⟨-, c3⟩, c4⟩, c5⟩, -⟩ := hc
  have c3 : γ 3 = rUp (γ 2) 15 0 72 (ρ 15 + 1) := c3
  have c4 : γ 4 = rUp (γ 3) 15 0 77 2 := c4
  have c5 : γ 5 = rUp (γ 4) 104 0 (ρ 13) (ρ 21) := c5
  obtain ⟨l0, l1, -⟩ := hl
  have l0 : sn62 [ρ 0, ρ 13, ρ 20, ρ 10, ρ 17, ρ 11, ρ 12] (γ 1) 0 (ρ 21) (γ 2) := hS62 _ _ _ _ _ l0
  have l1 : sn63 [ρ 13 + 8 * ρ 0, ρ 21] (γ 5) 0 0 (γ 6) := hS63 _ _ _ _ _ l1
  show jn72 [ρ 0, ρ 1, ρ 2, ρ 3, ρ 4, ρ 5, ρ 6, ρ 7, ρ 8, ρ 9, ρ 10, ρ 11, ρ 12] (γ 0) 0 [ρ 0, ρ 1, ρ 2, ρ 3, ρ 4, ρ 5, ρ 6, ρ 7, ρ 8, ρ 9, ρ 10, ρ 11, ρ 12, ρ 13 + 1, ρ 15 + 1, 2, ρ 17] (γ 6)
  have hD : en72 (γ 0) (1, [ρ 0, ρ 13, ρ 14], γ 1) = .inl (0, [ρ 0, ρ 13 + 1], γ 6) := by
    unfold en72
    refine (if_neg (show ¬ (1 : Nat) = 0 by decide)).trans ?_
    refine (if_pos (show (1 : Nat) = 1 by decide)).trans ?_
    refine (zLet_eq (show _ = γ 1 from rfl)).trans ?_
    refine (zLet_eq (show _ = ρ 0 from rfl)).trans ?_
    refine (zLet_eq (show _ = ρ 13 from rfl)).trans ?_
    refine (zLet_eq m12).trans ?_
    refine (zLet_eq m13).trans ?_
    refine (if_neg w_0).trans ?_
    refine (if_neg w_1).trans ?_
    refine (zLet_eq m15).trans ?_
    refine (if_pos w_2).trans ?_
    refine (if_pos w_3).trans ?_
    refine (zLet_eq m16).trans ?_
    refine (zLet_eq m17).trans ?_
    refine (zLet_eq (show fn62 [ρ 0, ρ 13, ρ 20] (γ 1) = (0, ρ 21, γ 2) from l0.symm)).trans ?_
    refine (zLet_eq (show _ = γ 2 from rfl)).trans ?_
    refine (zLet_eq (show _ = ρ 21 from rfl)).trans ?_
    refine (if_pos w_4).trans ?_
    refine (zLet_eq c3.symm).trans ?_
    refine (if_neg w_5).trans ?_
    refine (zLet_eq c4.symm).trans ?_
    refine (zLet_eq c5.symm).trans ?_
    refine (zLet_eq (show fn63 [ρ 13 + 8 * ρ 0, ρ 21] (γ 5) = (0, 0, γ 6) from l1.symm)).trans ?_
    refine (zLet_eq (show _ = γ 6 from rfl)).trans ?_
    rfl
  exact zGoo_ato hJ hD
theorem vn72a1_4 {S : Nat → zSpc} (hS62 : ∀ x g o v gz, S 62 x g o v gz → sn62 x g o v gz) (hS63 : ∀ x g o v gz, S 63 x g o v gz → sn63 x g o v gz) (hS64 : ∀ x g o v gz, S 64 x g o v gz → sn64 x g o v gz) (hS65 : ∀ x g o v gz, S 65 x g o v gz → sn65 x g o v gz) (hS68 : ∀ x g o v gz, S 68 x g o v gz → sn68 x g o v gz) {a : List Int} {g : rHp} : ∀ (ρ : Nat → Int) (γ : Nat → rHp), jn72 a g 1 (zAg (zNA a72_ 1) ρ) (γ 1) → zO 13 S a g q72a1_4 ρ γ → zGl (fun i vs g1 => jn72 a g i vs g1) (sn72 a g) q72a1_4 ρ γ := by
  intro ρ γ hJ h
  obtain ⟨ha, hg, hr, hf, hm, hc, hl⟩ := h
  have ha : a = [ρ 0, ρ 1, ρ 2, ρ 3, ρ 4, ρ 5, ρ 6, ρ 7, ρ 8, ρ 9, ρ 10, ρ 11, ρ 12] := ha
  subst ha
  subst hg
  have hJ : jn72 [ρ 0, ρ 1, ρ 2, ρ 3, ρ 4, ρ 5, ρ 6, ρ 7, ρ 8, ρ 9, ρ 10, ρ 11, ρ 12] (γ 0) 1 [ρ 0, ρ 1, ρ 2, ρ 3, ρ 4, ρ 5, ρ 6, ρ 7, ρ 8, ρ 9, ρ 10, ρ 11, ρ 12, ρ 13, ρ 14, ρ 15, ρ 16, ρ 17] (γ 1) := hJ
  obtain ⟨-, -, -, -, -, -, -, -, -, -, -, -, -, r13, -, -, r16, -, r18, -, -, r21, -⟩ := hr
  have r13 : (0 : Int) ≤ ρ 13 ∧ ρ 13 ≤ 7 := r13
  have r16 : (0 : Int) ≤ ρ 16 ∧ ρ 16 ≤ 0 := r16
  have r18 : (0 : Int) ≤ ρ 18 ∧ ρ 18 ≤ 0 := r18
  have r21 : ((-1) : Int) ≤ ρ 21 ∧ ρ 21 ≤ (-1) := r21
  obtain ⟨w_0, w_1, w_2, w_3, w_4⟩ : (¬ (ρ 13 < 0)) ∧ (¬ (ρ 16 ≠ 0)) ∧ (0 ≤ -ρ 18 + 4) ∧ (ρ 18 = 0) ∧ (¬ (ρ 21 ≥ 0)) := ⟨by omega, by omega, by omega, by omega, by omega⟩
  obtain ⟨-, -, -, -, -, -, -, -, -, -, -, -, m12, m13, -, m15, m16, m17, -⟩ := hm
  have m12 : γ 1 15 0 72 = ρ 15 := m12
  have m13 : γ 1 15 0 77 = ρ 16 := m13
  have m15 : γ 0 77 0 (ρ 13 + 8 * ρ 0) = ρ 18 := m15
  have m16 : γ 1 104 0 (ρ 13) = ρ 19 := m16
  have m17 : γ 1 96 0 (ρ 19) = ρ 20 := m17
  obtain ⟨l0, -⟩ := hl
  have l0 : sn62 [ρ 0, ρ 13, ρ 20, ρ 10, ρ 17, ρ 11, ρ 12] (γ 1) 0 (ρ 21) (γ 2) := hS62 _ _ _ _ _ l0
  show jn72 [ρ 0, ρ 1, ρ 2, ρ 3, ρ 4, ρ 5, ρ 6, ρ 7, ρ 8, ρ 9, ρ 10, ρ 11, ρ 12] (γ 0) 1 [ρ 0, ρ 1, ρ 2, ρ 3, ρ 4, ρ 5, ρ 6, ρ 7, ρ 8, ρ 9, ρ 10, ρ 11, ρ 12, ρ 13 + (-1), ρ 13 + 8 * ρ 0, ρ 15, ρ 16, ρ 17] (γ 2)
  have hD : en72 (γ 0) (1, [ρ 0, ρ 13, ρ 14], γ 1) = .inl (1, [ρ 0, ρ 13 + (-1), ρ 13 + 8 * ρ 0], γ 2) := by
    unfold en72
    refine (if_neg (show ¬ (1 : Nat) = 0 by decide)).trans ?_
    refine (if_pos (show (1 : Nat) = 1 by decide)).trans ?_
    refine (zLet_eq (show _ = γ 1 from rfl)).trans ?_
    refine (zLet_eq (show _ = ρ 0 from rfl)).trans ?_
    refine (zLet_eq (show _ = ρ 13 from rfl)).trans ?_
    refine (zLet_eq m12).trans ?_
    refine (zLet_eq m13).trans ?_
    refine (if_neg w_0).trans ?_
    refine (if_neg w_1).trans ?_
    refine (zLet_eq m15).trans ?_
    refine (if_pos w_2).trans ?_
    refine (if_pos w_3).trans ?_
    refine (zLet_eq m16).trans ?_
    refine (zLet_eq m17).trans ?_
    refine (zLet_eq (show fn62 [ρ 0, ρ 13, ρ 20] (γ 1) = (0, ρ 21, γ 2) from l0.symm)).trans ?_
    refine (zLet_eq (show _ = γ 2 from rfl)).trans ?_
    refine (zLet_eq (show _ = ρ 21 from rfl)).trans ?_
    refine (if_neg w_4).trans ?_
    rfl
  exact zGoo_ato hJ hD
theorem vn72a1_5 {S : Nat → zSpc} (hS62 : ∀ x g o v gz, S 62 x g o v gz → sn62 x g o v gz) (hS63 : ∀ x g o v gz, S 63 x g o v gz → sn63 x g o v gz) (hS64 : ∀ x g o v gz, S 64 x g o v gz → sn64 x g o v gz) (hS65 : ∀ x g o v gz, S 65 x g o v gz → sn65 x g o v gz) (hS68 : ∀ x g o v gz, S 68 x g o v gz → sn68 x g o v gz) {a : List Int} {g : rHp} : ∀ (ρ : Nat → Int) (γ : Nat → rHp), jn72 a g 1 (zAg (zNA a72_ 1) ρ) (γ 1) → zO 13 S a g q72a1_5 ρ γ → zGl (fun i vs g1 => jn72 a g i vs g1) (sn72 a g) q72a1_5 ρ γ := by
  intro ρ γ hJ h
  obtain ⟨ha, hg, hr, hf, hm, hc, hl⟩ := h
  have ha : a = [ρ 0, ρ 1, ρ 2, ρ 3, ρ 4, ρ 5, ρ 6, ρ 7, ρ 8, ρ 9, ρ 10, ρ 11, ρ 12] := ha
  subst ha
  subst hg
  have hJ : jn72 [ρ 0, ρ 1, ρ 2, ρ 3, ρ 4, ρ 5, ρ 6, ρ 7, ρ 8, ρ 9, ρ 10, ρ 11, ρ 12] (γ 0) 1 [ρ 0, ρ 1, ρ 2, ρ 3, ρ 4, ρ 5, ρ 6, ρ 7, ρ 8, ρ 9, ρ 10, ρ 11, ρ 12, ρ 13, ρ 14, ρ 15, ρ 16, ρ 17] (γ 1) := hJ
  obtain ⟨-, -, -, -, -, -, -, -, -, -, -, -, -, r13, -, -, r16, -, r18, -⟩ := hr
  have r13 : (0 : Int) ≤ ρ 13 ∧ ρ 13 ≤ 7 := r13
  have r16 : (0 : Int) ≤ ρ 16 ∧ ρ 16 ≤ 0 := r16
  have r18 : (1 : Int) ≤ ρ 18 ∧ ρ 18 ≤ 4 := r18
  obtain ⟨w_0, w_1, w_2, w_3⟩ : (¬ (ρ 13 < 0)) ∧ (¬ (ρ 16 ≠ 0)) ∧ (0 ≤ -ρ 18 + 4) ∧ (¬ (ρ 18 = 0)) := ⟨by omega, by omega, by omega, by omega⟩
  obtain ⟨-, -, -, -, -, -, -, -, -, -, -, -, m12, m13, -, m15, -⟩ := hm
  have m12 : γ 1 15 0 72 = ρ 15 := m12
  have m13 : γ 1 15 0 77 = ρ 16 := m13
  have m15 : γ 0 77 0 (ρ 13 + 8 * ρ 0) = ρ 18 := m15
  show jn72 [ρ 0, ρ 1, ρ 2, ρ 3, ρ 4, ρ 5, ρ 6, ρ 7, ρ 8, ρ 9, ρ 10, ρ 11, ρ 12] (γ 0) 1 [ρ 0, ρ 1, ρ 2, ρ 3, ρ 4, ρ 5, ρ 6, ρ 7, ρ 8, ρ 9, ρ 10, ρ 11, ρ 12, ρ 13 + (-1), ρ 13 + 8 * ρ 0, ρ 15, ρ 16, ρ 17] (γ 1)
  have hD : en72 (γ 0) (1, [ρ 0, ρ 13, ρ 14], γ 1) = .inl (1, [ρ 0, ρ 13 + (-1), ρ 13 + 8 * ρ 0], γ 1) := by
    unfold en72
    refine (if_neg (show ¬ (1 : Nat) = 0 by decide)).trans ?_
    refine (if_pos (show (1 : Nat) = 1 by decide)).trans ?_
    refine (zLet_eq (show _ = γ 1 from rfl)).trans ?_
    refine (zLet_eq (show _ = ρ 0 from rfl)).trans ?_
    refine (zLet_eq (show _ = ρ 13 from rfl)).trans ?_
    refine (zLet_eq m12).trans ?_
    refine (zLet_eq m13).trans ?_
    refine (if_neg w_0).trans ?_
    refine (if_neg w_1).trans ?_
    refine (zLet_eq m15).trans ?_
    refine (if_pos w_2).trans ?_
    refine (if_neg w_3).trans ?_
    rfl
  exact zGoo_ato hJ hD
theorem vn72a1_6 {S : Nat → zSpc} (hS62 : ∀ x g o v gz, S 62 x g o v gz → sn62 x g o v gz) (hS63 : ∀ x g o v gz, S 63 x g o v gz → sn63 x g o v gz) (hS64 : ∀ x g o v gz, S 64 x g o v gz → sn64 x g o v gz) (hS65 : ∀ x g o v gz, S 65 x g o v gz → sn65 x g o v gz) (hS68 : ∀ x g o v gz, S 68 x g o v gz → sn68 x g o v gz) {a : List Int} {g : rHp} : ∀ (ρ : Nat → Int) (γ : Nat → rHp), jn72 a g 1 (zAg (zNA a72_ 1) ρ) (γ 1) → zO 13 S a g q72a1_6 ρ γ → zGl (fun i vs g1 => jn72 a g i vs g1) (sn72 a g) q72a1_6 ρ γ := by
  intro ρ γ hJ h
  obtain ⟨ha, hg, hr, hf, hm, hc, hl⟩ := h
  have ha : a = [ρ 0, ρ 1, ρ 2, ρ 3, ρ 4, ρ 5, ρ 6, ρ 7, ρ 8, ρ 9, ρ 10, ρ 11, ρ 12] := ha
  subst ha
  subst hg
  have hJ : jn72 [ρ 0, ρ 1, ρ 2, ρ 3, ρ 4, ρ 5, ρ 6, ρ 7, ρ 8, ρ 9, ρ 10, ρ 11, ρ 12] (γ 0) 1 [ρ 0, ρ 1, ρ 2, ρ 3, ρ 4, ρ 5, ρ 6, ρ 7, ρ 8, ρ 9, ρ 10, ρ 11, ρ 12, ρ 13, ρ 14, ρ 15, ρ 16, ρ 17] (γ 1) := hJ
  obtain ⟨-, -, -, -, -, -, -, -, -, -, -, -, -, r13, -, -, r16, -, r18, -⟩ := hr
  have r13 : (0 : Int) ≤ ρ 13 ∧ ρ 13 ≤ 7 := r13
  have r16 : (0 : Int) ≤ ρ 16 ∧ ρ 16 ≤ 0 := r16
  have r18 : (5 : Int) ≤ ρ 18 ∧ ρ 18 ≤ 7 := r18
  obtain ⟨w_0, w_1, w_2⟩ : (¬ (ρ 13 < 0)) ∧ (¬ (ρ 16 ≠ 0)) ∧ (¬ (0 ≤ -ρ 18 + 4)) := ⟨by omega, by omega, by omega⟩
  obtain ⟨-, -, -, -, -, -, -, -, -, -, -, -, m12, m13, -, m15, -⟩ := hm
  have m12 : γ 1 15 0 72 = ρ 15 := m12
  have m13 : γ 1 15 0 77 = ρ 16 := m13
  have m15 : γ 0 77 0 (ρ 13 + 8 * ρ 0) = ρ 18 := m15
  show jn72 [ρ 0, ρ 1, ρ 2, ρ 3, ρ 4, ρ 5, ρ 6, ρ 7, ρ 8, ρ 9, ρ 10, ρ 11, ρ 12] (γ 0) 1 [ρ 0, ρ 1, ρ 2, ρ 3, ρ 4, ρ 5, ρ 6, ρ 7, ρ 8, ρ 9, ρ 10, ρ 11, ρ 12, ρ 13 + (-1), ρ 13 + 8 * ρ 0, ρ 15, ρ 16, ρ 17] (γ 1)
  have hD : en72 (γ 0) (1, [ρ 0, ρ 13, ρ 14], γ 1) = .inl (1, [ρ 0, ρ 13 + (-1), ρ 13 + 8 * ρ 0], γ 1) := by
    unfold en72
    refine (if_neg (show ¬ (1 : Nat) = 0 by decide)).trans ?_
    refine (if_pos (show (1 : Nat) = 1 by decide)).trans ?_
    refine (zLet_eq (show _ = γ 1 from rfl)).trans ?_
    refine (zLet_eq (show _ = ρ 0 from rfl)).trans ?_
    refine (zLet_eq (show _ = ρ 13 from rfl)).trans ?_
    refine (zLet_eq m12).trans ?_
    refine (zLet_eq m13).trans ?_
    refine (if_neg w_0).trans ?_
    refine (if_neg w_1).trans ?_
    refine (zLet_eq m15).trans ?_
    refine (if_neg w_2).trans ?_
    rfl
  exact zGoo_ato hJ hD
theorem yn72 {S : Nat → zSpc} (hS62 : ∀ x g o v gz, S 62 x g o v gz → sn62 x g o v gz) (hS63 : ∀ x g o v gz, S 63 x g o v gz → sn63 x g o v gz) (hS64 : ∀ x g o v gz, S 64 x g o v gz → sn64 x g o v gz) (hS65 : ∀ x g o v gz, S 65 x g o v gz → sn65 x g o v gz) (hS68 : ∀ x g o v gz, S 68 x g o v gz → sn68 x g o v gz) : ∀ x g o v gz, zSem uW uT w72_.2.2.2.1 w72_.2.2.1.1.length S q72 (fun i => q72a.getD i []) (zNA a72_) x g o v gz → sn72 x g o v gz := by
  intro a g o v gz h
  exact zSem_all (l0 := q72) (las := q72a) (S := S) (J := (fun i vs g1 => jn72 a g i vs g1)) (P := sn72 a g) (fun _ => (show zAll _ [q72_0] from (zAll_c (vn72_0 hS62 hS63 hS64 hS65 hS68) zAll_n))) (fun _ => (show zAllI _ 0 [q72a0, q72a1] from ⟨(show zAll _ [q72a0_0, q72a0_1, q72a0_2, q72a0_3, q72a0_4, q72a0_5, q72a0_6, q72a0_7, q72a0_8] from (zAll_c (vn72a0_0 hS62 hS63 hS64 hS65 hS68) (zAll_c (vn72a0_1 hS62 hS63 hS64 hS65 hS68) (zAll_c (vn72a0_2 hS62 hS63 hS64 hS65 hS68) (zAll_c (vn72a0_3 hS62 hS63 hS64 hS65 hS68) (zAll_c (vn72a0_4 hS62 hS63 hS64 hS65 hS68) (zAll_c (vn72a0_5 hS62 hS63 hS64 hS65 hS68) (zAll_c (vn72a0_6 hS62 hS63 hS64 hS65 hS68) (zAll_c (vn72a0_7 hS62 hS63 hS64 hS65 hS68) (zAll_c (vn72a0_8 hS62 hS63 hS64 hS65 hS68) zAll_n)))))))))), ⟨(show zAll _ [q72a1_0, q72a1_1, q72a1_2, q72a1_3, q72a1_4, q72a1_5, q72a1_6] from (zAll_c (vn72a1_0 hS62 hS63 hS64 hS65 hS68) (zAll_c (vn72a1_1 hS62 hS63 hS64 hS65 hS68) (zAll_c (vn72a1_2 hS62 hS63 hS64 hS65 hS68) (zAll_c (vn72a1_3 hS62 hS63 hS64 hS65 hS68) (zAll_c (vn72a1_4 hS62 hS63 hS64 hS65 hS68) (zAll_c (vn72a1_5 hS62 hS63 hS64 hS65 hS68) (zAll_c (vn72a1_6 hS62 hS63 hS64 hS65 hS68) zAll_n)))))))), trivial⟩⟩)) h
theorem vn73_0 {S : Nat → zSpc} (hS62 : ∀ x g o v gz, S 62 x g o v gz → sn62 x g o v gz) (hS63 : ∀ x g o v gz, S 63 x g o v gz → sn63 x g o v gz) (hS64 : ∀ x g o v gz, S 64 x g o v gz → sn64 x g o v gz) (hS65 : ∀ x g o v gz, S 65 x g o v gz → sn65 x g o v gz) (hS70 : ∀ x g o v gz, S 70 x g o v gz → sn70 x g o v gz) {a : List Int} {g : rHp} : ∀ (ρ : Nat → Int) (γ : Nat → rHp), zO 13 S a g q73_0 ρ γ → zGl (fun i vs g1 => jn73 a g i vs g1) (sn73 a g) q73_0 ρ γ := by
  intro ρ γ h
  obtain ⟨ha, hg, hr, hf, hm, hc, hl⟩ := h
  have ha : a = [ρ 0, ρ 1, ρ 2, ρ 3, ρ 4, ρ 5, ρ 6, ρ 7, ρ 8, ρ 9, ρ 10, ρ 11, ρ 12] := ha
  subst ha
  subst hg
  show jn73 [ρ 0, ρ 1, ρ 2, ρ 3, ρ 4, ρ 5, ρ 6, ρ 7, ρ 8, ρ 9, ρ 10, ρ 11, ρ 12] (γ 0) 0 [ρ 0, ρ 1, ρ 2, ρ 3, ρ 4, ρ 5, ρ 6, ρ 7, ρ 8, ρ 9, ρ 10, ρ 11, ρ 12, 0, ρ 3, ρ 4, ρ 12] (γ 0)
  have hD : dn73 [ρ 0] (γ 0) = .inl (0, [ρ 0, 0], γ 0) := by
    unfold dn73
    refine (zLet_eq (show _ = ρ 0 from rfl)).trans ?_
    rfl
  exact zGoo_to hD
theorem vn73a0_0 {S : Nat → zSpc} (hS62 : ∀ x g o v gz, S 62 x g o v gz → sn62 x g o v gz) (hS63 : ∀ x g o v gz, S 63 x g o v gz → sn63 x g o v gz) (hS64 : ∀ x g o v gz, S 64 x g o v gz → sn64 x g o v gz) (hS65 : ∀ x g o v gz, S 65 x g o v gz → sn65 x g o v gz) (hS70 : ∀ x g o v gz, S 70 x g o v gz → sn70 x g o v gz) {a : List Int} {g : rHp} : ∀ (ρ : Nat → Int) (γ : Nat → rHp), jn73 a g 0 (zAg (zNA a73_ 0) ρ) (γ 1) → zO 13 S a g q73a0_0 ρ γ → zGl (fun i vs g1 => jn73 a g i vs g1) (sn73 a g) q73a0_0 ρ γ := by
  intro ρ γ hJ h
  obtain ⟨ha, hg, hr, hf, hm, hc, hl⟩ := h
  have ha : a = [ρ 0, ρ 1, ρ 2, ρ 3, ρ 4, ρ 5, ρ 6, ρ 7, ρ 8, ρ 9, ρ 10, ρ 11, ρ 12] := ha
  subst ha
  subst hg
  have hJ : jn73 [ρ 0, ρ 1, ρ 2, ρ 3, ρ 4, ρ 5, ρ 6, ρ 7, ρ 8, ρ 9, ρ 10, ρ 11, ρ 12] (γ 0) 0 [ρ 0, ρ 1, ρ 2, ρ 3, ρ 4, ρ 5, ρ 6, ρ 7, ρ 8, ρ 9, ρ 10, ρ 11, ρ 12, ρ 13, ρ 14, ρ 15, ρ 16] (γ 1) := hJ
  obtain ⟨-, -, -, -, -, -, -, -, -, -, -, -, -, -, -, r15, -⟩ := hr
  have r15 : (1 : Int) ≤ ρ 15 ∧ ρ 15 ≤ 3 := r15
  have w_0 : ρ 15 ≠ 0 := by omega
  obtain ⟨m0, -, -, -, -, -, -, -, -, -, -, -, m12, m13, -⟩ := hm
  have m0 : γ 0 73 0 (ρ 0) = ρ 1 := m0
  have m12 : γ 1 15 0 72 = ρ 14 := m12
  have m13 : γ 1 15 0 77 = ρ 15 := m13
  show sn73 [ρ 0, ρ 1, ρ 2, ρ 3, ρ 4, ρ 5, ρ 6, ρ 7, ρ 8, ρ 9, ρ 10, ρ 11, ρ 12] (γ 0) 0 0 (γ 1)
  have hD : en73 (γ 0) (0, [ρ 0, ρ 13], γ 1) = .inr (0, 0, γ 1) := by
    unfold en73
    refine (if_pos (show (0 : Nat) = 0 by decide)).trans ?_
    refine (zLet_eq (show _ = γ 1 from rfl)).trans ?_
    refine (zLet_eq (show _ = ρ 0 from rfl)).trans ?_
    refine (zLet_eq (show _ = ρ 13 from rfl)).trans ?_
    refine (zLet_eq m0).trans ?_
    refine (zLet_eq m12).trans ?_
    refine (zLet_eq m13).trans ?_
    refine (if_pos w_0).trans ?_
    rfl
  exact zGoo_aend hJ hD
theorem vn73a0_1 {S : Nat → zSpc} (hS62 : ∀ x g o v gz, S 62 x g o v gz → sn62 x g o v gz) (hS63 : ∀ x g o v gz, S 63 x g o v gz → sn63 x g o v gz) (hS64 : ∀ x g o v gz, S 64 x g o v gz → sn64 x g o v gz) (hS65 : ∀ x g o v gz, S 65 x g o v gz → sn65 x g o v gz) (hS70 : ∀ x g o v gz, S 70 x g o v gz → sn70 x g o v gz) {a : List Int} {g : rHp} : ∀ (ρ : Nat → Int) (γ : Nat → rHp), jn73 a g 0 (zAg (zNA a73_ 0) ρ) (γ 1) → zO 13 S a g q73a0_1 ρ γ → zGl (fun i vs g1 => jn73 a g i vs g1) (sn73 a g) q73a0_1 ρ γ := by
  intro ρ γ hJ h
  obtain ⟨ha, hg, hr, hf, hm, hc, hl⟩ := h
  have ha : a = [ρ 0, ρ 1, ρ 2, ρ 3, ρ 4, ρ 5, ρ 6, ρ 7, ρ 8, ρ 9, ρ 10, ρ 11, ρ 12] := ha
  subst ha
  subst hg
  have hJ : jn73 [ρ 0, ρ 1, ρ 2, ρ 3, ρ 4, ρ 5, ρ 6, ρ 7, ρ 8, ρ 9, ρ 10, ρ 11, ρ 12] (γ 0) 0 [ρ 0, ρ 1, ρ 2, ρ 3, ρ 4, ρ 5, ρ 6, ρ 7, ρ 8, ρ 9, ρ 10, ρ 11, ρ 12, ρ 13, ρ 14, ρ 15, ρ 16] (γ 1) := hJ
  obtain ⟨-, -, -, -, -, -, -, -, -, -, -, -, -, -, r14, r15, -, r17, -, -, r20, -⟩ := hr
  have r14 : (0 : Int) ≤ ρ 14 ∧ ρ 14 ≤ 49999 := r14
  have r15 : (0 : Int) ≤ ρ 15 ∧ ρ 15 ≤ 0 := r15
  have r17 : (0 : Int) ≤ ρ 17 ∧ ρ 17 ≤ 0 := r17
  have r20 : (0 : Int) ≤ ρ 20 ∧ ρ 20 ≤ 1999 := r20
  obtain ⟨-, -, f2, -⟩ := hf
  have f2 : (0 : Int) ≤ -ρ 13 + ρ 1 + (-1) := f2
  obtain ⟨w_0, w_1, w_2, w_3, w_4, w_5⟩ : (¬ (ρ 15 ≠ 0)) ∧ (ρ 13 ≠ ρ 1) ∧ (0 ≤ -ρ 17 + 4) ∧ (ρ 17 = 0) ∧ (ρ 20 ≥ 0) ∧ (ρ 14 + 1 ≤ 50000) := ⟨by omega, by omega, by omega, by omega, by omega, by omega⟩
  obtain ⟨m0, -, -, -, -, -, -, -, -, -, -, -, m12, m13, -, m15, m16, m17, -⟩ := hm
  have m0 : γ 0 73 0 (ρ 0) = ρ 1 := m0
  have m12 : γ 1 15 0 72 = ρ 14 := m12
  have m13 : γ 1 15 0 77 = ρ 15 := m13
  have m15 : γ 0 77 0 (ρ 13 + 8 * ρ 0) = ρ 17 := m15
  have m16 : γ 0 78 0 (ρ 13 + 8 * ρ 0) = ρ 18 := m16
  have m17 : γ 0 100 0 (ρ 18) = ρ 19 := m17
  obtain ⟨⟨⟨-, c3⟩, c4⟩, -⟩ := hc
  have c3 : γ 3 = rUp (γ 2) 15 0 72 (ρ 14 + 1) := c3
  have c4 : γ 4 = rUp (γ 3) 104 0 (ρ 13) (ρ 20) := c4
  obtain ⟨l0, l1, -⟩ := hl
  have l0 : sn62 [ρ 0, ρ 13, ρ 19, ρ 9, ρ 8, ρ 10, ρ 11] (γ 1) 0 (ρ 20) (γ 2) := hS62 _ _ _ _ _ l0
  have l1 : sn63 [ρ 13 + 8 * ρ 0, ρ 20] (γ 4) 0 0 (γ 5) := hS63 _ _ _ _ _ l1
  show jn73 [ρ 0, ρ 1, ρ 2, ρ 3, ρ 4, ρ 5, ρ 6, ρ 7, ρ 8, ρ 9, ρ 10, ρ 11, ρ 12] (γ 0) 0 [ρ 0, ρ 1, ρ 2, ρ 3, ρ 4, ρ 5, ρ 6, ρ 7, ρ 8, ρ 9, ρ 10, ρ 11, ρ 12, ρ 13 + 1, ρ 14 + 1, ρ 15, ρ 16] (γ 5)
  have hD : en73 (γ 0) (0, [ρ 0, ρ 13], γ 1) = .inl (0, [ρ 0, ρ 13 + 1], γ 5) := by
    unfold en73
    refine (if_pos (show (0 : Nat) = 0 by decide)).trans ?_
    refine (zLet_eq (show _ = γ 1 from rfl)).trans ?_
    refine (zLet_eq (show _ = ρ 0 from rfl)).trans ?_
    refine (zLet_eq (show _ = ρ 13 from rfl)).trans ?_
    refine (zLet_eq m0).trans ?_
    refine (zLet_eq m12).trans ?_
    refine (zLet_eq m13).trans ?_
    refine (if_neg w_0).trans ?_
    refine (if_pos w_1).trans ?_
    refine (zLet_eq m15).trans ?_
    refine (if_pos w_2).trans ?_
    refine (if_pos w_3).trans ?_
    refine (zLet_eq m16).trans ?_
    refine (zLet_eq m17).trans ?_
    refine (zLet_eq (show fn62 [ρ 0, ρ 13, ρ 19] (γ 1) = (0, ρ 20, γ 2) from l0.symm)).trans ?_
    refine (zLet_eq (show _ = γ 2 from rfl)).trans ?_
    refine (zLet_eq (show _ = ρ 20 from rfl)).trans ?_
    refine (if_pos w_4).trans ?_
    refine (zLet_eq c3.symm).trans ?_
    refine (if_pos w_5).trans ?_
    refine (zLet_eq c4.symm).trans ?_
    refine (zLet_eq (show fn63 [ρ 13 + 8 * ρ 0, ρ 20] (γ 4) = (0, 0, γ 5) from l1.symm)).trans ?_
    refine (zLet_eq (show _ = γ 5 from rfl)).trans ?_
    rfl
  exact zGoo_ato hJ hD
theorem vn73a0_2 {S : Nat → zSpc} (hS62 : ∀ x g o v gz, S 62 x g o v gz → sn62 x g o v gz) (hS63 : ∀ x g o v gz, S 63 x g o v gz → sn63 x g o v gz) (hS64 : ∀ x g o v gz, S 64 x g o v gz → sn64 x g o v gz) (hS65 : ∀ x g o v gz, S 65 x g o v gz → sn65 x g o v gz) (hS70 : ∀ x g o v gz, S 70 x g o v gz → sn70 x g o v gz) {a : List Int} {g : rHp} : ∀ (ρ : Nat → Int) (γ : Nat → rHp), jn73 a g 0 (zAg (zNA a73_ 0) ρ) (γ 1) → zO 13 S a g q73a0_2 ρ γ → zGl (fun i vs g1 => jn73 a g i vs g1) (sn73 a g) q73a0_2 ρ γ := by
  intro ρ γ hJ h
  obtain ⟨ha, hg, hr, hf, hm, hc, hl⟩ := h
  have ha : a = [ρ 0, ρ 1, ρ 2, ρ 3, ρ 4, ρ 5, ρ 6, ρ 7, ρ 8, ρ 9, ρ 10, ρ 11, ρ 12] := ha
  subst ha
  subst hg
  have hJ : jn73 [ρ 0, ρ 1, ρ 2, ρ 3, ρ 4, ρ 5, ρ 6, ρ 7, ρ 8, ρ 9, ρ 10, ρ 11, ρ 12] (γ 0) 0 [ρ 0, ρ 1, ρ 2, ρ 3, ρ 4, ρ 5, ρ 6, ρ 7, ρ 8, ρ 9, ρ 10, ρ 11, ρ 12, ρ 13, ρ 14, ρ 15, ρ 16] (γ 1) := hJ
  obtain ⟨-, -, -, -, -, -, -, -, -, -, -, -, -, -, r14, r15, -, r17, -, -, r20, -⟩ := hr
  have r14 : (50000 : Int) ≤ ρ 14 ∧ ρ 14 ≤ 50001 := r14
  have r15 : (0 : Int) ≤ ρ 15 ∧ ρ 15 ≤ 0 := r15
  have r17 : (0 : Int) ≤ ρ 17 ∧ ρ 17 ≤ 0 := r17
  have r20 : (0 : Int) ≤ ρ 20 ∧ ρ 20 ≤ 1999 := r20
  obtain ⟨-, -, f2, -⟩ := hf
  have f2 : (0 : Int) ≤ -ρ 13 + ρ 1 + (-1) := f2
  obtain ⟨w_0, w_1, w_2, w_3, w_4, w_5⟩ : (¬ (ρ 15 ≠ 0)) ∧ (ρ 13 ≠ ρ 1) ∧ (0 ≤ -ρ 17 + 4) ∧ (ρ 17 = 0) ∧ (ρ 20 ≥ 0) ∧ (¬ (ρ 14 + 1 ≤ 50000)) := ⟨by omega, by omega, by omega, by omega, by omega, by omega⟩
  obtain ⟨m0, -, -, -, -, -, -, -, -, -, -, -, m12, m13, -, m15, m16, m17, -⟩ := hm
  have m0 : γ 0 73 0 (ρ 0) = ρ 1 := m0
  have m12 : γ 1 15 0 72 = ρ 14 := m12
  have m13 : γ 1 15 0 77 = ρ 15 := m13
  have m15 : γ 0 77 0 (ρ 13 + 8 * ρ 0) = ρ 17 := m15
  have m16 : γ 0 78 0 (ρ 13 + 8 * ρ 0) = ρ 18 := m16
  have m17 : γ 0 100 0 (ρ 18) = ρ 19 := m17
  obtain ⟨⟨⟨⟨-, c3⟩, c4⟩, c5⟩, -⟩ := hc
  have c3 : γ 3 = rUp (γ 2) 15 0 72 (ρ 14 + 1) := c3
  have c4 : γ 4 = rUp (γ 3) 15 0 77 2 := c4
  have c5 : γ 5 = rUp (γ 4) 104 0 (ρ 13) (ρ 20) := c5
  obtain ⟨l0, l1, -⟩ := hl
  have l0 : sn62 [ρ 0, ρ 13, ρ 19, ρ 9, ρ 8, ρ 10, ρ 11] (γ 1) 0 (ρ 20) (γ 2) := hS62 _ _ _ _ _ l0
  have l1 : sn63 [ρ 13 + 8 * ρ 0, ρ 20] (γ 5) 0 0 (γ 6) := hS63 _ _ _ _ _ l1
  show jn73 [ρ 0, ρ 1, ρ 2, ρ 3, ρ 4, ρ 5, ρ 6, ρ 7, ρ 8, ρ 9, ρ 10, ρ 11, ρ 12] (γ 0) 0 [ρ 0, ρ 1, ρ 2, ρ 3, ρ 4, ρ 5, ρ 6, ρ 7, ρ 8, ρ 9, ρ 10, ρ 11, ρ 12, ρ 13 + 1, ρ 14 + 1, 2, ρ 16] (γ 6)
  have hD : en73 (γ 0) (0, [ρ 0, ρ 13], γ 1) = .inl (0, [ρ 0, ρ 13 + 1], γ 6) := by
    unfold en73
    refine (if_pos (show (0 : Nat) = 0 by decide)).trans ?_
    refine (zLet_eq (show _ = γ 1 from rfl)).trans ?_
    refine (zLet_eq (show _ = ρ 0 from rfl)).trans ?_
    refine (zLet_eq (show _ = ρ 13 from rfl)).trans ?_
    refine (zLet_eq m0).trans ?_
    refine (zLet_eq m12).trans ?_
    refine (zLet_eq m13).trans ?_
    refine (if_neg w_0).trans ?_
    refine (if_pos w_1).trans ?_
    refine (zLet_eq m15).trans ?_
    refine (if_pos w_2).trans ?_
    refine (if_pos w_3).trans ?_
    refine (zLet_eq m16).trans ?_
    refine (zLet_eq m17).trans ?_
    refine (zLet_eq (show fn62 [ρ 0, ρ 13, ρ 19] (γ 1) = (0, ρ 20, γ 2) from l0.symm)).trans ?_
    refine (zLet_eq (show _ = γ 2 from rfl)).trans ?_
    refine (zLet_eq (show _ = ρ 20 from rfl)).trans ?_
    refine (if_pos w_4).trans ?_
    refine (zLet_eq c3.symm).trans ?_
    refine (if_neg w_5).trans ?_
    refine (zLet_eq c4.symm).trans ?_
    refine (zLet_eq c5.symm).trans ?_
    refine (zLet_eq (show fn63 [ρ 13 + 8 * ρ 0, ρ 20] (γ 5) = (0, 0, γ 6) from l1.symm)).trans ?_
    refine (zLet_eq (show _ = γ 6 from rfl)).trans ?_
    rfl
  exact zGoo_ato hJ hD
theorem vn73a0_3 {S : Nat → zSpc} (hS62 : ∀ x g o v gz, S 62 x g o v gz → sn62 x g o v gz) (hS63 : ∀ x g o v gz, S 63 x g o v gz → sn63 x g o v gz) (hS64 : ∀ x g o v gz, S 64 x g o v gz → sn64 x g o v gz) (hS65 : ∀ x g o v gz, S 65 x g o v gz → sn65 x g o v gz) (hS70 : ∀ x g o v gz, S 70 x g o v gz → sn70 x g o v gz) {a : List Int} {g : rHp} : ∀ (ρ : Nat → Int) (γ : Nat → rHp), jn73 a g 0 (zAg (zNA a73_ 0) ρ) (γ 1) → zO 13 S a g q73a0_3 ρ γ → zGl (fun i vs g1 => jn73 a g i vs g1) (sn73 a g) q73a0_3 ρ γ := by
  intro ρ γ hJ h
  obtain ⟨ha, hg, hr, hf, hm, hc, hl⟩ := h
  have ha : a = [ρ 0, ρ 1, ρ 2, ρ 3, ρ 4, ρ 5, ρ 6, ρ 7, ρ 8, ρ 9, ρ 10, ρ 11, ρ 12] := ha
  subst ha
  subst hg
  have hJ : jn73 [ρ 0, ρ 1, ρ 2, ρ 3, ρ 4, ρ 5, ρ 6, ρ 7, ρ 8, ρ 9, ρ 10, ρ 11, ρ 12] (γ 0) 0 [ρ 0, ρ 1, ρ 2, ρ 3, ρ 4, ρ 5, ρ 6, ρ 7, ρ 8, ρ 9, ρ 10, ρ 11, ρ 12, ρ 13, ρ 14, ρ 15, ρ 16] (γ 1) := hJ
  obtain ⟨-, -, -, -, -, -, -, -, -, -, -, -, -, -, -, r15, -, r17, -, -, r20, -⟩ := hr
  have r15 : (0 : Int) ≤ ρ 15 ∧ ρ 15 ≤ 0 := r15
  have r17 : (0 : Int) ≤ ρ 17 ∧ ρ 17 ≤ 0 := r17
  have r20 : ((-1) : Int) ≤ ρ 20 ∧ ρ 20 ≤ (-1) := r20
  obtain ⟨-, -, f2, -⟩ := hf
  have f2 : (0 : Int) ≤ -ρ 13 + ρ 1 + (-1) := f2
  obtain ⟨w_0, w_1, w_2, w_3, w_4⟩ : (¬ (ρ 15 ≠ 0)) ∧ (ρ 13 ≠ ρ 1) ∧ (0 ≤ -ρ 17 + 4) ∧ (ρ 17 = 0) ∧ (¬ (ρ 20 ≥ 0)) := ⟨by omega, by omega, by omega, by omega, by omega⟩
  obtain ⟨m0, -, -, -, -, -, -, -, -, -, -, -, m12, m13, -, m15, m16, m17, -⟩ := hm
  have m0 : γ 0 73 0 (ρ 0) = ρ 1 := m0
  have m12 : γ 1 15 0 72 = ρ 14 := m12
  have m13 : γ 1 15 0 77 = ρ 15 := m13
  have m15 : γ 0 77 0 (ρ 13 + 8 * ρ 0) = ρ 17 := m15
  have m16 : γ 0 78 0 (ρ 13 + 8 * ρ 0) = ρ 18 := m16
  have m17 : γ 0 100 0 (ρ 18) = ρ 19 := m17
  obtain ⟨l0, -⟩ := hl
  have l0 : sn62 [ρ 0, ρ 13, ρ 19, ρ 9, ρ 8, ρ 10, ρ 11] (γ 1) 0 (ρ 20) (γ 2) := hS62 _ _ _ _ _ l0
  show jn73 [ρ 0, ρ 1, ρ 2, ρ 3, ρ 4, ρ 5, ρ 6, ρ 7, ρ 8, ρ 9, ρ 10, ρ 11, ρ 12] (γ 0) 1 [ρ 0, ρ 1, ρ 2, ρ 3, ρ 4, ρ 5, ρ 6, ρ 7, ρ 8, ρ 9, ρ 10, ρ 11, ρ 12, ρ 13 + (-1), ρ 13 + 8 * ρ 0, ρ 14, ρ 15, ρ 16] (γ 2)
  have hD : en73 (γ 0) (0, [ρ 0, ρ 13], γ 1) = .inl (1, [ρ 0, ρ 13 + (-1), ρ 13 + 8 * ρ 0], γ 2) := by
    unfold en73
    refine (if_pos (show (0 : Nat) = 0 by decide)).trans ?_
    refine (zLet_eq (show _ = γ 1 from rfl)).trans ?_
    refine (zLet_eq (show _ = ρ 0 from rfl)).trans ?_
    refine (zLet_eq (show _ = ρ 13 from rfl)).trans ?_
    refine (zLet_eq m0).trans ?_
    refine (zLet_eq m12).trans ?_
    refine (zLet_eq m13).trans ?_
    refine (if_neg w_0).trans ?_
    refine (if_pos w_1).trans ?_
    refine (zLet_eq m15).trans ?_
    refine (if_pos w_2).trans ?_
    refine (if_pos w_3).trans ?_
    refine (zLet_eq m16).trans ?_
    refine (zLet_eq m17).trans ?_
    refine (zLet_eq (show fn62 [ρ 0, ρ 13, ρ 19] (γ 1) = (0, ρ 20, γ 2) from l0.symm)).trans ?_
    refine (zLet_eq (show _ = γ 2 from rfl)).trans ?_
    refine (zLet_eq (show _ = ρ 20 from rfl)).trans ?_
    refine (if_neg w_4).trans ?_
    rfl
  exact zGoo_ato hJ hD
theorem vn73a0_4 {S : Nat → zSpc} (hS62 : ∀ x g o v gz, S 62 x g o v gz → sn62 x g o v gz) (hS63 : ∀ x g o v gz, S 63 x g o v gz → sn63 x g o v gz) (hS64 : ∀ x g o v gz, S 64 x g o v gz → sn64 x g o v gz) (hS65 : ∀ x g o v gz, S 65 x g o v gz → sn65 x g o v gz) (hS70 : ∀ x g o v gz, S 70 x g o v gz → sn70 x g o v gz) {a : List Int} {g : rHp} : ∀ (ρ : Nat → Int) (γ : Nat → rHp), jn73 a g 0 (zAg (zNA a73_ 0) ρ) (γ 1) → zO 13 S a g q73a0_4 ρ γ → zGl (fun i vs g1 => jn73 a g i vs g1) (sn73 a g) q73a0_4 ρ γ := by
  intro ρ γ hJ h
  obtain ⟨ha, hg, hr, hf, hm, hc, hl⟩ := h
  have ha : a = [ρ 0, ρ 1, ρ 2, ρ 3, ρ 4, ρ 5, ρ 6, ρ 7, ρ 8, ρ 9, ρ 10, ρ 11, ρ 12] := ha
  subst ha
  subst hg
  have hJ : jn73 [ρ 0, ρ 1, ρ 2, ρ 3, ρ 4, ρ 5, ρ 6, ρ 7, ρ 8, ρ 9, ρ 10, ρ 11, ρ 12] (γ 0) 0 [ρ 0, ρ 1, ρ 2, ρ 3, ρ 4, ρ 5, ρ 6, ρ 7, ρ 8, ρ 9, ρ 10, ρ 11, ρ 12, ρ 13, ρ 14, ρ 15, ρ 16] (γ 1) := hJ
  obtain ⟨-, -, -, -, -, -, -, -, -, -, -, -, -, -, -, r15, -, r17, -⟩ := hr
  have r15 : (0 : Int) ≤ ρ 15 ∧ ρ 15 ≤ 0 := r15
  have r17 : (1 : Int) ≤ ρ 17 ∧ ρ 17 ≤ 4 := r17
  obtain ⟨-, f1, -⟩ := hf
  have f1 : (0 : Int) ≤ -ρ 13 + ρ 1 + (-1) := f1
  obtain ⟨w_0, w_1, w_2, w_3⟩ : (¬ (ρ 15 ≠ 0)) ∧ (ρ 13 ≠ ρ 1) ∧ (0 ≤ -ρ 17 + 4) ∧ (¬ (ρ 17 = 0)) := ⟨by omega, by omega, by omega, by omega⟩
  obtain ⟨m0, -, -, -, -, -, -, -, -, -, -, -, m12, m13, -, m15, -⟩ := hm
  have m0 : γ 0 73 0 (ρ 0) = ρ 1 := m0
  have m12 : γ 1 15 0 72 = ρ 14 := m12
  have m13 : γ 1 15 0 77 = ρ 15 := m13
  have m15 : γ 0 77 0 (ρ 13 + 8 * ρ 0) = ρ 17 := m15
  obtain ⟨l0, -⟩ := hl
  have l0 : sn64 [ρ 13 + 8 * ρ 0, ρ 17, ρ 18, ρ 9, ρ 8] (γ 1) 0 0 (γ 2) := hS64 _ _ _ _ _ l0
  show jn73 [ρ 0, ρ 1, ρ 2, ρ 3, ρ 4, ρ 5, ρ 6, ρ 7, ρ 8, ρ 9, ρ 10, ρ 11, ρ 12] (γ 0) 1 [ρ 0, ρ 1, ρ 2, ρ 3, ρ 4, ρ 5, ρ 6, ρ 7, ρ 8, ρ 9, ρ 10, ρ 11, ρ 12, ρ 13 + (-1), ρ 13 + 8 * ρ 0, ρ 14, ρ 15, ρ 16] (γ 2)
  have hD : en73 (γ 0) (0, [ρ 0, ρ 13], γ 1) = .inl (1, [ρ 0, ρ 13 + (-1), ρ 13 + 8 * ρ 0], γ 2) := by
    unfold en73
    refine (if_pos (show (0 : Nat) = 0 by decide)).trans ?_
    refine (zLet_eq (show _ = γ 1 from rfl)).trans ?_
    refine (zLet_eq (show _ = ρ 0 from rfl)).trans ?_
    refine (zLet_eq (show _ = ρ 13 from rfl)).trans ?_
    refine (zLet_eq m0).trans ?_
    refine (zLet_eq m12).trans ?_
    refine (zLet_eq m13).trans ?_
    refine (if_neg w_0).trans ?_
    refine (if_pos w_1).trans ?_
    refine (zLet_eq m15).trans ?_
    refine (if_pos w_2).trans ?_
    refine (if_neg w_3).trans ?_
    refine (zLet_eq (show fn64 [ρ 13 + 8 * ρ 0] (γ 1) = (0, 0, γ 2) from l0.symm)).trans ?_
    refine (zLet_eq (show _ = γ 2 from rfl)).trans ?_
    refine (if_neg zQ0_).trans ?_
    rfl
  exact zGoo_ato hJ hD
theorem vn73a0_5 {S : Nat → zSpc} (hS62 : ∀ x g o v gz, S 62 x g o v gz → sn62 x g o v gz) (hS63 : ∀ x g o v gz, S 63 x g o v gz → sn63 x g o v gz) (hS64 : ∀ x g o v gz, S 64 x g o v gz → sn64 x g o v gz) (hS65 : ∀ x g o v gz, S 65 x g o v gz → sn65 x g o v gz) (hS70 : ∀ x g o v gz, S 70 x g o v gz → sn70 x g o v gz) {a : List Int} {g : rHp} : ∀ (ρ : Nat → Int) (γ : Nat → rHp), jn73 a g 0 (zAg (zNA a73_ 0) ρ) (γ 1) → zO 13 S a g q73a0_5 ρ γ → zGl (fun i vs g1 => jn73 a g i vs g1) (sn73 a g) q73a0_5 ρ γ := by
  intro ρ γ hJ h
  obtain ⟨ha, hg, hr, hf, hm, hc, hl⟩ := h
  have ha : a = [ρ 0, ρ 1, ρ 2, ρ 3, ρ 4, ρ 5, ρ 6, ρ 7, ρ 8, ρ 9, ρ 10, ρ 11, ρ 12] := ha
  subst ha
  subst hg
  have hJ : jn73 [ρ 0, ρ 1, ρ 2, ρ 3, ρ 4, ρ 5, ρ 6, ρ 7, ρ 8, ρ 9, ρ 10, ρ 11, ρ 12] (γ 0) 0 [ρ 0, ρ 1, ρ 2, ρ 3, ρ 4, ρ 5, ρ 6, ρ 7, ρ 8, ρ 9, ρ 10, ρ 11, ρ 12, ρ 13, ρ 14, ρ 15, ρ 16] (γ 1) := hJ
  obtain ⟨-, -, -, -, -, -, -, -, -, -, -, -, -, -, -, r15, -, r17, -⟩ := hr
  have r15 : (0 : Int) ≤ ρ 15 ∧ ρ 15 ≤ 0 := r15
  have r17 : (1 : Int) ≤ ρ 17 ∧ ρ 17 ≤ 4 := r17
  obtain ⟨-, f1, -⟩ := hf
  have f1 : (0 : Int) ≤ -ρ 13 + ρ 1 + (-1) := f1
  obtain ⟨w_0, w_1, w_2, w_3⟩ : (¬ (ρ 15 ≠ 0)) ∧ (ρ 13 ≠ ρ 1) ∧ (0 ≤ -ρ 17 + 4) ∧ (¬ (ρ 17 = 0)) := ⟨by omega, by omega, by omega, by omega⟩
  obtain ⟨m0, -, -, -, -, -, -, -, -, -, -, -, m12, m13, -, m15, -⟩ := hm
  have m0 : γ 0 73 0 (ρ 0) = ρ 1 := m0
  have m12 : γ 1 15 0 72 = ρ 14 := m12
  have m13 : γ 1 15 0 77 = ρ 15 := m13
  have m15 : γ 0 77 0 (ρ 13 + 8 * ρ 0) = ρ 17 := m15
  obtain ⟨l0, -⟩ := hl
  have l0 : sn64 [ρ 13 + 8 * ρ 0, ρ 17, ρ 18, ρ 9, ρ 8] (γ 1) 0 1 (γ 2) := hS64 _ _ _ _ _ l0
  show jn73 [ρ 0, ρ 1, ρ 2, ρ 3, ρ 4, ρ 5, ρ 6, ρ 7, ρ 8, ρ 9, ρ 10, ρ 11, ρ 12] (γ 0) 0 [ρ 0, ρ 1, ρ 2, ρ 3, ρ 4, ρ 5, ρ 6, ρ 7, ρ 8, ρ 9, ρ 10, ρ 11, ρ 12, ρ 13 + 1, ρ 14, ρ 15, ρ 16] (γ 2)
  have hD : en73 (γ 0) (0, [ρ 0, ρ 13], γ 1) = .inl (0, [ρ 0, ρ 13 + 1], γ 2) := by
    unfold en73
    refine (if_pos (show (0 : Nat) = 0 by decide)).trans ?_
    refine (zLet_eq (show _ = γ 1 from rfl)).trans ?_
    refine (zLet_eq (show _ = ρ 0 from rfl)).trans ?_
    refine (zLet_eq (show _ = ρ 13 from rfl)).trans ?_
    refine (zLet_eq m0).trans ?_
    refine (zLet_eq m12).trans ?_
    refine (zLet_eq m13).trans ?_
    refine (if_neg w_0).trans ?_
    refine (if_pos w_1).trans ?_
    refine (zLet_eq m15).trans ?_
    refine (if_pos w_2).trans ?_
    refine (if_neg w_3).trans ?_
    refine (zLet_eq (show fn64 [ρ 13 + 8 * ρ 0] (γ 1) = (0, 1, γ 2) from l0.symm)).trans ?_
    refine (zLet_eq (show _ = γ 2 from rfl)).trans ?_
    refine (if_pos zQ1_).trans ?_
    rfl
  exact zGoo_ato hJ hD
theorem vn73a0_6 {S : Nat → zSpc} (hS62 : ∀ x g o v gz, S 62 x g o v gz → sn62 x g o v gz) (hS63 : ∀ x g o v gz, S 63 x g o v gz → sn63 x g o v gz) (hS64 : ∀ x g o v gz, S 64 x g o v gz → sn64 x g o v gz) (hS65 : ∀ x g o v gz, S 65 x g o v gz → sn65 x g o v gz) (hS70 : ∀ x g o v gz, S 70 x g o v gz → sn70 x g o v gz) {a : List Int} {g : rHp} : ∀ (ρ : Nat → Int) (γ : Nat → rHp), jn73 a g 0 (zAg (zNA a73_ 0) ρ) (γ 1) → zO 13 S a g q73a0_6 ρ γ → zGl (fun i vs g1 => jn73 a g i vs g1) (sn73 a g) q73a0_6 ρ γ := by
  intro ρ γ hJ h
  obtain ⟨ha, hg, hr, hf, hm, hc, hl⟩ := h
  have ha : a = [ρ 0, ρ 1, ρ 2, ρ 3, ρ 4, ρ 5, ρ 6, ρ 7, ρ 8, ρ 9, ρ 10, ρ 11, ρ 12] := ha
  subst ha
  subst hg
  have hJ : jn73 [ρ 0, ρ 1, ρ 2, ρ 3, ρ 4, ρ 5, ρ 6, ρ 7, ρ 8, ρ 9, ρ 10, ρ 11, ρ 12] (γ 0) 0 [ρ 0, ρ 1, ρ 2, ρ 3, ρ 4, ρ 5, ρ 6, ρ 7, ρ 8, ρ 9, ρ 10, ρ 11, ρ 12, ρ 13, ρ 14, ρ 15, ρ 16] (γ 1) := hJ
  obtain ⟨-, -, -, -, -, -, -, -, -, -, -, -, -, -, -, r15, -, r17, -⟩ := hr
  have r15 : (0 : Int) ≤ ρ 15 ∧ ρ 15 ≤ 0 := r15
  have r17 : (5 : Int) ≤ ρ 17 ∧ ρ 17 ≤ 7 := r17
  obtain ⟨-, f1, -⟩ := hf
  have f1 : (0 : Int) ≤ -ρ 13 + ρ 1 + (-1) := f1
  obtain ⟨w_0, w_1, w_2⟩ : (¬ (ρ 15 ≠ 0)) ∧ (ρ 13 ≠ ρ 1) ∧ (¬ (0 ≤ -ρ 17 + 4)) := ⟨by omega, by omega, by omega⟩
  obtain ⟨m0, -, -, -, -, -, -, -, -, -, -, -, m12, m13, -, m15, -⟩ := hm
  have m0 : γ 0 73 0 (ρ 0) = ρ 1 := m0
  have m12 : γ 1 15 0 72 = ρ 14 := m12
  have m13 : γ 1 15 0 77 = ρ 15 := m13
  have m15 : γ 0 77 0 (ρ 13 + 8 * ρ 0) = ρ 17 := m15
  obtain ⟨l0, -⟩ := hl
  have l0 : sn65 [ρ 13 + 8 * ρ 0, ρ 17, ρ 18, ρ 9, ρ 8] (γ 1) 0 0 (γ 2) := hS65 _ _ _ _ _ l0
  show jn73 [ρ 0, ρ 1, ρ 2, ρ 3, ρ 4, ρ 5, ρ 6, ρ 7, ρ 8, ρ 9, ρ 10, ρ 11, ρ 12] (γ 0) 1 [ρ 0, ρ 1, ρ 2, ρ 3, ρ 4, ρ 5, ρ 6, ρ 7, ρ 8, ρ 9, ρ 10, ρ 11, ρ 12, ρ 13 + (-1), ρ 13 + 8 * ρ 0, ρ 14, ρ 15, ρ 16] (γ 2)
  have hD : en73 (γ 0) (0, [ρ 0, ρ 13], γ 1) = .inl (1, [ρ 0, ρ 13 + (-1), ρ 13 + 8 * ρ 0], γ 2) := by
    unfold en73
    refine (if_pos (show (0 : Nat) = 0 by decide)).trans ?_
    refine (zLet_eq (show _ = γ 1 from rfl)).trans ?_
    refine (zLet_eq (show _ = ρ 0 from rfl)).trans ?_
    refine (zLet_eq (show _ = ρ 13 from rfl)).trans ?_
    refine (zLet_eq m0).trans ?_
    refine (zLet_eq m12).trans ?_
    refine (zLet_eq m13).trans ?_
    refine (if_neg w_0).trans ?_
    refine (if_pos w_1).trans ?_
    refine (zLet_eq m15).trans ?_
    refine (if_neg w_2).trans ?_
    refine (zLet_eq (show fn65 [ρ 13 + 8 * ρ 0] (γ 1) = (0, 0, γ 2) from l0.symm)).trans ?_
    refine (zLet_eq (show _ = γ 2 from rfl)).trans ?_
    refine (if_neg zQ0_).trans ?_
    rfl
  exact zGoo_ato hJ hD
theorem vn73a0_7 {S : Nat → zSpc} (hS62 : ∀ x g o v gz, S 62 x g o v gz → sn62 x g o v gz) (hS63 : ∀ x g o v gz, S 63 x g o v gz → sn63 x g o v gz) (hS64 : ∀ x g o v gz, S 64 x g o v gz → sn64 x g o v gz) (hS65 : ∀ x g o v gz, S 65 x g o v gz → sn65 x g o v gz) (hS70 : ∀ x g o v gz, S 70 x g o v gz → sn70 x g o v gz) {a : List Int} {g : rHp} : ∀ (ρ : Nat → Int) (γ : Nat → rHp), jn73 a g 0 (zAg (zNA a73_ 0) ρ) (γ 1) → zO 13 S a g q73a0_7 ρ γ → zGl (fun i vs g1 => jn73 a g i vs g1) (sn73 a g) q73a0_7 ρ γ := by
  intro ρ γ hJ h
  obtain ⟨ha, hg, hr, hf, hm, hc, hl⟩ := h
  have ha : a = [ρ 0, ρ 1, ρ 2, ρ 3, ρ 4, ρ 5, ρ 6, ρ 7, ρ 8, ρ 9, ρ 10, ρ 11, ρ 12] := ha
  subst ha
  subst hg
  have hJ : jn73 [ρ 0, ρ 1, ρ 2, ρ 3, ρ 4, ρ 5, ρ 6, ρ 7, ρ 8, ρ 9, ρ 10, ρ 11, ρ 12] (γ 0) 0 [ρ 0, ρ 1, ρ 2, ρ 3, ρ 4, ρ 5, ρ 6, ρ 7, ρ 8, ρ 9, ρ 10, ρ 11, ρ 12, ρ 13, ρ 14, ρ 15, ρ 16] (γ 1) := hJ
  obtain ⟨-, -, -, -, -, -, -, -, -, -, -, -, -, -, -, r15, -, r17, -⟩ := hr
  have r15 : (0 : Int) ≤ ρ 15 ∧ ρ 15 ≤ 0 := r15
  have r17 : (5 : Int) ≤ ρ 17 ∧ ρ 17 ≤ 7 := r17
  obtain ⟨-, f1, -⟩ := hf
  have f1 : (0 : Int) ≤ -ρ 13 + ρ 1 + (-1) := f1
  obtain ⟨w_0, w_1, w_2⟩ : (¬ (ρ 15 ≠ 0)) ∧ (ρ 13 ≠ ρ 1) ∧ (¬ (0 ≤ -ρ 17 + 4)) := ⟨by omega, by omega, by omega⟩
  obtain ⟨m0, -, -, -, -, -, -, -, -, -, -, -, m12, m13, -, m15, -⟩ := hm
  have m0 : γ 0 73 0 (ρ 0) = ρ 1 := m0
  have m12 : γ 1 15 0 72 = ρ 14 := m12
  have m13 : γ 1 15 0 77 = ρ 15 := m13
  have m15 : γ 0 77 0 (ρ 13 + 8 * ρ 0) = ρ 17 := m15
  obtain ⟨l0, -⟩ := hl
  have l0 : sn65 [ρ 13 + 8 * ρ 0, ρ 17, ρ 18, ρ 9, ρ 8] (γ 1) 0 1 (γ 2) := hS65 _ _ _ _ _ l0
  show jn73 [ρ 0, ρ 1, ρ 2, ρ 3, ρ 4, ρ 5, ρ 6, ρ 7, ρ 8, ρ 9, ρ 10, ρ 11, ρ 12] (γ 0) 0 [ρ 0, ρ 1, ρ 2, ρ 3, ρ 4, ρ 5, ρ 6, ρ 7, ρ 8, ρ 9, ρ 10, ρ 11, ρ 12, ρ 13 + 1, ρ 14, ρ 15, ρ 16] (γ 2)
  have hD : en73 (γ 0) (0, [ρ 0, ρ 13], γ 1) = .inl (0, [ρ 0, ρ 13 + 1], γ 2) := by
    unfold en73
    refine (if_pos (show (0 : Nat) = 0 by decide)).trans ?_
    refine (zLet_eq (show _ = γ 1 from rfl)).trans ?_
    refine (zLet_eq (show _ = ρ 0 from rfl)).trans ?_
    refine (zLet_eq (show _ = ρ 13 from rfl)).trans ?_
    refine (zLet_eq m0).trans ?_
    refine (zLet_eq m12).trans ?_
    refine (zLet_eq m13).trans ?_
    refine (if_neg w_0).trans ?_
    refine (if_pos w_1).trans ?_
    refine (zLet_eq m15).trans ?_
    refine (if_neg w_2).trans ?_
    refine (zLet_eq (show fn65 [ρ 13 + 8 * ρ 0] (γ 1) = (0, 1, γ 2) from l0.symm)).trans ?_
    refine (zLet_eq (show _ = γ 2 from rfl)).trans ?_
    refine (if_pos zQ1_).trans ?_
    rfl
  exact zGoo_ato hJ hD
theorem vn73a0_8 {S : Nat → zSpc} (hS62 : ∀ x g o v gz, S 62 x g o v gz → sn62 x g o v gz) (hS63 : ∀ x g o v gz, S 63 x g o v gz → sn63 x g o v gz) (hS64 : ∀ x g o v gz, S 64 x g o v gz → sn64 x g o v gz) (hS65 : ∀ x g o v gz, S 65 x g o v gz → sn65 x g o v gz) (hS70 : ∀ x g o v gz, S 70 x g o v gz → sn70 x g o v gz) {a : List Int} {g : rHp} : ∀ (ρ : Nat → Int) (γ : Nat → rHp), jn73 a g 0 (zAg (zNA a73_ 0) ρ) (γ 1) → zO 13 S a g q73a0_8 ρ γ → zGl (fun i vs g1 => jn73 a g i vs g1) (sn73 a g) q73a0_8 ρ γ := by
  intro ρ γ hJ h
  obtain ⟨ha, hg, hr, hf, hm, hc, hl⟩ := h
  have ha : a = [ρ 0, ρ 1, ρ 2, ρ 3, ρ 4, ρ 5, ρ 6, ρ 7, ρ 8, ρ 9, ρ 10, ρ 11, ρ 12] := ha
  subst ha
  subst hg
  have hJ : jn73 [ρ 0, ρ 1, ρ 2, ρ 3, ρ 4, ρ 5, ρ 6, ρ 7, ρ 8, ρ 9, ρ 10, ρ 11, ρ 12] (γ 0) 0 [ρ 0, ρ 1, ρ 2, ρ 3, ρ 4, ρ 5, ρ 6, ρ 7, ρ 8, ρ 9, ρ 10, ρ 11, ρ 12, ρ 13, ρ 14, ρ 15, ρ 16] (γ 1) := hJ
  obtain ⟨-, -, -, -, -, -, -, -, -, -, -, -, -, -, -, r15, -⟩ := hr
  have r15 : (0 : Int) ≤ ρ 15 ∧ ρ 15 ≤ 0 := r15
  obtain ⟨-, f1, f2, -⟩ := hf
  have f1 : (0 : Int) ≤ -ρ 13 + ρ 1 := f1
  have f2 : (0 : Int) ≤ ρ 13 + -ρ 1 := f2
  obtain ⟨w_0, w_1⟩ : (¬ (ρ 15 ≠ 0)) ∧ (¬ (ρ 13 ≠ ρ 1)) := ⟨by omega, by omega⟩
  obtain ⟨m0, -, -, -, -, -, -, -, -, -, -, -, m12, m13, -⟩ := hm
  have m0 : γ 0 73 0 (ρ 0) = ρ 1 := m0
  have m12 : γ 1 15 0 72 = ρ 14 := m12
  have m13 : γ 1 15 0 77 = ρ 15 := m13
  obtain ⟨l0, -⟩ := hl
  have l0 : sn70 [ρ 0, ρ 6, ρ 7, ρ 16, ρ 15] (γ 1) 0 0 (γ 2) := hS70 _ _ _ _ _ l0
  show jn73 [ρ 0, ρ 1, ρ 2, ρ 3, ρ 4, ρ 5, ρ 6, ρ 7, ρ 8, ρ 9, ρ 10, ρ 11, ρ 12] (γ 0) 1 [ρ 0, ρ 1, ρ 2, ρ 3, ρ 4, ρ 5, ρ 6, ρ 7, ρ 8, ρ 9, ρ 10, ρ 11, ρ 12, ρ 13 + (-1), ρ 13 + 8 * ρ 0, ρ 14, ρ 18, ρ 17] (γ 2)
  have hD : en73 (γ 0) (0, [ρ 0, ρ 13], γ 1) = .inl (1, [ρ 0, ρ 13 + (-1), ρ 13 + 8 * ρ 0], γ 2) := by
    unfold en73
    refine (if_pos (show (0 : Nat) = 0 by decide)).trans ?_
    refine (zLet_eq (show _ = γ 1 from rfl)).trans ?_
    refine (zLet_eq (show _ = ρ 0 from rfl)).trans ?_
    refine (zLet_eq (show _ = ρ 13 from rfl)).trans ?_
    refine (zLet_eq m0).trans ?_
    refine (zLet_eq m12).trans ?_
    refine (zLet_eq m13).trans ?_
    refine (if_neg w_0).trans ?_
    refine (if_neg w_1).trans ?_
    refine (zLet_eq (show fn70 [ρ 0] (γ 1) = (0, 0, γ 2) from l0.symm)).trans ?_
    refine (zLet_eq (show _ = γ 2 from rfl)).trans ?_
    rfl
  exact zGoo_ato hJ hD
theorem vn73a1_0 {S : Nat → zSpc} (hS62 : ∀ x g o v gz, S 62 x g o v gz → sn62 x g o v gz) (hS63 : ∀ x g o v gz, S 63 x g o v gz → sn63 x g o v gz) (hS64 : ∀ x g o v gz, S 64 x g o v gz → sn64 x g o v gz) (hS65 : ∀ x g o v gz, S 65 x g o v gz → sn65 x g o v gz) (hS70 : ∀ x g o v gz, S 70 x g o v gz → sn70 x g o v gz) {a : List Int} {g : rHp} : ∀ (ρ : Nat → Int) (γ : Nat → rHp), jn73 a g 1 (zAg (zNA a73_ 1) ρ) (γ 1) → zO 13 S a g q73a1_0 ρ γ → zGl (fun i vs g1 => jn73 a g i vs g1) (sn73 a g) q73a1_0 ρ γ := by
  intro ρ γ hJ h
  obtain ⟨ha, hg, hr, hf, hm, hc, hl⟩ := h
  have ha : a = [ρ 0, ρ 1, ρ 2, ρ 3, ρ 4, ρ 5, ρ 6, ρ 7, ρ 8, ρ 9, ρ 10, ρ 11, ρ 12] := ha
  subst ha
  subst hg
  have hJ : jn73 [ρ 0, ρ 1, ρ 2, ρ 3, ρ 4, ρ 5, ρ 6, ρ 7, ρ 8, ρ 9, ρ 10, ρ 11, ρ 12] (γ 0) 1 [ρ 0, ρ 1, ρ 2, ρ 3, ρ 4, ρ 5, ρ 6, ρ 7, ρ 8, ρ 9, ρ 10, ρ 11, ρ 12, ρ 13, ρ 14, ρ 15, ρ 16, ρ 17] (γ 1) := hJ
  obtain ⟨-, -, -, -, -, -, -, -, -, -, -, -, -, r13, -⟩ := hr
  have r13 : ((-1) : Int) ≤ ρ 13 ∧ ρ 13 ≤ (-1) := r13
  have w_0 : ρ 13 < 0 := by omega
  obtain ⟨-, -, -, -, -, -, -, -, -, -, -, -, m12, m13, -⟩ := hm
  have m12 : γ 1 15 0 72 = ρ 15 := m12
  have m13 : γ 1 15 0 77 = ρ 16 := m13
  show sn73 [ρ 0, ρ 1, ρ 2, ρ 3, ρ 4, ρ 5, ρ 6, ρ 7, ρ 8, ρ 9, ρ 10, ρ 11, ρ 12] (γ 0) 0 0 (γ 1)
  have hD : en73 (γ 0) (1, [ρ 0, ρ 13, ρ 14], γ 1) = .inr (0, 0, γ 1) := by
    unfold en73
    refine (if_neg (show ¬ (1 : Nat) = 0 by decide)).trans ?_
    refine (if_pos (show (1 : Nat) = 1 by decide)).trans ?_
    refine (zLet_eq (show _ = γ 1 from rfl)).trans ?_
    refine (zLet_eq (show _ = ρ 0 from rfl)).trans ?_
    refine (zLet_eq (show _ = ρ 13 from rfl)).trans ?_
    refine (zLet_eq m12).trans ?_
    refine (zLet_eq m13).trans ?_
    refine (if_pos w_0).trans ?_
    rfl
  exact zGoo_aend hJ hD
theorem vn73a1_1 {S : Nat → zSpc} (hS62 : ∀ x g o v gz, S 62 x g o v gz → sn62 x g o v gz) (hS63 : ∀ x g o v gz, S 63 x g o v gz → sn63 x g o v gz) (hS64 : ∀ x g o v gz, S 64 x g o v gz → sn64 x g o v gz) (hS65 : ∀ x g o v gz, S 65 x g o v gz → sn65 x g o v gz) (hS70 : ∀ x g o v gz, S 70 x g o v gz → sn70 x g o v gz) {a : List Int} {g : rHp} : ∀ (ρ : Nat → Int) (γ : Nat → rHp), jn73 a g 1 (zAg (zNA a73_ 1) ρ) (γ 1) → zO 13 S a g q73a1_1 ρ γ → zGl (fun i vs g1 => jn73 a g i vs g1) (sn73 a g) q73a1_1 ρ γ := by
  intro ρ γ hJ h
  obtain ⟨ha, hg, hr, hf, hm, hc, hl⟩ := h
  have ha : a = [ρ 0, ρ 1, ρ 2, ρ 3, ρ 4, ρ 5, ρ 6, ρ 7, ρ 8, ρ 9, ρ 10, ρ 11, ρ 12] := ha
  subst ha
  subst hg
  have hJ : jn73 [ρ 0, ρ 1, ρ 2, ρ 3, ρ 4, ρ 5, ρ 6, ρ 7, ρ 8, ρ 9, ρ 10, ρ 11, ρ 12] (γ 0) 1 [ρ 0, ρ 1, ρ 2, ρ 3, ρ 4, ρ 5, ρ 6, ρ 7, ρ 8, ρ 9, ρ 10, ρ 11, ρ 12, ρ 13, ρ 14, ρ 15, ρ 16, ρ 17] (γ 1) := hJ
  obtain ⟨-, -, -, -, -, -, -, -, -, -, -, -, -, r13, -, -, r16, -⟩ := hr
  have r13 : (0 : Int) ≤ ρ 13 ∧ ρ 13 ≤ 7 := r13
  have r16 : (1 : Int) ≤ ρ 16 ∧ ρ 16 ≤ 3 := r16
  obtain ⟨w_0, w_1⟩ : (¬ (ρ 13 < 0)) ∧ (ρ 16 ≠ 0) := ⟨by omega, by omega⟩
  obtain ⟨-, -, -, -, -, -, -, -, -, -, -, -, m12, m13, -⟩ := hm
  have m12 : γ 1 15 0 72 = ρ 15 := m12
  have m13 : γ 1 15 0 77 = ρ 16 := m13
  show sn73 [ρ 0, ρ 1, ρ 2, ρ 3, ρ 4, ρ 5, ρ 6, ρ 7, ρ 8, ρ 9, ρ 10, ρ 11, ρ 12] (γ 0) 0 0 (γ 1)
  have hD : en73 (γ 0) (1, [ρ 0, ρ 13, ρ 14], γ 1) = .inr (0, 0, γ 1) := by
    unfold en73
    refine (if_neg (show ¬ (1 : Nat) = 0 by decide)).trans ?_
    refine (if_pos (show (1 : Nat) = 1 by decide)).trans ?_
    refine (zLet_eq (show _ = γ 1 from rfl)).trans ?_
    refine (zLet_eq (show _ = ρ 0 from rfl)).trans ?_
    refine (zLet_eq (show _ = ρ 13 from rfl)).trans ?_
    refine (zLet_eq m12).trans ?_
    refine (zLet_eq m13).trans ?_
    refine (if_neg w_0).trans ?_
    refine (if_pos w_1).trans ?_
    rfl
  exact zGoo_aend hJ hD
theorem vn73a1_2 {S : Nat → zSpc} (hS62 : ∀ x g o v gz, S 62 x g o v gz → sn62 x g o v gz) (hS63 : ∀ x g o v gz, S 63 x g o v gz → sn63 x g o v gz) (hS64 : ∀ x g o v gz, S 64 x g o v gz → sn64 x g o v gz) (hS65 : ∀ x g o v gz, S 65 x g o v gz → sn65 x g o v gz) (hS70 : ∀ x g o v gz, S 70 x g o v gz → sn70 x g o v gz) {a : List Int} {g : rHp} : ∀ (ρ : Nat → Int) (γ : Nat → rHp), jn73 a g 1 (zAg (zNA a73_ 1) ρ) (γ 1) → zO 13 S a g q73a1_2 ρ γ → zGl (fun i vs g1 => jn73 a g i vs g1) (sn73 a g) q73a1_2 ρ γ := by
  intro ρ γ hJ h
  obtain ⟨ha, hg, hr, hf, hm, hc, hl⟩ := h
  have ha : a = [ρ 0, ρ 1, ρ 2, ρ 3, ρ 4, ρ 5, ρ 6, ρ 7, ρ 8, ρ 9, ρ 10, ρ 11, ρ 12] := ha
  subst ha
  subst hg
  have hJ : jn73 [ρ 0, ρ 1, ρ 2, ρ 3, ρ 4, ρ 5, ρ 6, ρ 7, ρ 8, ρ 9, ρ 10, ρ 11, ρ 12] (γ 0) 1 [ρ 0, ρ 1, ρ 2, ρ 3, ρ 4, ρ 5, ρ 6, ρ 7, ρ 8, ρ 9, ρ 10, ρ 11, ρ 12, ρ 13, ρ 14, ρ 15, ρ 16, ρ 17] (γ 1) := hJ
  obtain ⟨-, -, -, -, -, -, -, -, -, -, -, -, -, r13, -, r15, r16, -, r18, -, -, r21, -⟩ := hr
  have r13 : (0 : Int) ≤ ρ 13 ∧ ρ 13 ≤ 7 := r13
  have r15 : (0 : Int) ≤ ρ 15 ∧ ρ 15 ≤ 49999 := r15
  have r16 : (0 : Int) ≤ ρ 16 ∧ ρ 16 ≤ 0 := r16
  have r18 : (0 : Int) ≤ ρ 18 ∧ ρ 18 ≤ 0 := r18
  have r21 : (0 : Int) ≤ ρ 21 ∧ ρ 21 ≤ 1999 := r21
  obtain ⟨w_0, w_1, w_2, w_3, w_4, w_5⟩ : (¬ (ρ 13 < 0)) ∧ (¬ (ρ 16 ≠ 0)) ∧ (0 ≤ -ρ 18 + 4) ∧ (ρ 18 = 0) ∧ (ρ 21 ≥ 0) ∧ (ρ 15 + 1 ≤ 50000) := ⟨by omega, by omega, by omega, by omega, by omega, by omega⟩
  obtain ⟨-, -, -, -, -, -, -, -, -, -, -, -, m12, m13, -, m15, m16, m17, -⟩ := hm
  have m12 : γ 1 15 0 72 = ρ 15 := m12
  have m13 : γ 1 15 0 77 = ρ 16 := m13
  have m15 : γ 0 77 0 (ρ 13 + 8 * ρ 0) = ρ 18 := m15
  have m16 : γ 1 104 0 (ρ 13) = ρ 19 := m16
  have m17 : γ 0 96 0 (ρ 19) = ρ 20 := m17
  obtain ⟨⟨⟨-, c3⟩, c4⟩, -⟩ := hc
  have c3 : γ 3 = rUp (γ 2) 15 0 72 (ρ 15 + 1) := c3
  have c4 : γ 4 = rUp (γ 3) 104 0 (ρ 13) (ρ 21) := c4
  obtain ⟨l0, l1, -⟩ := hl
  have l0 : sn62 [ρ 0, ρ 13, ρ 20, ρ 9, ρ 8, ρ 10, ρ 11] (γ 1) 0 (ρ 21) (γ 2) := hS62 _ _ _ _ _ l0
  have l1 : sn63 [ρ 13 + 8 * ρ 0, ρ 21] (γ 4) 0 0 (γ 5) := hS63 _ _ _ _ _ l1
  show jn73 [ρ 0, ρ 1, ρ 2, ρ 3, ρ 4, ρ 5, ρ 6, ρ 7, ρ 8, ρ 9, ρ 10, ρ 11, ρ 12] (γ 0) 0 [ρ 0, ρ 1, ρ 2, ρ 3, ρ 4, ρ 5, ρ 6, ρ 7, ρ 8, ρ 9, ρ 10, ρ 11, ρ 12, ρ 13 + 1, ρ 15 + 1, ρ 16, ρ 17] (γ 5)
  have hD : en73 (γ 0) (1, [ρ 0, ρ 13, ρ 14], γ 1) = .inl (0, [ρ 0, ρ 13 + 1], γ 5) := by
    unfold en73
    refine (if_neg (show ¬ (1 : Nat) = 0 by decide)).trans ?_
    refine (if_pos (show (1 : Nat) = 1 by decide)).trans ?_
    refine (zLet_eq (show _ = γ 1 from rfl)).trans ?_
    refine (zLet_eq (show _ = ρ 0 from rfl)).trans ?_
    refine (zLet_eq (show _ = ρ 13 from rfl)).trans ?_
    refine (zLet_eq m12).trans ?_
    refine (zLet_eq m13).trans ?_
    refine (if_neg w_0).trans ?_
    refine (if_neg w_1).trans ?_
    refine (zLet_eq m15).trans ?_
    refine (if_pos w_2).trans ?_
    refine (if_pos w_3).trans ?_
    refine (zLet_eq m16).trans ?_
    refine (zLet_eq m17).trans ?_
    refine (zLet_eq (show fn62 [ρ 0, ρ 13, ρ 20] (γ 1) = (0, ρ 21, γ 2) from l0.symm)).trans ?_
    refine (zLet_eq (show _ = γ 2 from rfl)).trans ?_
    refine (zLet_eq (show _ = ρ 21 from rfl)).trans ?_
    refine (if_pos w_4).trans ?_
    refine (zLet_eq c3.symm).trans ?_
    refine (if_pos w_5).trans ?_
    refine (zLet_eq c4.symm).trans ?_
    refine (zLet_eq (show fn63 [ρ 13 + 8 * ρ 0, ρ 21] (γ 4) = (0, 0, γ 5) from l1.symm)).trans ?_
    refine (zLet_eq (show _ = γ 5 from rfl)).trans ?_
    rfl
  exact zGoo_ato hJ hD
theorem vn73a1_3 {S : Nat → zSpc} (hS62 : ∀ x g o v gz, S 62 x g o v gz → sn62 x g o v gz) (hS63 : ∀ x g o v gz, S 63 x g o v gz → sn63 x g o v gz) (hS64 : ∀ x g o v gz, S 64 x g o v gz → sn64 x g o v gz) (hS65 : ∀ x g o v gz, S 65 x g o v gz → sn65 x g o v gz) (hS70 : ∀ x g o v gz, S 70 x g o v gz → sn70 x g o v gz) {a : List Int} {g : rHp} : ∀ (ρ : Nat → Int) (γ : Nat → rHp), jn73 a g 1 (zAg (zNA a73_ 1) ρ) (γ 1) → zO 13 S a g q73a1_3 ρ γ → zGl (fun i vs g1 => jn73 a g i vs g1) (sn73 a g) q73a1_3 ρ γ := by
  intro ρ γ hJ h
  obtain ⟨ha, hg, hr, hf, hm, hc, hl⟩ := h
  have ha : a = [ρ 0, ρ 1, ρ 2, ρ 3, ρ 4, ρ 5, ρ 6, ρ 7, ρ 8, ρ 9, ρ 10, ρ 11, ρ 12] := ha
  subst ha
  subst hg
  have hJ : jn73 [ρ 0, ρ 1, ρ 2, ρ 3, ρ 4, ρ 5, ρ 6, ρ 7, ρ 8, ρ 9, ρ 10, ρ 11, ρ 12] (γ 0) 1 [ρ 0, ρ 1, ρ 2, ρ 3, ρ 4, ρ 5, ρ 6, ρ 7, ρ 8, ρ 9, ρ 10, ρ 11, ρ 12, ρ 13, ρ 14, ρ 15, ρ 16, ρ 17] (γ 1) := hJ
  obtain ⟨-, -, -, -, -, -, -, -, -, -, -, -, -, r13, -, r15, r16, -, r18, -, -, r21, -⟩ := hr
  have r13 : (0 : Int) ≤ ρ 13 ∧ ρ 13 ≤ 7 := r13
  have r15 : (50000 : Int) ≤ ρ 15 ∧ ρ 15 ≤ 50000 := r15
  have r16 : (0 : Int) ≤ ρ 16 ∧ ρ 16 ≤ 0 := r16
  have r18 : (0 : Int) ≤ ρ 18 ∧ ρ 18 ≤ 0 := r18
  have r21 : (0 : Int) ≤ ρ 21 ∧ ρ 21 ≤ 1999 := r21
  obtain ⟨w_0, w_1, w_2, w_3, w_4, w_5⟩ : (¬ (ρ 13 < 0)) ∧ (¬ (ρ 16 ≠ 0)) ∧ (0 ≤ -ρ 18 + 4) ∧ (ρ 18 = 0) ∧ (ρ 21 ≥ 0) ∧ (¬ (ρ 15 + 1 ≤ 50000)) := ⟨by omega, by omega, by omega, by omega, by omega, by omega⟩
  obtain ⟨-, -, -, -, -, -, -, -, -, -, -, -, m12, m13, -, m15, m16, m17, -⟩ := hm
  have m12 : γ 1 15 0 72 = ρ 15 := m12
  have m13 : γ 1 15 0 77 = ρ 16 := m13
  have m15 : γ 0 77 0 (ρ 13 + 8 * ρ 0) = ρ 18 := m15
  have m16 : γ 1 104 0 (ρ 13) = ρ 19 := m16
  have m17 : γ 0 96 0 (ρ 19) = ρ 20 := m17
  obtain ⟨⟨⟨⟨-, c3⟩, c4⟩, c5⟩, -⟩ := hc
  have c3 : γ 3 = rUp (γ 2) 15 0 72 (ρ 15 + 1) := c3
  have c4 : γ 4 = rUp (γ 3) 15 0 77 2 := c4
  have c5 : γ 5 = rUp (γ 4) 104 0 (ρ 13) (ρ 21) := c5
  obtain ⟨l0, l1, -⟩ := hl
  have l0 : sn62 [ρ 0, ρ 13, ρ 20, ρ 9, ρ 8, ρ 10, ρ 11] (γ 1) 0 (ρ 21) (γ 2) := hS62 _ _ _ _ _ l0
  have l1 : sn63 [ρ 13 + 8 * ρ 0, ρ 21] (γ 5) 0 0 (γ 6) := hS63 _ _ _ _ _ l1
  show jn73 [ρ 0, ρ 1, ρ 2, ρ 3, ρ 4, ρ 5, ρ 6, ρ 7, ρ 8, ρ 9, ρ 10, ρ 11, ρ 12] (γ 0) 0 [ρ 0, ρ 1, ρ 2, ρ 3, ρ 4, ρ 5, ρ 6, ρ 7, ρ 8, ρ 9, ρ 10, ρ 11, ρ 12, ρ 13 + 1, ρ 15 + 1, 2, ρ 17] (γ 6)
  have hD : en73 (γ 0) (1, [ρ 0, ρ 13, ρ 14], γ 1) = .inl (0, [ρ 0, ρ 13 + 1], γ 6) := by
    unfold en73
    refine (if_neg (show ¬ (1 : Nat) = 0 by decide)).trans ?_
    refine (if_pos (show (1 : Nat) = 1 by decide)).trans ?_
    refine (zLet_eq (show _ = γ 1 from rfl)).trans ?_
    refine (zLet_eq (show _ = ρ 0 from rfl)).trans ?_
    refine (zLet_eq (show _ = ρ 13 from rfl)).trans ?_
    refine (zLet_eq m12).trans ?_
    refine (zLet_eq m13).trans ?_
    refine (if_neg w_0).trans ?_
    refine (if_neg w_1).trans ?_
    refine (zLet_eq m15).trans ?_
    refine (if_pos w_2).trans ?_
    refine (if_pos w_3).trans ?_
    refine (zLet_eq m16).trans ?_
    refine (zLet_eq m17).trans ?_
    refine (zLet_eq (show fn62 [ρ 0, ρ 13, ρ 20] (γ 1) = (0, ρ 21, γ 2) from l0.symm)).trans ?_
    refine (zLet_eq (show _ = γ 2 from rfl)).trans ?_
    refine (zLet_eq (show _ = ρ 21 from rfl)).trans ?_
    refine (if_pos w_4).trans ?_
    refine (zLet_eq c3.symm).trans ?_
    refine (if_neg w_5).trans ?_
    refine (zLet_eq c4.symm).trans ?_
    refine (zLet_eq c5.symm).trans ?_
    refine (zLet_eq (show fn63 [ρ 13 + 8 * ρ 0, ρ 21] (γ 5) = (0, 0, γ 6) from l1.symm)).trans ?_
    refine (zLet_eq (show _ = γ 6 from rfl)).trans ?_
    rfl
  exact zGoo_ato hJ hD
theorem vn73a1_4 {S : Nat → zSpc} (hS62 : ∀ x g o v gz, S 62 x g o v gz → sn62 x g o v gz) (hS63 : ∀ x g o v gz, S 63 x g o v gz → sn63 x g o v gz) (hS64 : ∀ x g o v gz, S 64 x g o v gz → sn64 x g o v gz) (hS65 : ∀ x g o v gz, S 65 x g o v gz → sn65 x g o v gz) (hS70 : ∀ x g o v gz, S 70 x g o v gz → sn70 x g o v gz) {a : List Int} {g : rHp} : ∀ (ρ : Nat → Int) (γ : Nat → rHp), jn73 a g 1 (zAg (zNA a73_ 1) ρ) (γ 1) → zO 13 S a g q73a1_4 ρ γ → zGl (fun i vs g1 => jn73 a g i vs g1) (sn73 a g) q73a1_4 ρ γ := by
  intro ρ γ hJ h
  obtain ⟨ha, hg, hr, hf, hm, hc, hl⟩ := h
  have ha : a = [ρ 0, ρ 1, ρ 2, ρ 3, ρ 4, ρ 5, ρ 6, ρ 7, ρ 8, ρ 9, ρ 10, ρ 11, ρ 12] := ha
  subst ha
  subst hg
  have hJ : jn73 [ρ 0, ρ 1, ρ 2, ρ 3, ρ 4, ρ 5, ρ 6, ρ 7, ρ 8, ρ 9, ρ 10, ρ 11, ρ 12] (γ 0) 1 [ρ 0, ρ 1, ρ 2, ρ 3, ρ 4, ρ 5, ρ 6, ρ 7, ρ 8, ρ 9, ρ 10, ρ 11, ρ 12, ρ 13, ρ 14, ρ 15, ρ 16, ρ 17] (γ 1) := hJ
  obtain ⟨-, -, -, -, -, -, -, -, -, -, -, -, -, r13, -, -, r16, -, r18, -, -, r21, -⟩ := hr
  have r13 : (0 : Int) ≤ ρ 13 ∧ ρ 13 ≤ 7 := r13
  have r16 : (0 : Int) ≤ ρ 16 ∧ ρ 16 ≤ 0 := r16
  have r18 : (0 : Int) ≤ ρ 18 ∧ ρ 18 ≤ 0 := r18
  have r21 : ((-1) : Int) ≤ ρ 21 ∧ ρ 21 ≤ (-1) := r21
  obtain ⟨w_0, w_1, w_2, w_3, w_4⟩ : (¬ (ρ 13 < 0)) ∧ (¬ (ρ 16 ≠ 0)) ∧ (0 ≤ -ρ 18 + 4) ∧ (ρ 18 = 0) ∧ (¬ (ρ 21 ≥ 0)) := ⟨by omega, by omega, by omega, by omega, by omega⟩
  obtain ⟨-, -, -, -, -, -, -, -, -, -, -, -, m12, m13, -, m15, m16, m17, -⟩ := hm
  have m12 : γ 1 15 0 72 = ρ 15 := m12
  have m13 : γ 1 15 0 77 = ρ 16 := m13
  have m15 : γ 0 77 0 (ρ 13 + 8 * ρ 0) = ρ 18 := m15
  have m16 : γ 1 104 0 (ρ 13) = ρ 19 := m16
  have m17 : γ 0 96 0 (ρ 19) = ρ 20 := m17
  obtain ⟨l0, -⟩ := hl
  have l0 : sn62 [ρ 0, ρ 13, ρ 20, ρ 9, ρ 8, ρ 10, ρ 11] (γ 1) 0 (ρ 21) (γ 2) := hS62 _ _ _ _ _ l0
  show jn73 [ρ 0, ρ 1, ρ 2, ρ 3, ρ 4, ρ 5, ρ 6, ρ 7, ρ 8, ρ 9, ρ 10, ρ 11, ρ 12] (γ 0) 1 [ρ 0, ρ 1, ρ 2, ρ 3, ρ 4, ρ 5, ρ 6, ρ 7, ρ 8, ρ 9, ρ 10, ρ 11, ρ 12, ρ 13 + (-1), ρ 13 + 8 * ρ 0, ρ 15, ρ 16, ρ 17] (γ 2)
  have hD : en73 (γ 0) (1, [ρ 0, ρ 13, ρ 14], γ 1) = .inl (1, [ρ 0, ρ 13 + (-1), ρ 13 + 8 * ρ 0], γ 2) := by
    unfold en73
    refine (if_neg (show ¬ (1 : Nat) = 0 by decide)).trans ?_
    refine (if_pos (show (1 : Nat) = 1 by decide)).trans ?_
    refine (zLet_eq (show _ = γ 1 from rfl)).trans ?_
    refine (zLet_eq (show _ = ρ 0 from rfl)).trans ?_
    refine (zLet_eq (show _ = ρ 13 from rfl)).trans ?_
    refine (zLet_eq m12).trans ?_
    refine (zLet_eq m13).trans ?_
    refine (if_neg w_0).trans ?_
    refine (if_neg w_1).trans ?_
    refine (zLet_eq m15).trans ?_
    refine (if_pos w_2).trans ?_
    refine (if_pos w_3).trans ?_
    refine (zLet_eq m16).trans ?_
    refine (zLet_eq m17).trans ?_
    refine (zLet_eq (show fn62 [ρ 0, ρ 13, ρ 20] (γ 1) = (0, ρ 21, γ 2) from l0.symm)).trans ?_
    refine (zLet_eq (show _ = γ 2 from rfl)).trans ?_
    refine (zLet_eq (show _ = ρ 21 from rfl)).trans ?_
    refine (if_neg w_4).trans ?_
    rfl
  exact zGoo_ato hJ hD
theorem vn73a1_5 {S : Nat → zSpc} (hS62 : ∀ x g o v gz, S 62 x g o v gz → sn62 x g o v gz) (hS63 : ∀ x g o v gz, S 63 x g o v gz → sn63 x g o v gz) (hS64 : ∀ x g o v gz, S 64 x g o v gz → sn64 x g o v gz) (hS65 : ∀ x g o v gz, S 65 x g o v gz → sn65 x g o v gz) (hS70 : ∀ x g o v gz, S 70 x g o v gz → sn70 x g o v gz) {a : List Int} {g : rHp} : ∀ (ρ : Nat → Int) (γ : Nat → rHp), jn73 a g 1 (zAg (zNA a73_ 1) ρ) (γ 1) → zO 13 S a g q73a1_5 ρ γ → zGl (fun i vs g1 => jn73 a g i vs g1) (sn73 a g) q73a1_5 ρ γ := by
  intro ρ γ hJ h
  obtain ⟨ha, hg, hr, hf, hm, hc, hl⟩ := h
  have ha : a = [ρ 0, ρ 1, ρ 2, ρ 3, ρ 4, ρ 5, ρ 6, ρ 7, ρ 8, ρ 9, ρ 10, ρ 11, ρ 12] := ha
  subst ha
  subst hg
  have hJ : jn73 [ρ 0, ρ 1, ρ 2, ρ 3, ρ 4, ρ 5, ρ 6, ρ 7, ρ 8, ρ 9, ρ 10, ρ 11, ρ 12] (γ 0) 1 [ρ 0, ρ 1, ρ 2, ρ 3, ρ 4, ρ 5, ρ 6, ρ 7, ρ 8, ρ 9, ρ 10, ρ 11, ρ 12, ρ 13, ρ 14, ρ 15, ρ 16, ρ 17] (γ 1) := hJ
  obtain ⟨-, -, -, -, -, -, -, -, -, -, -, -, -, r13, -, -, r16, -, r18, -⟩ := hr
  have r13 : (0 : Int) ≤ ρ 13 ∧ ρ 13 ≤ 7 := r13
  have r16 : (0 : Int) ≤ ρ 16 ∧ ρ 16 ≤ 0 := r16
  have r18 : (1 : Int) ≤ ρ 18 ∧ ρ 18 ≤ 4 := r18
  obtain ⟨w_0, w_1, w_2, w_3⟩ : (¬ (ρ 13 < 0)) ∧ (¬ (ρ 16 ≠ 0)) ∧ (0 ≤ -ρ 18 + 4) ∧ (¬ (ρ 18 = 0)) := ⟨by omega, by omega, by omega, by omega⟩
  obtain ⟨-, -, -, -, -, -, -, -, -, -, -, -, m12, m13, -, m15, -⟩ := hm
  have m12 : γ 1 15 0 72 = ρ 15 := m12
  have m13 : γ 1 15 0 77 = ρ 16 := m13
  have m15 : γ 0 77 0 (ρ 13 + 8 * ρ 0) = ρ 18 := m15
  show jn73 [ρ 0, ρ 1, ρ 2, ρ 3, ρ 4, ρ 5, ρ 6, ρ 7, ρ 8, ρ 9, ρ 10, ρ 11, ρ 12] (γ 0) 1 [ρ 0, ρ 1, ρ 2, ρ 3, ρ 4, ρ 5, ρ 6, ρ 7, ρ 8, ρ 9, ρ 10, ρ 11, ρ 12, ρ 13 + (-1), ρ 13 + 8 * ρ 0, ρ 15, ρ 16, ρ 17] (γ 1)
  have hD : en73 (γ 0) (1, [ρ 0, ρ 13, ρ 14], γ 1) = .inl (1, [ρ 0, ρ 13 + (-1), ρ 13 + 8 * ρ 0], γ 1) := by
    unfold en73
    refine (if_neg (show ¬ (1 : Nat) = 0 by decide)).trans ?_
    refine (if_pos (show (1 : Nat) = 1 by decide)).trans ?_
    refine (zLet_eq (show _ = γ 1 from rfl)).trans ?_
    refine (zLet_eq (show _ = ρ 0 from rfl)).trans ?_
    refine (zLet_eq (show _ = ρ 13 from rfl)).trans ?_
    refine (zLet_eq m12).trans ?_
    refine (zLet_eq m13).trans ?_
    refine (if_neg w_0).trans ?_
    refine (if_neg w_1).trans ?_
    refine (zLet_eq m15).trans ?_
    refine (if_pos w_2).trans ?_
    refine (if_neg w_3).trans ?_
    rfl
  exact zGoo_ato hJ hD
theorem vn73a1_6 {S : Nat → zSpc} (hS62 : ∀ x g o v gz, S 62 x g o v gz → sn62 x g o v gz) (hS63 : ∀ x g o v gz, S 63 x g o v gz → sn63 x g o v gz) (hS64 : ∀ x g o v gz, S 64 x g o v gz → sn64 x g o v gz) (hS65 : ∀ x g o v gz, S 65 x g o v gz → sn65 x g o v gz) (hS70 : ∀ x g o v gz, S 70 x g o v gz → sn70 x g o v gz) {a : List Int} {g : rHp} : ∀ (ρ : Nat → Int) (γ : Nat → rHp), jn73 a g 1 (zAg (zNA a73_ 1) ρ) (γ 1) → zO 13 S a g q73a1_6 ρ γ → zGl (fun i vs g1 => jn73 a g i vs g1) (sn73 a g) q73a1_6 ρ γ := by
  intro ρ γ hJ h
  obtain ⟨ha, hg, hr, hf, hm, hc, hl⟩ := h
  have ha : a = [ρ 0, ρ 1, ρ 2, ρ 3, ρ 4, ρ 5, ρ 6, ρ 7, ρ 8, ρ 9, ρ 10, ρ 11, ρ 12] := ha
  subst ha
  subst hg
  have hJ : jn73 [ρ 0, ρ 1, ρ 2, ρ 3, ρ 4, ρ 5, ρ 6, ρ 7, ρ 8, ρ 9, ρ 10, ρ 11, ρ 12] (γ 0) 1 [ρ 0, ρ 1, ρ 2, ρ 3, ρ 4, ρ 5, ρ 6, ρ 7, ρ 8, ρ 9, ρ 10, ρ 11, ρ 12, ρ 13, ρ 14, ρ 15, ρ 16, ρ 17] (γ 1) := hJ
  obtain ⟨-, -, -, -, -, -, -, -, -, -, -, -, -, r13, -, -, r16, -, r18, -⟩ := hr
  have r13 : (0 : Int) ≤ ρ 13 ∧ ρ 13 ≤ 7 := r13
  have r16 : (0 : Int) ≤ ρ 16 ∧ ρ 16 ≤ 0 := r16
  have r18 : (5 : Int) ≤ ρ 18 ∧ ρ 18 ≤ 7 := r18
  obtain ⟨w_0, w_1, w_2⟩ : (¬ (ρ 13 < 0)) ∧ (¬ (ρ 16 ≠ 0)) ∧ (¬ (0 ≤ -ρ 18 + 4)) := ⟨by omega, by omega, by omega⟩
  obtain ⟨-, -, -, -, -, -, -, -, -, -, -, -, m12, m13, -, m15, -⟩ := hm
  have m12 : γ 1 15 0 72 = ρ 15 := m12
  have m13 : γ 1 15 0 77 = ρ 16 := m13
  have m15 : γ 0 77 0 (ρ 13 + 8 * ρ 0) = ρ 18 := m15
  show jn73 [ρ 0, ρ 1, ρ 2, ρ 3, ρ 4, ρ 5, ρ 6, ρ 7, ρ 8, ρ 9, ρ 10, ρ 11, ρ 12] (γ 0) 1 [ρ 0, ρ 1, ρ 2, ρ 3, ρ 4, ρ 5, ρ 6, ρ 7, ρ 8, ρ 9, ρ 10, ρ 11, ρ 12, ρ 13 + (-1), ρ 13 + 8 * ρ 0, ρ 15, ρ 16, ρ 17] (γ 1)
  have hD : en73 (γ 0) (1, [ρ 0, ρ 13, ρ 14], γ 1) = .inl (1, [ρ 0, ρ 13 + (-1), ρ 13 + 8 * ρ 0], γ 1) := by
    unfold en73
    refine (if_neg (show ¬ (1 : Nat) = 0 by decide)).trans ?_
    refine (if_pos (show (1 : Nat) = 1 by decide)).trans ?_
    refine (zLet_eq (show _ = γ 1 from rfl)).trans ?_
    refine (zLet_eq (show _ = ρ 0 from rfl)).trans ?_
    refine (zLet_eq (show _ = ρ 13 from rfl)).trans ?_
    refine (zLet_eq m12).trans ?_
    refine (zLet_eq m13).trans ?_
    refine (if_neg w_0).trans ?_
    refine (if_neg w_1).trans ?_
    refine (zLet_eq m15).trans ?_
    refine (if_neg w_2).trans ?_
    rfl
  exact zGoo_ato hJ hD
theorem yn73 {S : Nat → zSpc} (hS62 : ∀ x g o v gz, S 62 x g o v gz → sn62 x g o v gz) (hS63 : ∀ x g o v gz, S 63 x g o v gz → sn63 x g o v gz) (hS64 : ∀ x g o v gz, S 64 x g o v gz → sn64 x g o v gz) (hS65 : ∀ x g o v gz, S 65 x g o v gz → sn65 x g o v gz) (hS70 : ∀ x g o v gz, S 70 x g o v gz → sn70 x g o v gz) : ∀ x g o v gz, zSem uW uT w73_.2.2.2.1 w73_.2.2.1.1.length S q73 (fun i => q73a.getD i []) (zNA a73_) x g o v gz → sn73 x g o v gz := by
  intro a g o v gz h
  exact zSem_all (l0 := q73) (las := q73a) (S := S) (J := (fun i vs g1 => jn73 a g i vs g1)) (P := sn73 a g) (fun _ => (show zAll _ [q73_0] from (zAll_c (vn73_0 hS62 hS63 hS64 hS65 hS70) zAll_n))) (fun _ => (show zAllI _ 0 [q73a0, q73a1] from ⟨(show zAll _ [q73a0_0, q73a0_1, q73a0_2, q73a0_3, q73a0_4, q73a0_5, q73a0_6, q73a0_7, q73a0_8] from (zAll_c (vn73a0_0 hS62 hS63 hS64 hS65 hS70) (zAll_c (vn73a0_1 hS62 hS63 hS64 hS65 hS70) (zAll_c (vn73a0_2 hS62 hS63 hS64 hS65 hS70) (zAll_c (vn73a0_3 hS62 hS63 hS64 hS65 hS70) (zAll_c (vn73a0_4 hS62 hS63 hS64 hS65 hS70) (zAll_c (vn73a0_5 hS62 hS63 hS64 hS65 hS70) (zAll_c (vn73a0_6 hS62 hS63 hS64 hS65 hS70) (zAll_c (vn73a0_7 hS62 hS63 hS64 hS65 hS70) (zAll_c (vn73a0_8 hS62 hS63 hS64 hS65 hS70) zAll_n)))))))))), ⟨(show zAll _ [q73a1_0, q73a1_1, q73a1_2, q73a1_3, q73a1_4, q73a1_5, q73a1_6] from (zAll_c (vn73a1_0 hS62 hS63 hS64 hS65 hS70) (zAll_c (vn73a1_1 hS62 hS63 hS64 hS65 hS70) (zAll_c (vn73a1_2 hS62 hS63 hS64 hS65 hS70) (zAll_c (vn73a1_3 hS62 hS63 hS64 hS65 hS70) (zAll_c (vn73a1_4 hS62 hS63 hS64 hS65 hS70) (zAll_c (vn73a1_5 hS62 hS63 hS64 hS65 hS70) (zAll_c (vn73a1_6 hS62 hS63 hS64 hS65 hS70) zAll_n)))))))), trivial⟩⟩)) h
