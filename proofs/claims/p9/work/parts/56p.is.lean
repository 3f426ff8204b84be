/-! ===== the runs are the functions ===== -/
theorem vn158_0 {S : Nat → zSpc} (hS109 : ∀ x g o v gz, S 109 x g o v gz → sn109 x g o v gz) (hS114 : ∀ x g o v gz, S 114 x g o v gz → sn114 x g o v gz) (hS132 : ∀ x g o v gz, S 132 x g o v gz → sn132 x g o v gz) (hS152 : ∀ x g o v gz, S 152 x g o v gz → sn152 x g o v gz) (hS153 : ∀ x g o v gz, S 153 x g o v gz → sn153 x g o v gz) (hS157 : ∀ x g o v gz, S 157 x g o v gz → sn157 x g o v gz) {a : List Int} {g : rHp} : ∀ (ρ : Nat → Int) (γ : Nat → rHp), zO 18 S a g q158_0 ρ γ → zGl (fun i vs g1 => jn158 a g i vs g1) (sn158 a g) q158_0 ρ γ := by
  intro ρ γ h
  obtain ⟨ha, hg, hr, hf, hm, hc, hl⟩ := h
  have ha : a = [ρ 0, ρ 1, ρ 2, ρ 3, ρ 4, ρ 5, ρ 6, ρ 7, ρ 8, ρ 9, ρ 10, ρ 11, ρ 12, ρ 13, ρ 14, ρ 15, ρ 16, ρ 17] := ha
  subst ha
  subst hg
  obtain ⟨m0, m1, -⟩ := hm
  have m0 : γ 0 1 0 10 = ρ 0 := m0
  have m1 : γ 0 40 0 (ρ 0) = ρ 1 := m1
  obtain ⟨⟨-, c1⟩, c2⟩ := hc
  have c1 : γ 1 = rUp (γ 0) 9 (ρ 1) 2 0 := c1
  have c2 : γ 2 = rUp (γ 1) 9 (ρ 1) 3 0 := c2
  show jn158 [ρ 0, ρ 1, ρ 2, ρ 3, ρ 4, ρ 5, ρ 6, ρ 7, ρ 8, ρ 9, ρ 10, ρ 11, ρ 12, ρ 13, ρ 14, ρ 15, ρ 16, ρ 17] (γ 0) 0 [ρ 0, ρ 1, ρ 2, ρ 3, ρ 4, ρ 5, ρ 6, ρ 7, ρ 8, ρ 9, ρ 10, ρ 11, ρ 12, ρ 13, ρ 14, ρ 15, ρ 16, ρ 17, 0, ρ 3, 0, ρ 10, ρ 12, ρ 13, ρ 14, ρ 15, ρ 16] (γ 2)
  have hD : dn158 [] (γ 0) = .inl (0, [], γ 2) := by
    unfold dn158
    refine (zLet_eq m0).trans ?_
    refine (zLet_eq m1).trans ?_
    refine (zLet_eq c1.symm).trans ?_
    refine (zLet_eq c2.symm).trans ?_
    rfl
  exact zGoo_to hD
theorem vn158a0_0 {S : Nat → zSpc} (hS109 : ∀ x g o v gz, S 109 x g o v gz → sn109 x g o v gz) (hS114 : ∀ x g o v gz, S 114 x g o v gz → sn114 x g o v gz) (hS132 : ∀ x g o v gz, S 132 x g o v gz → sn132 x g o v gz) (hS152 : ∀ x g o v gz, S 152 x g o v gz → sn152 x g o v gz) (hS153 : ∀ x g o v gz, S 153 x g o v gz → sn153 x g o v gz) (hS157 : ∀ x g o v gz, S 157 x g o v gz → sn157 x g o v gz) {a : List Int} {g : rHp} : ∀ (ρ : Nat → Int) (γ : Nat → rHp), jn158 a g 0 (zAg (zNA a158_ 0) ρ) (γ 1) → zO 18 S a g q158a0_0 ρ γ → zGl (fun i vs g1 => jn158 a g i vs g1) (sn158 a g) q158a0_0 ρ γ := by
  intro ρ γ hJ h
  obtain ⟨ha, hg, hr, hf, hm, hc, hl⟩ := h
  have ha : a = [ρ 0, ρ 1, ρ 2, ρ 3, ρ 4, ρ 5, ρ 6, ρ 7, ρ 8, ρ 9, ρ 10, ρ 11, ρ 12, ρ 13, ρ 14, ρ 15, ρ 16, ρ 17] := ha
  subst ha
  subst hg
  have hJ : jn158 [ρ 0, ρ 1, ρ 2, ρ 3, ρ 4, ρ 5, ρ 6, ρ 7, ρ 8, ρ 9, ρ 10, ρ 11, ρ 12, ρ 13, ρ 14, ρ 15, ρ 16, ρ 17] (γ 0) 0 [ρ 0, ρ 1, ρ 2, ρ 3, ρ 4, ρ 5, ρ 6, ρ 7, ρ 8, ρ 9, ρ 10, ρ 11, ρ 12, ρ 13, ρ 14, ρ 15, ρ 16, ρ 17, ρ 18, ρ 19, ρ 20, ρ 21, ρ 22, ρ 23, ρ 24, ρ 25, ρ 26] (γ 1) := hJ
  obtain ⟨-, -, -, -, -, -, -, -, -, -, -, -, -, -, -, -, -, -, r18, -⟩ := hr
  have r18 : (8 : Int) ≤ ρ 18 ∧ ρ 18 ≤ 8 := r18
  have w_0 : ρ 18 ≥ 8 := by omega
  obtain ⟨m0, m1, -, -, -, -, -, -, -, -, -, -, -, -, -, -, -, -, m18, -, -, -, m22, -, -, -, -, -, -, -, m30, -⟩ := hm
  have m0 : γ 0 1 0 10 = ρ 0 := m0
  have m1 : γ 0 40 0 (ρ 0) = ρ 1 := m1
  have m18 : γ 1 9 (ρ 1) 2 = ρ 18 := m18
  have m22 : γ 1 9 (ρ 1) 3 = ρ 20 := m22
  have m30 : γ 2 2 0 6 = ρ 27 := m30
  obtain ⟨l0, l1, -⟩ := hl
  have l0 : sn114 [ρ 19, ρ 4] (γ 1) 0 (-1) (γ 2) := hS114 _ _ _ _ _ l0
  have l1 : sn109 [ρ 27, ρ 11] (γ 2) 0 0 (γ 3) := hS109 _ _ _ _ _ l1
  show sn158 [ρ 0, ρ 1, ρ 2, ρ 3, ρ 4, ρ 5, ρ 6, ρ 7, ρ 8, ρ 9, ρ 10, ρ 11, ρ 12, ρ 13, ρ 14, ρ 15, ρ 16, ρ 17] (γ 0) 0 0 (γ 3)
  have hD : en158 (γ 0) (0, [], γ 1) = .inr (0, 0, γ 3) := by
    unfold en158
    refine (if_pos (show (0 : Nat) = 0 by decide)).trans ?_
    refine (zLet_eq (show _ = γ 1 from rfl)).trans ?_
    refine (zLet_eq m0).trans ?_
    refine (zLet_eq m1).trans ?_
    refine (zLet_eq m18).trans ?_
    refine (zLet_eq m22).trans ?_
    refine (if_pos w_0).trans ?_
    refine (zLet_eq (show fn114 [] (γ 1) = (0, (-1), γ 2) from l0.symm)).trans ?_
    refine (zLet_eq (show _ = γ 2 from rfl)).trans ?_
    refine (if_neg zQ2_).trans ?_
    refine (zLet_eq m30).trans ?_
    refine (zLet_eq (show fn109 [ρ 27] (γ 2) = (0, 0, γ 3) from l1.symm)).trans ?_
    refine (zLet_eq (show _ = γ 3 from rfl)).trans ?_
    rfl
  exact zGoo_aend hJ hD
theorem vn158a0_1 {S : Nat → zSpc} (hS109 : ∀ x g o v gz, S 109 x g o v gz → sn109 x g o v gz) (hS114 : ∀ x g o v gz, S 114 x g o v gz → sn114 x g o v gz) (hS132 : ∀ x g o v gz, S 132 x g o v gz → sn132 x g o v gz) (hS152 : ∀ x g o v gz, S 152 x g o v gz → sn152 x g o v gz) (hS153 : ∀ x g o v gz, S 153 x g o v gz → sn153 x g o v gz) (hS157 : ∀ x g o v gz, S 157 x g o v gz → sn157 x g o v gz) {a : List Int} {g : rHp} : ∀ (ρ : Nat → Int) (γ : Nat → rHp), jn158 a g 0 (zAg (zNA a158_ 0) ρ) (γ 1) → zO 18 S a g q158a0_1 ρ γ → zGl (fun i vs g1 => jn158 a g i vs g1) (sn158 a g) q158a0_1 ρ γ := by
  intro ρ γ hJ h
  obtain ⟨ha, hg, hr, hf, hm, hc, hl⟩ := h
  have ha : a = [ρ 0, ρ 1, ρ 2, ρ 3, ρ 4, ρ 5, ρ 6, ρ 7, ρ 8, ρ 9, ρ 10, ρ 11, ρ 12, ρ 13, ρ 14, ρ 15, ρ 16, ρ 17] := ha
  subst ha
  subst hg
  have hJ : jn158 [ρ 0, ρ 1, ρ 2, ρ 3, ρ 4, ρ 5, ρ 6, ρ 7, ρ 8, ρ 9, ρ 10, ρ 11, ρ 12, ρ 13, ρ 14, ρ 15, ρ 16, ρ 17] (γ 0) 0 [ρ 0, ρ 1, ρ 2, ρ 3, ρ 4, ρ 5, ρ 6, ρ 7, ρ 8, ρ 9, ρ 10, ρ 11, ρ 12, ρ 13, ρ 14, ρ 15, ρ 16, ρ 17, ρ 18, ρ 19, ρ 20, ρ 21, ρ 22, ρ 23, ρ 24, ρ 25, ρ 26] (γ 1) := hJ
  obtain ⟨-, -, -, -, -, -, -, -, -, -, -, -, -, -, -, -, -, -, r18, -, -, -, -, -, -, -, -, r27, -⟩ := hr
  have r18 : (8 : Int) ≤ ρ 18 ∧ ρ 18 ≤ 8 := r18
  have r27 : (0 : Int) ≤ ρ 27 ∧ ρ 27 ≤ 255 := r27
  obtain ⟨w_0, w_1⟩ : (ρ 18 ≥ 8) ∧ ((0 : Int) ≤ ρ 27) := ⟨by omega, by omega⟩
  obtain ⟨m0, m1, -, -, -, -, -, -, -, -, -, -, -, -, -, -, -, -, m18, -, -, -, m22, -, -, -, -, -, -, -, m30, -⟩ := hm
  have m0 : γ 0 1 0 10 = ρ 0 := m0
  have m1 : γ 0 40 0 (ρ 0) = ρ 1 := m1
  have m18 : γ 1 9 (ρ 1) 2 = ρ 18 := m18
  have m22 : γ 1 9 (ρ 1) 3 = ρ 20 := m22
  have m30 : γ 2 2 0 6 = ρ 28 := m30
  obtain ⟨l0, l1, -⟩ := hl
  have l0 : sn114 [ρ 19, ρ 4] (γ 1) 0 (ρ 27) (γ 2) := hS114 _ _ _ _ _ l0
  have l1 : sn109 [ρ 28, ρ 11] (γ 2) 0 0 (γ 3) := hS109 _ _ _ _ _ l1
  show sn158 [ρ 0, ρ 1, ρ 2, ρ 3, ρ 4, ρ 5, ρ 6, ρ 7, ρ 8, ρ 9, ρ 10, ρ 11, ρ 12, ρ 13, ρ 14, ρ 15, ρ 16, ρ 17] (γ 0) 0 0 (γ 3)
  have hD : en158 (γ 0) (0, [], γ 1) = .inr (0, 0, γ 3) := by
    unfold en158
    refine (if_pos (show (0 : Nat) = 0 by decide)).trans ?_
    refine (zLet_eq (show _ = γ 1 from rfl)).trans ?_
    refine (zLet_eq m0).trans ?_
    refine (zLet_eq m1).trans ?_
    refine (zLet_eq m18).trans ?_
    refine (zLet_eq m22).trans ?_
    refine (if_pos w_0).trans ?_
    refine (zLet_eq (show fn114 [] (γ 1) = (0, ρ 27, γ 2) from l0.symm)).trans ?_
    refine (zLet_eq (show _ = γ 2 from rfl)).trans ?_
    refine (if_pos w_1).trans ?_
    refine (zLet_eq m30).trans ?_
    refine (zLet_eq (show fn109 [ρ 28] (γ 2) = (0, 0, γ 3) from l1.symm)).trans ?_
    refine (zLet_eq (show _ = γ 3 from rfl)).trans ?_
    rfl
  exact zGoo_aend hJ hD
theorem vn158a0_2 {S : Nat → zSpc} (hS109 : ∀ x g o v gz, S 109 x g o v gz → sn109 x g o v gz) (hS114 : ∀ x g o v gz, S 114 x g o v gz → sn114 x g o v gz) (hS132 : ∀ x g o v gz, S 132 x g o v gz → sn132 x g o v gz) (hS152 : ∀ x g o v gz, S 152 x g o v gz → sn152 x g o v gz) (hS153 : ∀ x g o v gz, S 153 x g o v gz → sn153 x g o v gz) (hS157 : ∀ x g o v gz, S 157 x g o v gz → sn157 x g o v gz) {a : List Int} {g : rHp} : ∀ (ρ : Nat → Int) (γ : Nat → rHp), jn158 a g 0 (zAg (zNA a158_ 0) ρ) (γ 1) → zO 18 S a g q158a0_2 ρ γ → zGl (fun i vs g1 => jn158 a g i vs g1) (sn158 a g) q158a0_2 ρ γ := by
  intro ρ γ hJ h
  obtain ⟨ha, hg, hr, hf, hm, hc, hl⟩ := h
  have ha : a = [ρ 0, ρ 1, ρ 2, ρ 3, ρ 4, ρ 5, ρ 6, ρ 7, ρ 8, ρ 9, ρ 10, ρ 11, ρ 12, ρ 13, ρ 14, ρ 15, ρ 16, ρ 17] := ha
  subst ha
  subst hg
  have hJ : jn158 [ρ 0, ρ 1, ρ 2, ρ 3, ρ 4, ρ 5, ρ 6, ρ 7, ρ 8, ρ 9, ρ 10, ρ 11, ρ 12, ρ 13, ρ 14, ρ 15, ρ 16, ρ 17] (γ 0) 0 [ρ 0, ρ 1, ρ 2, ρ 3, ρ 4, ρ 5, ρ 6, ρ 7, ρ 8, ρ 9, ρ 10, ρ 11, ρ 12, ρ 13, ρ 14, ρ 15, ρ 16, ρ 17, ρ 18, ρ 19, ρ 20, ρ 21, ρ 22, ρ 23, ρ 24, ρ 25, ρ 26] (γ 1) := hJ
  obtain ⟨-, -, -, -, -, -, -, -, -, -, -, -, -, -, -, -, -, -, r18, -⟩ := hr
  have r18 : (0 : Int) ≤ ρ 18 ∧ ρ 18 ≤ 7 := r18
  have w_0 : ¬ (ρ 18 ≥ 8) := by omega
  obtain ⟨m0, m1, -, -, -, -, -, -, -, -, -, -, -, -, -, -, -, -, m18, -, -, -, m22, -⟩ := hm
  have m0 : γ 0 1 0 10 = ρ 0 := m0
  have m1 : γ 0 40 0 (ρ 0) = ρ 1 := m1
  have m18 : γ 1 9 (ρ 1) 2 = ρ 18 := m18
  have m22 : γ 1 9 (ρ 1) 3 = ρ 20 := m22
  obtain ⟨l0, l1, -⟩ := hl
  have l0 : sn132 [ρ 1, ρ 18] (γ 1) 0 (ρ 18 + 9 * ρ 1 + 1) (γ 2) := hS132 _ _ _ _ _ l0
  have l1 : sn157 [ρ 0, ρ 1, ρ 18, ρ 19, ρ 4, ρ 27, ρ 28, ρ 29, ρ 5, ρ 6, ρ 7, ρ 21, ρ 11, ρ 22, ρ 23, ρ 24, ρ 25, ρ 26, ρ 30, ρ 31, ρ 32, ρ 33] (γ 2) 0 0 (γ 3) := hS157 _ _ _ _ _ l1
  show sn158 [ρ 0, ρ 1, ρ 2, ρ 3, ρ 4, ρ 5, ρ 6, ρ 7, ρ 8, ρ 9, ρ 10, ρ 11, ρ 12, ρ 13, ρ 14, ρ 15, ρ 16, ρ 17] (γ 0) 0 0 (γ 3)
  have hD : en158 (γ 0) (0, [], γ 1) = .inr (0, 0, γ 3) := by
    unfold en158
    refine (if_pos (show (0 : Nat) = 0 by decide)).trans ?_
    refine (zLet_eq (show _ = γ 1 from rfl)).trans ?_
    refine (zLet_eq m0).trans ?_
    refine (zLet_eq m1).trans ?_
    refine (zLet_eq m18).trans ?_
    refine (zLet_eq m22).trans ?_
    refine (if_neg w_0).trans ?_
    refine (zLet_eq (show fn132 [ρ 1, ρ 18] (γ 1) = (0, ρ 18 + 9 * ρ 1 + 1, γ 2) from l0.symm)).trans ?_
    refine (zLet_eq (show _ = γ 2 from rfl)).trans ?_
    refine (zLet_eq (show fn157 [] (γ 2) = (0, 0, γ 3) from l1.symm)).trans ?_
    refine (zLet_eq (show _ = γ 3 from rfl)).trans ?_
    refine (if_neg zQ0_).trans ?_
    rfl
  exact zGoo_aend hJ hD
theorem vn158a0_3 {S : Nat → zSpc} (hS109 : ∀ x g o v gz, S 109 x g o v gz → sn109 x g o v gz) (hS114 : ∀ x g o v gz, S 114 x g o v gz → sn114 x g o v gz) (hS132 : ∀ x g o v gz, S 132 x g o v gz → sn132 x g o v gz) (hS152 : ∀ x g o v gz, S 152 x g o v gz → sn152 x g o v gz) (hS153 : ∀ x g o v gz, S 153 x g o v gz → sn153 x g o v gz) (hS157 : ∀ x g o v gz, S 157 x g o v gz → sn157 x g o v gz) {a : List Int} {g : rHp} : ∀ (ρ : Nat → Int) (γ : Nat → rHp), jn158 a g 0 (zAg (zNA a158_ 0) ρ) (γ 1) → zO 18 S a g q158a0_3 ρ γ → zGl (fun i vs g1 => jn158 a g i vs g1) (sn158 a g) q158a0_3 ρ γ := by
  intro ρ γ hJ h
  obtain ⟨ha, hg, hr, hf, hm, hc, hl⟩ := h
  have ha : a = [ρ 0, ρ 1, ρ 2, ρ 3, ρ 4, ρ 5, ρ 6, ρ 7, ρ 8, ρ 9, ρ 10, ρ 11, ρ 12, ρ 13, ρ 14, ρ 15, ρ 16, ρ 17] := ha
  subst ha
  subst hg
  have hJ : jn158 [ρ 0, ρ 1, ρ 2, ρ 3, ρ 4, ρ 5, ρ 6, ρ 7, ρ 8, ρ 9, ρ 10, ρ 11, ρ 12, ρ 13, ρ 14, ρ 15, ρ 16, ρ 17] (γ 0) 0 [ρ 0, ρ 1, ρ 2, ρ 3, ρ 4, ρ 5, ρ 6, ρ 7, ρ 8, ρ 9, ρ 10, ρ 11, ρ 12, ρ 13, ρ 14, ρ 15, ρ 16, ρ 17, ρ 18, ρ 19, ρ 20, ρ 21, ρ 22, ρ 23, ρ 24, ρ 25, ρ 26] (γ 1) := hJ
  obtain ⟨r0, r1, r2, r3, r4, r5, r6, r7, r8, r9, r10, r11, r12, r13, r14, r15, r16, r17, r18, r19, r20, r21, r22, r23, r24, r25, r26, r27, r28, r29, r30, r31, r32, r33, r34, r35, r36, r37, r38, r39, r40, -⟩ := hr
  have r0 : (0 : Int) ≤ ρ 0 ∧ ρ 0 ≤ 60 := r0
  have r1 : (0 : Int) ≤ ρ 1 ∧ ρ 1 ≤ 60 := r1
  have r2 : (0 : Int) ≤ ρ 2 ∧ ρ 2 ≤ 8 := r2
  have r3 : (0 : Int) ≤ ρ 3 ∧ ρ 3 ≤ 2000 := r3
  have r4 : (0 : Int) ≤ ρ 4 ∧ ρ 4 ≤ 2000 := r4
  have r5 : (0 : Int) ≤ ρ 5 ∧ ρ 5 ≤ 0 := r5
  have r6 : ((-1) : Int) ≤ ρ 6 ∧ ρ 6 ≤ 19 := r6
  have r7 : (0 : Int) ≤ ρ 7 ∧ ρ 7 ≤ 4 := r7
  have r8 : ((-1) : Int) ≤ ρ 8 ∧ ρ 8 ≤ 7 := r8
  have r9 : (0 : Int) ≤ ρ 9 ∧ ρ 9 ≤ 8 := r9
  have r10 : (0 : Int) ≤ ρ 10 ∧ ρ 10 ≤ 20 := r10
  have r11 : ((-2147483648) : Int) ≤ ρ 11 ∧ ρ 11 ≤ 2147483647 := r11
  have r12 : ((-2147483648) : Int) ≤ ρ 12 ∧ ρ 12 ≤ 2147483647 := r12
  have r13 : ((-2147483648) : Int) ≤ ρ 13 ∧ ρ 13 ≤ 2147483647 := r13
  have r14 : (0 : Int) ≤ ρ 14 ∧ ρ 14 ≤ 8 := r14
  have r15 : (0 : Int) ≤ ρ 15 ∧ ρ 15 ≤ 32 := r15
  have r16 : (0 : Int) ≤ ρ 16 ∧ ρ 16 ≤ 5120 := r16
  have r17 : ((-2147483648) : Int) ≤ ρ 17 ∧ ρ 17 ≤ 2147483647 := r17
  have r18 : (0 : Int) ≤ ρ 18 ∧ ρ 18 ≤ 7 := r18
  have r19 : (0 : Int) ≤ ρ 19 ∧ ρ 19 ≤ 2000 := r19
  have r20 : (0 : Int) ≤ ρ 20 ∧ ρ 20 ≤ 8 := r20
  have r21 : (0 : Int) ≤ ρ 21 ∧ ρ 21 ≤ 20 := r21
  have r22 : ((-2147483648) : Int) ≤ ρ 22 ∧ ρ 22 ≤ 2147483647 := r22
  have r23 : ((-2147483648) : Int) ≤ ρ 23 ∧ ρ 23 ≤ 2147483647 := r23
  have r24 : (0 : Int) ≤ ρ 24 ∧ ρ 24 ≤ 8 := r24
  have r25 : (0 : Int) ≤ ρ 25 ∧ ρ 25 ≤ 32 := r25
  have r26 : (0 : Int) ≤ ρ 26 ∧ ρ 26 ≤ 5120 := r26
  have r27 : (0 : Int) ≤ ρ 27 ∧ ρ 27 ≤ 8 := r27
  have r28 : ((-1) : Int) ≤ ρ 28 ∧ ρ 28 ≤ 7 := r28
  have r29 : ((-1) : Int) ≤ ρ 29 ∧ ρ 29 ≤ 19 := r29
  have r30 : (0 : Int) ≤ ρ 30 ∧ ρ 30 ≤ 4 := r30
  have r31 : ((-2147483648) : Int) ≤ ρ 31 ∧ ρ 31 ≤ 2147483647 := r31
  have r32 : ((-1) : Int) ≤ ρ 32 ∧ ρ 32 ≤ 3 := r32
  have r33 : (0 : Int) ≤ ρ 33 ∧ ρ 33 ≤ 4 := r33
  have r34 : (2 : Int) ≤ ρ 34 ∧ ρ 34 ≤ 2000 := r34
  have r35 : (3 : Int) ≤ ρ 35 ∧ ρ 35 ≤ 5 := r35
  have r36 : ((-2147483648) : Int) ≤ ρ 36 ∧ ρ 36 ≤ 2147483647 := r36
  have r37 : (0 : Int) ≤ ρ 37 ∧ ρ 37 ≤ 5120 := r37
  have r38 : (1 : Int) ≤ ρ 38 ∧ ρ 38 ≤ 2 := r38
  have r39 : (0 : Int) ≤ ρ 39 ∧ ρ 39 ≤ 2000 := r39
  have r40 : (0 : Int) ≤ ρ 40 ∧ ρ 40 ≤ 2000 := r40
  obtain ⟨f0, f1, f2, f3, f4, f5, f6, f7, f8, f9, f10, f11, f12, f13, f14, f15, f16, -⟩ := hf
  have f0 : (0 : Int) ≤ ρ 40 + -ρ 34 := f0
  have f1 : (0 : Int) ≤ ρ 40 + -ρ 4 := f1
  have f2 : (0 : Int) ≤ -ρ 39 + ρ 34 + (-1) := f2
  have f3 : (0 : Int) ≤ ρ 34 + -ρ 19 + (-1) := f3
  have f4 : (0 : Int) ≤ ρ 37 + -ρ 26 := f4
  have f5 : (0 : Int) ≤ ρ 39 + -ρ 19 := f5
  have f6 : (0 : Int) ≤ -ρ 38 + ρ 4 := f6
  have f7 : (0 : Int) ≤ -ρ 39 + ρ 4 + (-1) := f7
  have f8 : (0 : Int) ≤ -ρ 19 + ρ 4 + (-1) := f8
  have f9 : (0 : Int) ≤ -ρ 18 + ρ 4 := f9
  have f10 : (0 : Int) ≤ ρ 26 + -ρ 16 := f10
  have f11 : (0 : Int) ≤ ρ 25 + -ρ 15 := f11
  have f12 : (0 : Int) ≤ ρ 24 + -ρ 14 := f12
  have f13 : (0 : Int) ≤ ρ 21 + -ρ 10 := f13
  have f14 : (0 : Int) ≤ ρ 19 + -ρ 3 := f14
  have f15 : (0 : Int) ≤ ρ 19 + -ρ 18 := f15
  have f16 : (0 : Int) ≤ -ρ 20 + ρ 18 := f16
  obtain ⟨m0, m1, m2, m3, m4, m5, m6, m7, m8, m9, m10, m11, m12, m13, m14, m15, m16, m17, m18, m19, m20, m21, m22, m23, m24, m25, m26, m27, m28, m29, m30, m31, m32, m33, m34, m35, m36, m37, m38, m39, m40, m41, m42, m43, m44, m45, m46, m47, m48, m49, m50, m51, m52, m53, m54, m55, -⟩ := hm
  have m0 : γ 0 1 0 10 = ρ 0 := m0
  have m1 : γ 0 40 0 (ρ 0) = ρ 1 := m1
  have m2 : γ 0 9 (ρ 1) 2 = ρ 2 := m2
  have m3 : γ 0 2 0 6 = ρ 3 := m3
  have m4 : γ 0 2 0 3 = ρ 4 := m4
  have m5 : γ 0 2 0 7 = ρ 5 := m5
  have m6 : γ 0 10 (9 * ρ 1) 8 = ρ 6 := m6
  have m7 : γ 0 10 (9 * ρ 1) 12 = ρ 7 := m7
  have m8 : γ 0 10 (9 * ρ 1) 14 = ρ 8 := m8
  have m9 : γ 0 9 (ρ 1) 3 = ρ 9 := m9
  have m10 : γ 0 1 0 7 = ρ 10 := m10
  have m11 : γ 0 2 0 4 = ρ 11 := m11
  have m12 : γ 0 2 0 5 = ρ 12 := m12
  have m13 : γ 0 2 0 9 = ρ 13 := m13
  have m14 : γ 0 2 0 13 = ρ 14 := m14
  have m15 : γ 0 2 0 16 = ρ 15 := m15
  have m16 : γ 0 3 0 1 = ρ 16 := m16
  have m17 : γ 0 10 (9 * ρ 1) 15 = ρ 17 := m17
  have m18 : γ 1 9 (ρ 1) 2 = ρ 18 := m18
  have m19 : γ 1 2 0 6 = ρ 19 := m19
  have m20 : γ 1 10 (9 * ρ 1) 8 = ρ 6 := m20
  have m21 : γ 1 10 (9 * ρ 1) 12 = ρ 7 := m21
  have m22 : γ 1 9 (ρ 1) 3 = ρ 20 := m22
  have m23 : γ 1 1 0 7 = ρ 21 := m23
  have m24 : γ 1 2 0 4 = ρ 11 := m24
  have m25 : γ 1 2 0 5 = ρ 22 := m25
  have m26 : γ 1 2 0 9 = ρ 23 := m26
  have m27 : γ 1 2 0 13 = ρ 24 := m27
  have m28 : γ 1 2 0 16 = ρ 25 := m28
  have m29 : γ 1 3 0 1 = ρ 26 := m29
  have m30 : γ 1 10 (ρ 18 + 9 * ρ 1 + 1) 4 = ρ 27 := m30
  have m31 : γ 1 10 (ρ 18 + 9 * ρ 1 + 1) 11 = ρ 28 := m31
  have m32 : γ 1 10 (ρ 18 + 9 * ρ 1 + 1) 8 = ρ 29 := m32
  have m33 : γ 1 10 (ρ 18 + 9 * ρ 1 + 1) 5 = ρ 30 := m33
  have m34 : γ 1 10 (ρ 18 + 9 * ρ 1 + 1) 7 = ρ 31 := m34
  have m35 : γ 1 10 (ρ 18 + 9 * ρ 1 + 1) 9 = ρ 32 := m35
  have m36 : γ 1 10 (ρ 18 + 9 * ρ 1 + 1) 12 = ρ 33 := m36
  have m37 : γ 3 2 0 6 = ρ 34 := m37
  have m38 : γ 3 10 (ρ 18 + 9 * ρ 1 + 1) 4 = ρ 35 := m38
  have m39 : γ 3 10 (ρ 18 + 9 * ρ 1 + 1) 11 = ρ 28 := m39
  have m40 : γ 3 10 (ρ 18 + 9 * ρ 1 + 1) 8 = (-1) := m40
  have m41 : γ 3 10 (9 * ρ 1) 8 = ρ 6 := m41
  have m42 : γ 3 10 (9 * ρ 1) 12 = ρ 7 := m42
  have m43 : γ 3 1 0 7 = ρ 21 := m43
  have m44 : γ 3 2 0 4 = ρ 11 := m44
  have m45 : γ 3 2 0 5 = ρ 22 := m45
  have m46 : γ 3 2 0 9 = ρ 36 := m46
  have m47 : γ 3 2 0 13 = ρ 24 := m47
  have m48 : γ 3 2 0 16 = ρ 25 := m48
  have m49 : γ 3 3 0 1 = ρ 37 := m49
  have m50 : γ 3 10 (ρ 18 + 9 * ρ 1 + 1) 5 = ρ 38 := m50
  have m51 : γ 3 10 (ρ 18 + 9 * ρ 1 + 1) 7 = ρ 39 := m51
  have m52 : γ 3 10 (ρ 18 + 9 * ρ 1 + 1) 9 = (-1) := m52
  have m53 : γ 3 10 (ρ 18 + 9 * ρ 1 + 1) 12 = 0 := m53
  have m54 : γ 5 2 0 6 = ρ 40 := m54
  have m55 : γ 6 2 0 4 = ρ 40 := m55
  obtain ⟨⟨⟨⟨⟨⟨-, c1⟩, c2⟩, c3⟩, c4⟩, c5⟩, c6⟩ := hc
  have c1 : ∀ (G : Nat) (k j : Int), ¬ rMdP m107_ G j → γ 1 G k j = γ 0 G k j := c1
  have c2 : ∀ (G : Nat) (k j : Int), ¬ rMdP m0_ G j → γ 2 G k j = γ 1 G k j := c2
  have c3 : ∀ (G : Nat) (k j : Int), ¬ rMdP m106_ G j → γ 3 G k j = γ 2 G k j := c3
  have c4 : γ 4 = rUp (γ 3) 9 (ρ 1) 2 (ρ 18 + 1) := c4
  have c5 : ∀ (G : Nat) (k j : Int), ¬ rMdP m77_ G j → γ 5 G k j = γ 4 G k j := c5
  have c6 : ∀ (G : Nat) (k j : Int), ¬ rMdP m72_ G j → γ 6 G k j = γ 5 G k j := c6
  obtain ⟨l0, l1, l2, l3, -⟩ := hl
  have l0 : sn132 [ρ 1, ρ 18] (γ 1) 0 (ρ 18 + 9 * ρ 1 + 1) (γ 2) := hS132 _ _ _ _ _ l0
  have l1 : sn157 [ρ 0, ρ 1, ρ 18, ρ 19, ρ 4, ρ 27, ρ 28, ρ 29, ρ 5, ρ 6, ρ 7, ρ 21, ρ 11, ρ 22, ρ 23, ρ 24, ρ 25, ρ 26, ρ 30, ρ 31, ρ 32, ρ 33] (γ 2) 0 1 (γ 3) := hS157 _ _ _ _ _ l1
  have l2 : sn114 [ρ 34, ρ 4] (γ 4) 0 (-1) (γ 5) := hS114 _ _ _ _ _ l2
  have l3 : sn109 [ρ 40, ρ 11] (γ 5) 0 0 (γ 6) := hS109 _ _ _ _ _ l3
  show sn158 [ρ 0, ρ 1, ρ 2, ρ 3, ρ 4, ρ 5, ρ 6, ρ 7, ρ 8, ρ 9, ρ 10, ρ 11, ρ 12, ρ 13, ρ 14, ρ 15, ρ 16, ρ 17] (γ 0) 0 0 (γ 6)
  have hD : en158 (γ 0) (0, [], γ 1) = .inr (0, 0, γ 6) := by
    unfold en158
    refine (if_pos (show (0 : Nat) = 0 by decide)).trans ?_
    refine (zLet_eq (show _ = γ 1 from rfl)).trans ?_
    refine (zLet_eq m0).trans ?_
    refine (zLet_eq m1).trans ?_
    refine (zLet_eq m18).trans ?_
    refine (zLet_eq m22).trans ?_
    refine (if_neg (show ¬ (ρ 18 ≥ 8) by omega)).trans ?_
    refine (zLet_eq (show fn132 [ρ 1, ρ 18] (γ 1) = (0, ρ 18 + 9 * ρ 1 + 1, γ 2) from l0.symm)).trans ?_
    refine (zLet_eq (show _ = γ 2 from rfl)).trans ?_
    refine (zLet_eq (show fn157 [] (γ 2) = (0, 1, γ 3) from l1.symm)).trans ?_
    refine (zLet_eq (show _ = γ 3 from rfl)).trans ?_
    refine (if_pos (show (1 : Int) ≤ 1 by omega)).trans ?_
    refine (if_pos (show 3 ≤ γ 3 10 (ρ 18 + 9 * ρ 1 + 1) 4 by omega)).trans ?_
    refine (if_neg (show ¬ (6 ≤ γ 3 10 (ρ 18 + 9 * ρ 1 + 1) 4) by omega)).trans ?_
    refine (zLet_eq c4.symm).trans ?_
    refine (zLet_eq (show fn114 [] (γ 4) = (0, (-1), γ 5) from l2.symm)).trans ?_
    refine (zLet_eq (show _ = γ 5 from rfl)).trans ?_
    refine (if_neg (show ¬ ((0 : Int) ≤ (-1)) by omega)).trans ?_
    refine (zLet_eq m54).trans ?_
    refine (zLet_eq (show fn109 [ρ 40] (γ 5) = (0, 0, γ 6) from l3.symm)).trans ?_
    refine (zLet_eq (show _ = γ 6 from rfl)).trans ?_
    rfl
  exact zGoo_aend hJ hD
theorem vn158a0_4 {S : Nat → zSpc} (hS109 : ∀ x g o v gz, S 109 x g o v gz → sn109 x g o v gz) (hS114 : ∀ x g o v gz, S 114 x g o v gz → sn114 x g o v gz) (hS132 : ∀ x g o v gz, S 132 x g o v gz → sn132 x g o v gz) (hS152 : ∀ x g o v gz, S 152 x g o v gz → sn152 x g o v gz) (hS153 : ∀ x g o v gz, S 153 x g o v gz → sn153 x g o v gz) (hS157 : ∀ x g o v gz, S 157 x g o v gz → sn157 x g o v gz) {a : List Int} {g : rHp} : ∀ (ρ : Nat → Int) (γ : Nat → rHp), jn158 a g 0 (zAg (zNA a158_ 0) ρ) (γ 1) → zO 18 S a g q158a0_4 ρ γ → zGl (fun i vs g1 => jn158 a g i vs g1) (sn158 a g) q158a0_4 ρ γ := by
  intro ρ γ hJ h
  obtain ⟨ha, hg, hr, hf, hm, hc, hl⟩ := h
  have ha : a = [ρ 0, ρ 1, ρ 2, ρ 3, ρ 4, ρ 5, ρ 6, ρ 7, ρ 8, ρ 9, ρ 10, ρ 11, ρ 12, ρ 13, ρ 14, ρ 15, ρ 16, ρ 17] := ha
  subst ha
  subst hg
  have hJ : jn158 [ρ 0, ρ 1, ρ 2, ρ 3, ρ 4, ρ 5, ρ 6, ρ 7, ρ 8, ρ 9, ρ 10, ρ 11, ρ 12, ρ 13, ρ 14, ρ 15, ρ 16, ρ 17] (γ 0) 0 [ρ 0, ρ 1, ρ 2, ρ 3, ρ 4, ρ 5, ρ 6, ρ 7, ρ 8, ρ 9, ρ 10, ρ 11, ρ 12, ρ 13, ρ 14, ρ 15, ρ 16, ρ 17, ρ 18, ρ 19, ρ 20, ρ 21, ρ 22, ρ 23, ρ 24, ρ 25, ρ 26] (γ 1) := hJ
  obtain ⟨r0, r1, r2, r3, r4, r5, r6, r7, r8, r9, r10, r11, r12, r13, r14, r15, r16, r17, r18, r19, r20, r21, r22, r23, r24, r25, r26, r27, r28, r29, r30, r31, r32, r33, r34, r35, r36, r37, r38, r39, r40, r41, -⟩ := hr
  have r0 : (0 : Int) ≤ ρ 0 ∧ ρ 0 ≤ 60 := r0
  have r1 : (0 : Int) ≤ ρ 1 ∧ ρ 1 ≤ 60 := r1
  have r2 : (0 : Int) ≤ ρ 2 ∧ ρ 2 ≤ 8 := r2
  have r3 : (0 : Int) ≤ ρ 3 ∧ ρ 3 ≤ 2000 := r3
  have r4 : (0 : Int) ≤ ρ 4 ∧ ρ 4 ≤ 2000 := r4
  have r5 : (0 : Int) ≤ ρ 5 ∧ ρ 5 ≤ 0 := r5
  have r6 : ((-1) : Int) ≤ ρ 6 ∧ ρ 6 ≤ 19 := r6
  have r7 : (0 : Int) ≤ ρ 7 ∧ ρ 7 ≤ 4 := r7
  have r8 : ((-1) : Int) ≤ ρ 8 ∧ ρ 8 ≤ 7 := r8
  have r9 : (0 : Int) ≤ ρ 9 ∧ ρ 9 ≤ 8 := r9
  have r10 : (0 : Int) ≤ ρ 10 ∧ ρ 10 ≤ 20 := r10
  have r11 : ((-2147483648) : Int) ≤ ρ 11 ∧ ρ 11 ≤ 2147483647 := r11
  have r12 : ((-2147483648) : Int) ≤ ρ 12 ∧ ρ 12 ≤ 2147483647 := r12
  have r13 : ((-2147483648) : Int) ≤ ρ 13 ∧ ρ 13 ≤ 2147483647 := r13
  have r14 : (0 : Int) ≤ ρ 14 ∧ ρ 14 ≤ 8 := r14
  have r15 : (0 : Int) ≤ ρ 15 ∧ ρ 15 ≤ 32 := r15
  have r16 : (0 : Int) ≤ ρ 16 ∧ ρ 16 ≤ 5120 := r16
  have r17 : ((-2147483648) : Int) ≤ ρ 17 ∧ ρ 17 ≤ 2147483647 := r17
  have r18 : (0 : Int) ≤ ρ 18 ∧ ρ 18 ≤ 7 := r18
  have r19 : (0 : Int) ≤ ρ 19 ∧ ρ 19 ≤ 2000 := r19
  have r20 : (0 : Int) ≤ ρ 20 ∧ ρ 20 ≤ 8 := r20
  have r21 : (0 : Int) ≤ ρ 21 ∧ ρ 21 ≤ 20 := r21
  have r22 : ((-2147483648) : Int) ≤ ρ 22 ∧ ρ 22 ≤ 2147483647 := r22
  have r23 : ((-2147483648) : Int) ≤ ρ 23 ∧ ρ 23 ≤ 2147483647 := r23
  have r24 : (0 : Int) ≤ ρ 24 ∧ ρ 24 ≤ 8 := r24
  have r25 : (0 : Int) ≤ ρ 25 ∧ ρ 25 ≤ 32 := r25
  have r26 : (0 : Int) ≤ ρ 26 ∧ ρ 26 ≤ 5120 := r26
  have r27 : (0 : Int) ≤ ρ 27 ∧ ρ 27 ≤ 8 := r27
  have r28 : ((-1) : Int) ≤ ρ 28 ∧ ρ 28 ≤ 7 := r28
  have r29 : ((-1) : Int) ≤ ρ 29 ∧ ρ 29 ≤ 19 := r29
  have r30 : (0 : Int) ≤ ρ 30 ∧ ρ 30 ≤ 4 := r30
  have r31 : ((-2147483648) : Int) ≤ ρ 31 ∧ ρ 31 ≤ 2147483647 := r31
  have r32 : ((-1) : Int) ≤ ρ 32 ∧ ρ 32 ≤ 3 := r32
  have r33 : (0 : Int) ≤ ρ 33 ∧ ρ 33 ≤ 4 := r33
  have r34 : (2 : Int) ≤ ρ 34 ∧ ρ 34 ≤ 2000 := r34
  have r35 : (3 : Int) ≤ ρ 35 ∧ ρ 35 ≤ 5 := r35
  have r36 : ((-2147483648) : Int) ≤ ρ 36 ∧ ρ 36 ≤ 2147483647 := r36
  have r37 : (0 : Int) ≤ ρ 37 ∧ ρ 37 ≤ 5120 := r37
  have r38 : (1 : Int) ≤ ρ 38 ∧ ρ 38 ≤ 2 := r38
  have r39 : (0 : Int) ≤ ρ 39 ∧ ρ 39 ≤ 2000 := r39
  have r40 : (44 : Int) ≤ ρ 40 ∧ ρ 40 ≤ 44 := r40
  have r41 : (0 : Int) ≤ ρ 41 ∧ ρ 41 ≤ 2000 := r41
  obtain ⟨f0, f1, f2, f3, f4, f5, f6, f7, f8, f9, f10, f11, f12, f13, f14, f15, f16, f17, -⟩ := hf
  have f0 : (0 : Int) ≤ ρ 41 + -ρ 34 := f0
  have f1 : (0 : Int) ≤ -ρ 41 + ρ 4 + (-1) := f1
  have f2 : (0 : Int) ≤ -ρ 34 + ρ 4 + (-1) := f2
  have f3 : (0 : Int) ≤ -ρ 39 + ρ 34 + (-1) := f3
  have f4 : (0 : Int) ≤ ρ 34 + -ρ 19 + (-1) := f4
  have f5 : (0 : Int) ≤ ρ 37 + -ρ 26 := f5
  have f6 : (0 : Int) ≤ ρ 39 + -ρ 19 := f6
  have f7 : (0 : Int) ≤ -ρ 38 + ρ 4 := f7
  have f8 : (0 : Int) ≤ -ρ 39 + ρ 4 + (-1) := f8
  have f9 : (0 : Int) ≤ -ρ 19 + ρ 4 + (-1) := f9
  have f10 : (0 : Int) ≤ -ρ 18 + ρ 4 := f10
  have f11 : (0 : Int) ≤ ρ 26 + -ρ 16 := f11
  have f12 : (0 : Int) ≤ ρ 25 + -ρ 15 := f12
  have f13 : (0 : Int) ≤ ρ 24 + -ρ 14 := f13
  have f14 : (0 : Int) ≤ ρ 21 + -ρ 10 := f14
  have f15 : (0 : Int) ≤ ρ 19 + -ρ 3 := f15
  have f16 : (0 : Int) ≤ ρ 19 + -ρ 18 := f16
  have f17 : (0 : Int) ≤ -ρ 20 + ρ 18 := f17
  obtain ⟨m0, m1, m2, m3, m4, m5, m6, m7, m8, m9, m10, m11, m12, m13, m14, m15, m16, m17, m18, m19, m20, m21, m22, m23, m24, m25, m26, m27, m28, m29, m30, m31, m32, m33, m34, m35, m36, m37, m38, m39, m40, m41, m42, m43, m44, m45, m46, m47, m48, m49, m50, m51, m52, m53, m54, -⟩ := hm
  have m0 : γ 0 1 0 10 = ρ 0 := m0
  have m1 : γ 0 40 0 (ρ 0) = ρ 1 := m1
  have m2 : γ 0 9 (ρ 1) 2 = ρ 2 := m2
  have m3 : γ 0 2 0 6 = ρ 3 := m3
  have m4 : γ 0 2 0 3 = ρ 4 := m4
  have m5 : γ 0 2 0 7 = ρ 5 := m5
  have m6 : γ 0 10 (9 * ρ 1) 8 = ρ 6 := m6
  have m7 : γ 0 10 (9 * ρ 1) 12 = ρ 7 := m7
  have m8 : γ 0 10 (9 * ρ 1) 14 = ρ 8 := m8
  have m9 : γ 0 9 (ρ 1) 3 = ρ 9 := m9
  have m10 : γ 0 1 0 7 = ρ 10 := m10
  have m11 : γ 0 2 0 4 = ρ 11 := m11
  have m12 : γ 0 2 0 5 = ρ 12 := m12
  have m13 : γ 0 2 0 9 = ρ 13 := m13
  have m14 : γ 0 2 0 13 = ρ 14 := m14
  have m15 : γ 0 2 0 16 = ρ 15 := m15
  have m16 : γ 0 3 0 1 = ρ 16 := m16
  have m17 : γ 0 10 (9 * ρ 1) 15 = ρ 17 := m17
  have m18 : γ 1 9 (ρ 1) 2 = ρ 18 := m18
  have m19 : γ 1 2 0 6 = ρ 19 := m19
  have m20 : γ 1 10 (9 * ρ 1) 8 = ρ 6 := m20
  have m21 : γ 1 10 (9 * ρ 1) 12 = ρ 7 := m21
  have m22 : γ 1 9 (ρ 1) 3 = ρ 20 := m22
  have m23 : γ 1 1 0 7 = ρ 21 := m23
  have m24 : γ 1 2 0 4 = ρ 11 := m24
  have m25 : γ 1 2 0 5 = ρ 22 := m25
  have m26 : γ 1 2 0 9 = ρ 23 := m26
  have m27 : γ 1 2 0 13 = ρ 24 := m27
  have m28 : γ 1 2 0 16 = ρ 25 := m28
  have m29 : γ 1 3 0 1 = ρ 26 := m29
  have m30 : γ 1 10 (ρ 18 + 9 * ρ 1 + 1) 4 = ρ 27 := m30
  have m31 : γ 1 10 (ρ 18 + 9 * ρ 1 + 1) 11 = ρ 28 := m31
  have m32 : γ 1 10 (ρ 18 + 9 * ρ 1 + 1) 8 = ρ 29 := m32
  have m33 : γ 1 10 (ρ 18 + 9 * ρ 1 + 1) 5 = ρ 30 := m33
  have m34 : γ 1 10 (ρ 18 + 9 * ρ 1 + 1) 7 = ρ 31 := m34
  have m35 : γ 1 10 (ρ 18 + 9 * ρ 1 + 1) 9 = ρ 32 := m35
  have m36 : γ 1 10 (ρ 18 + 9 * ρ 1 + 1) 12 = ρ 33 := m36
  have m37 : γ 3 2 0 6 = ρ 34 := m37
  have m38 : γ 3 10 (ρ 18 + 9 * ρ 1 + 1) 4 = ρ 35 := m38
  have m39 : γ 3 10 (ρ 18 + 9 * ρ 1 + 1) 11 = ρ 28 := m39
  have m40 : γ 3 10 (ρ 18 + 9 * ρ 1 + 1) 8 = (-1) := m40
  have m41 : γ 3 10 (9 * ρ 1) 8 = ρ 6 := m41
  have m42 : γ 3 10 (9 * ρ 1) 12 = ρ 7 := m42
  have m43 : γ 3 1 0 7 = ρ 21 := m43
  have m44 : γ 3 2 0 4 = ρ 11 := m44
  have m45 : γ 3 2 0 5 = ρ 22 := m45
  have m46 : γ 3 2 0 9 = ρ 36 := m46
  have m47 : γ 3 2 0 13 = ρ 24 := m47
  have m48 : γ 3 2 0 16 = ρ 25 := m48
  have m49 : γ 3 3 0 1 = ρ 37 := m49
  have m50 : γ 3 10 (ρ 18 + 9 * ρ 1 + 1) 5 = ρ 38 := m50
  have m51 : γ 3 10 (ρ 18 + 9 * ρ 1 + 1) 7 = ρ 39 := m51
  have m52 : γ 3 10 (ρ 18 + 9 * ρ 1 + 1) 9 = (-1) := m52
  have m53 : γ 3 10 (ρ 18 + 9 * ρ 1 + 1) 12 = 0 := m53
  have m54 : γ 5 2 0 6 = ρ 41 := m54
  obtain ⟨⟨⟨⟨⟨⟨-, c1⟩, c2⟩, c3⟩, c4⟩, c5⟩, c6⟩ := hc
  have c1 : ∀ (G : Nat) (k j : Int), ¬ rMdP m107_ G j → γ 1 G k j = γ 0 G k j := c1
  have c2 : ∀ (G : Nat) (k j : Int), ¬ rMdP m0_ G j → γ 2 G k j = γ 1 G k j := c2
  have c3 : ∀ (G : Nat) (k j : Int), ¬ rMdP m106_ G j → γ 3 G k j = γ 2 G k j := c3
  have c4 : γ 4 = rUp (γ 3) 9 (ρ 1) 2 (ρ 18 + 1) := c4
  have c5 : ∀ (G : Nat) (k j : Int), ¬ rMdP m77_ G j → γ 5 G k j = γ 4 G k j := c5
  have c6 : γ 6 = rUp (γ 5) 2 0 6 (ρ 41 + 1) := c6
  obtain ⟨l0, l1, l2, l3, -⟩ := hl
  have l0 : sn132 [ρ 1, ρ 18] (γ 1) 0 (ρ 18 + 9 * ρ 1 + 1) (γ 2) := hS132 _ _ _ _ _ l0
  have l1 : sn157 [ρ 0, ρ 1, ρ 18, ρ 19, ρ 4, ρ 27, ρ 28, ρ 29, ρ 5, ρ 6, ρ 7, ρ 21, ρ 11, ρ 22, ρ 23, ρ 24, ρ 25, ρ 26, ρ 30, ρ 31, ρ 32, ρ 33] (γ 2) 0 1 (γ 3) := hS157 _ _ _ _ _ l1
  have l2 : sn114 [ρ 34, ρ 4] (γ 4) 0 (ρ 40) (γ 5) := hS114 _ _ _ _ _ l2
  have l3 : ρ 40 ≠ 46 := l3
  show jn158 [ρ 0, ρ 1, ρ 2, ρ 3, ρ 4, ρ 5, ρ 6, ρ 7, ρ 8, ρ 9, ρ 10, ρ 11, ρ 12, ρ 13, ρ 14, ρ 15, ρ 16, ρ 17] (γ 0) 0 [ρ 0, ρ 1, ρ 2, ρ 3, ρ 4, ρ 5, ρ 6, ρ 7, ρ 8, ρ 9, ρ 10, ρ 11, ρ 12, ρ 13, ρ 14, ρ 15, ρ 16, ρ 17, ρ 18 + 1, ρ 41 + 1, ρ 20, ρ 21, ρ 22, ρ 36, ρ 24, ρ 25, ρ 37] (γ 6)
  have hD : en158 (γ 0) (0, [], γ 1) = .inl (0, [], γ 6) := by
    unfold en158
    refine (if_pos (show (0 : Nat) = 0 by decide)).trans ?_
    refine (zLet_eq (show _ = γ 1 from rfl)).trans ?_
    refine (zLet_eq m0).trans ?_
    refine (zLet_eq m1).trans ?_
    refine (zLet_eq m18).trans ?_
    refine (zLet_eq m22).trans ?_
    refine (if_neg (show ¬ (ρ 18 ≥ 8) by omega)).trans ?_
    refine (zLet_eq (show fn132 [ρ 1, ρ 18] (γ 1) = (0, ρ 18 + 9 * ρ 1 + 1, γ 2) from l0.symm)).trans ?_
    refine (zLet_eq (show _ = γ 2 from rfl)).trans ?_
    refine (zLet_eq (show fn157 [] (γ 2) = (0, 1, γ 3) from l1.symm)).trans ?_
    refine (zLet_eq (show _ = γ 3 from rfl)).trans ?_
    refine (if_pos (show (1 : Int) ≤ 1 by omega)).trans ?_
    refine (if_pos (show 3 ≤ γ 3 10 (ρ 18 + 9 * ρ 1 + 1) 4 by omega)).trans ?_
    refine (if_neg (show ¬ (6 ≤ γ 3 10 (ρ 18 + 9 * ρ 1 + 1) 4) by omega)).trans ?_
    refine (zLet_eq c4.symm).trans ?_
    refine (zLet_eq (show fn114 [] (γ 4) = (0, ρ 40, γ 5) from l2.symm)).trans ?_
    refine (zLet_eq (show _ = γ 5 from rfl)).trans ?_
    refine (if_pos (show (0 : Int) ≤ ρ 40 by omega)).trans ?_
    refine (zLet_eq (show _ = ρ 40 from rfl)).trans ?_
    refine (zLet_eq m54).trans ?_
    refine (if_pos (show ρ 40 ≠ 46 by omega)).trans ?_
    refine (if_pos (show ρ 40 = 44 by omega)).trans ?_
    refine (zLet_eq c6.symm).trans ?_
    rfl
  exact zGoo_ato hJ hD
theorem vn158a0_5 {S : Nat → zSpc} (hS109 : ∀ x g o v gz, S 109 x g o v gz → sn109 x g o v gz) (hS114 : ∀ x g o v gz, S 114 x g o v gz → sn114 x g o v gz) (hS132 : ∀ x g o v gz, S 132 x g o v gz → sn132 x g o v gz) (hS152 : ∀ x g o v gz, S 152 x g o v gz → sn152 x g o v gz) (hS153 : ∀ x g o v gz, S 153 x g o v gz → sn153 x g o v gz) (hS157 : ∀ x g o v gz, S 157 x g o v gz → sn157 x g o v gz) {a : List Int} {g : rHp} : ∀ (ρ : Nat → Int) (γ : Nat → rHp), jn158 a g 0 (zAg (zNA a158_ 0) ρ) (γ 1) → zO 18 S a g q158a0_5 ρ γ → zGl (fun i vs g1 => jn158 a g i vs g1) (sn158 a g) q158a0_5 ρ γ := by
  intro ρ γ hJ h
  obtain ⟨ha, hg, hr, hf, hm, hc, hl⟩ := h
  have ha : a = [ρ 0, ρ 1, ρ 2, ρ 3, ρ 4, ρ 5, ρ 6, ρ 7, ρ 8, ρ 9, ρ 10, ρ 11, ρ 12, ρ 13, ρ 14, ρ 15, ρ 16, ρ 17] := ha
  subst ha
  subst hg
  have hJ : jn158 [ρ 0, ρ 1, ρ 2, ρ 3, ρ 4, ρ 5, ρ 6, ρ 7, ρ 8, ρ 9, ρ 10, ρ 11, ρ 12, ρ 13, ρ 14, ρ 15, ρ 16, ρ 17] (γ 0) 0 [ρ 0, ρ 1, ρ 2, ρ 3, ρ 4, ρ 5, ρ 6, ρ 7, ρ 8, ρ 9, ρ 10, ρ 11, ρ 12, ρ 13, ρ 14, ρ 15, ρ 16, ρ 17, ρ 18, ρ 19, ρ 20, ρ 21, ρ 22, ρ 23, ρ 24, ρ 25, ρ 26] (γ 1) := hJ
  obtain ⟨r0, r1, r2, r3, r4, r5, r6, r7, r8, r9, r10, r11, r12, r13, r14, r15, r16, r17, r18, r19, r20, r21, r22, r23, r24, r25, r26, r27, r28, r29, r30, r31, r32, r33, r34, r35, r36, r37, r38, r39, r40, r41, -⟩ := hr
  have r0 : (0 : Int) ≤ ρ 0 ∧ ρ 0 ≤ 60 := r0
  have r1 : (0 : Int) ≤ ρ 1 ∧ ρ 1 ≤ 60 := r1
  have r2 : (0 : Int) ≤ ρ 2 ∧ ρ 2 ≤ 8 := r2
  have r3 : (0 : Int) ≤ ρ 3 ∧ ρ 3 ≤ 2000 := r3
  have r4 : (0 : Int) ≤ ρ 4 ∧ ρ 4 ≤ 2000 := r4
  have r5 : (0 : Int) ≤ ρ 5 ∧ ρ 5 ≤ 0 := r5
  have r6 : ((-1) : Int) ≤ ρ 6 ∧ ρ 6 ≤ 19 := r6
  have r7 : (0 : Int) ≤ ρ 7 ∧ ρ 7 ≤ 4 := r7
  have r8 : ((-1) : Int) ≤ ρ 8 ∧ ρ 8 ≤ 7 := r8
  have r9 : (0 : Int) ≤ ρ 9 ∧ ρ 9 ≤ 8 := r9
  have r10 : (0 : Int) ≤ ρ 10 ∧ ρ 10 ≤ 20 := r10
  have r11 : ((-2147483648) : Int) ≤ ρ 11 ∧ ρ 11 ≤ 2147483647 := r11
  have r12 : ((-2147483648) : Int) ≤ ρ 12 ∧ ρ 12 ≤ 2147483647 := r12
  have r13 : ((-2147483648) : Int) ≤ ρ 13 ∧ ρ 13 ≤ 2147483647 := r13
  have r14 : (0 : Int) ≤ ρ 14 ∧ ρ 14 ≤ 8 := r14
  have r15 : (0 : Int) ≤ ρ 15 ∧ ρ 15 ≤ 32 := r15
  have r16 : (0 : Int) ≤ ρ 16 ∧ ρ 16 ≤ 5120 := r16
  have r17 : ((-2147483648) : Int) ≤ ρ 17 ∧ ρ 17 ≤ 2147483647 := r17
  have r18 : (0 : Int) ≤ ρ 18 ∧ ρ 18 ≤ 7 := r18
  have r19 : (0 : Int) ≤ ρ 19 ∧ ρ 19 ≤ 2000 := r19
  have r20 : (0 : Int) ≤ ρ 20 ∧ ρ 20 ≤ 8 := r20
  have r21 : (0 : Int) ≤ ρ 21 ∧ ρ 21 ≤ 20 := r21
  have r22 : ((-2147483648) : Int) ≤ ρ 22 ∧ ρ 22 ≤ 2147483647 := r22
  have r23 : ((-2147483648) : Int) ≤ ρ 23 ∧ ρ 23 ≤ 2147483647 := r23
  have r24 : (0 : Int) ≤ ρ 24 ∧ ρ 24 ≤ 8 := r24
  have r25 : (0 : Int) ≤ ρ 25 ∧ ρ 25 ≤ 32 := r25
  have r26 : (0 : Int) ≤ ρ 26 ∧ ρ 26 ≤ 5120 := r26
  have r27 : (0 : Int) ≤ ρ 27 ∧ ρ 27 ≤ 8 := r27
  have r28 : ((-1) : Int) ≤ ρ 28 ∧ ρ 28 ≤ 7 := r28
  have r29 : ((-1) : Int) ≤ ρ 29 ∧ ρ 29 ≤ 19 := r29
  have r30 : (0 : Int) ≤ ρ 30 ∧ ρ 30 ≤ 4 := r30
  have r31 : ((-2147483648) : Int) ≤ ρ 31 ∧ ρ 31 ≤ 2147483647 := r31
  have r32 : ((-1) : Int) ≤ ρ 32 ∧ ρ 32 ≤ 3 := r32
  have r33 : (0 : Int) ≤ ρ 33 ∧ ρ 33 ≤ 4 := r33
  have r34 : (2 : Int) ≤ ρ 34 ∧ ρ 34 ≤ 2000 := r34
  have r35 : (3 : Int) ≤ ρ 35 ∧ ρ 35 ≤ 5 := r35
  have r36 : ((-2147483648) : Int) ≤ ρ 36 ∧ ρ 36 ≤ 2147483647 := r36
  have r37 : (0 : Int) ≤ ρ 37 ∧ ρ 37 ≤ 5120 := r37
  have r38 : (1 : Int) ≤ ρ 38 ∧ ρ 38 ≤ 2 := r38
  have r39 : (0 : Int) ≤ ρ 39 ∧ ρ 39 ≤ 2000 := r39
  have r40 : (0 : Int) ≤ ρ 40 ∧ ρ 40 ≤ 255 := r40
  have r41 : (0 : Int) ≤ ρ 41 ∧ ρ 41 ≤ 2000 := r41
  obtain ⟨f0, f1, f2, f3, f4, f5, f6, f7, f8, f9, f10, f11, f12, f13, f14, f15, f16, f17, -⟩ := hf
  have f0 : (0 : Int) ≤ ρ 41 + -ρ 34 := f0
  have f1 : (0 : Int) ≤ -ρ 41 + ρ 4 + (-1) := f1
  have f2 : (0 : Int) ≤ -ρ 34 + ρ 4 + (-1) := f2
  have f3 : (0 : Int) ≤ -ρ 39 + ρ 34 + (-1) := f3
  have f4 : (0 : Int) ≤ ρ 34 + -ρ 19 + (-1) := f4
  have f5 : (0 : Int) ≤ ρ 37 + -ρ 26 := f5
  have f6 : (0 : Int) ≤ ρ 39 + -ρ 19 := f6
  have f7 : (0 : Int) ≤ -ρ 38 + ρ 4 := f7
  have f8 : (0 : Int) ≤ -ρ 39 + ρ 4 + (-1) := f8
  have f9 : (0 : Int) ≤ -ρ 19 + ρ 4 + (-1) := f9
  have f10 : (0 : Int) ≤ -ρ 18 + ρ 4 := f10
  have f11 : (0 : Int) ≤ ρ 26 + -ρ 16 := f11
  have f12 : (0 : Int) ≤ ρ 25 + -ρ 15 := f12
  have f13 : (0 : Int) ≤ ρ 24 + -ρ 14 := f13
  have f14 : (0 : Int) ≤ ρ 21 + -ρ 10 := f14
  have f15 : (0 : Int) ≤ ρ 19 + -ρ 3 := f15
  have f16 : (0 : Int) ≤ ρ 19 + -ρ 18 := f16
  have f17 : (0 : Int) ≤ -ρ 20 + ρ 18 := f17
  obtain ⟨m0, m1, m2, m3, m4, m5, m6, m7, m8, m9, m10, m11, m12, m13, m14, m15, m16, m17, m18, m19, m20, m21, m22, m23, m24, m25, m26, m27, m28, m29, m30, m31, m32, m33, m34, m35, m36, m37, m38, m39, m40, m41, m42, m43, m44, m45, m46, m47, m48, m49, m50, m51, m52, m53, m54, m55, -⟩ := hm
  have m0 : γ 0 1 0 10 = ρ 0 := m0
  have m1 : γ 0 40 0 (ρ 0) = ρ 1 := m1
  have m2 : γ 0 9 (ρ 1) 2 = ρ 2 := m2
  have m3 : γ 0 2 0 6 = ρ 3 := m3
  have m4 : γ 0 2 0 3 = ρ 4 := m4
  have m5 : γ 0 2 0 7 = ρ 5 := m5
  have m6 : γ 0 10 (9 * ρ 1) 8 = ρ 6 := m6
  have m7 : γ 0 10 (9 * ρ 1) 12 = ρ 7 := m7
  have m8 : γ 0 10 (9 * ρ 1) 14 = ρ 8 := m8
  have m9 : γ 0 9 (ρ 1) 3 = ρ 9 := m9
  have m10 : γ 0 1 0 7 = ρ 10 := m10
  have m11 : γ 0 2 0 4 = ρ 11 := m11
  have m12 : γ 0 2 0 5 = ρ 12 := m12
  have m13 : γ 0 2 0 9 = ρ 13 := m13
  have m14 : γ 0 2 0 13 = ρ 14 := m14
  have m15 : γ 0 2 0 16 = ρ 15 := m15
  have m16 : γ 0 3 0 1 = ρ 16 := m16
  have m17 : γ 0 10 (9 * ρ 1) 15 = ρ 17 := m17
  have m18 : γ 1 9 (ρ 1) 2 = ρ 18 := m18
  have m19 : γ 1 2 0 6 = ρ 19 := m19
  have m20 : γ 1 10 (9 * ρ 1) 8 = ρ 6 := m20
  have m21 : γ 1 10 (9 * ρ 1) 12 = ρ 7 := m21
  have m22 : γ 1 9 (ρ 1) 3 = ρ 20 := m22
  have m23 : γ 1 1 0 7 = ρ 21 := m23
  have m24 : γ 1 2 0 4 = ρ 11 := m24
  have m25 : γ 1 2 0 5 = ρ 22 := m25
  have m26 : γ 1 2 0 9 = ρ 23 := m26
  have m27 : γ 1 2 0 13 = ρ 24 := m27
  have m28 : γ 1 2 0 16 = ρ 25 := m28
  have m29 : γ 1 3 0 1 = ρ 26 := m29
  have m30 : γ 1 10 (ρ 18 + 9 * ρ 1 + 1) 4 = ρ 27 := m30
  have m31 : γ 1 10 (ρ 18 + 9 * ρ 1 + 1) 11 = ρ 28 := m31
  have m32 : γ 1 10 (ρ 18 + 9 * ρ 1 + 1) 8 = ρ 29 := m32
  have m33 : γ 1 10 (ρ 18 + 9 * ρ 1 + 1) 5 = ρ 30 := m33
  have m34 : γ 1 10 (ρ 18 + 9 * ρ 1 + 1) 7 = ρ 31 := m34
  have m35 : γ 1 10 (ρ 18 + 9 * ρ 1 + 1) 9 = ρ 32 := m35
  have m36 : γ 1 10 (ρ 18 + 9 * ρ 1 + 1) 12 = ρ 33 := m36
  have m37 : γ 3 2 0 6 = ρ 34 := m37
  have m38 : γ 3 10 (ρ 18 + 9 * ρ 1 + 1) 4 = ρ 35 := m38
  have m39 : γ 3 10 (ρ 18 + 9 * ρ 1 + 1) 11 = ρ 28 := m39
  have m40 : γ 3 10 (ρ 18 + 9 * ρ 1 + 1) 8 = (-1) := m40
  have m41 : γ 3 10 (9 * ρ 1) 8 = ρ 6 := m41
  have m42 : γ 3 10 (9 * ρ 1) 12 = ρ 7 := m42
  have m43 : γ 3 1 0 7 = ρ 21 := m43
  have m44 : γ 3 2 0 4 = ρ 11 := m44
  have m45 : γ 3 2 0 5 = ρ 22 := m45
  have m46 : γ 3 2 0 9 = ρ 36 := m46
  have m47 : γ 3 2 0 13 = ρ 24 := m47
  have m48 : γ 3 2 0 16 = ρ 25 := m48
  have m49 : γ 3 3 0 1 = ρ 37 := m49
  have m50 : γ 3 10 (ρ 18 + 9 * ρ 1 + 1) 5 = ρ 38 := m50
  have m51 : γ 3 10 (ρ 18 + 9 * ρ 1 + 1) 7 = ρ 39 := m51
  have m52 : γ 3 10 (ρ 18 + 9 * ρ 1 + 1) 9 = (-1) := m52
  have m53 : γ 3 10 (ρ 18 + 9 * ρ 1 + 1) 12 = 0 := m53
  have m54 : γ 5 2 0 6 = ρ 41 := m54
  have m55 : γ 6 2 0 4 = ρ 41 := m55
  obtain ⟨⟨⟨⟨⟨⟨-, c1⟩, c2⟩, c3⟩, c4⟩, c5⟩, c6⟩ := hc
  have c1 : ∀ (G : Nat) (k j : Int), ¬ rMdP m107_ G j → γ 1 G k j = γ 0 G k j := c1
  have c2 : ∀ (G : Nat) (k j : Int), ¬ rMdP m0_ G j → γ 2 G k j = γ 1 G k j := c2
  have c3 : ∀ (G : Nat) (k j : Int), ¬ rMdP m106_ G j → γ 3 G k j = γ 2 G k j := c3
  have c4 : γ 4 = rUp (γ 3) 9 (ρ 1) 2 (ρ 18 + 1) := c4
  have c5 : ∀ (G : Nat) (k j : Int), ¬ rMdP m77_ G j → γ 5 G k j = γ 4 G k j := c5
  have c6 : ∀ (G : Nat) (k j : Int), ¬ rMdP m72_ G j → γ 6 G k j = γ 5 G k j := c6
  obtain ⟨l0, l1, l2, l3, l4, l5, -⟩ := hl
  have l0 : sn132 [ρ 1, ρ 18] (γ 1) 0 (ρ 18 + 9 * ρ 1 + 1) (γ 2) := hS132 _ _ _ _ _ l0
  have l1 : sn157 [ρ 0, ρ 1, ρ 18, ρ 19, ρ 4, ρ 27, ρ 28, ρ 29, ρ 5, ρ 6, ρ 7, ρ 21, ρ 11, ρ 22, ρ 23, ρ 24, ρ 25, ρ 26, ρ 30, ρ 31, ρ 32, ρ 33] (γ 2) 0 1 (γ 3) := hS157 _ _ _ _ _ l1
  have l2 : sn114 [ρ 34, ρ 4] (γ 4) 0 (ρ 40) (γ 5) := hS114 _ _ _ _ _ l2
  have l3 : ρ 40 ≠ 46 := l3
  have l4 : ρ 40 ≠ 44 := l4
  have l5 : sn109 [ρ 41, ρ 11] (γ 5) 0 0 (γ 6) := hS109 _ _ _ _ _ l5
  show sn158 [ρ 0, ρ 1, ρ 2, ρ 3, ρ 4, ρ 5, ρ 6, ρ 7, ρ 8, ρ 9, ρ 10, ρ 11, ρ 12, ρ 13, ρ 14, ρ 15, ρ 16, ρ 17] (γ 0) 0 0 (γ 6)
  have hD : en158 (γ 0) (0, [], γ 1) = .inr (0, 0, γ 6) := by
    unfold en158
    refine (if_pos (show (0 : Nat) = 0 by decide)).trans ?_
    refine (zLet_eq (show _ = γ 1 from rfl)).trans ?_
    refine (zLet_eq m0).trans ?_
    refine (zLet_eq m1).trans ?_
    refine (zLet_eq m18).trans ?_
    refine (zLet_eq m22).trans ?_
    refine (if_neg (show ¬ (ρ 18 ≥ 8) by omega)).trans ?_
    refine (zLet_eq (show fn132 [ρ 1, ρ 18] (γ 1) = (0, ρ 18 + 9 * ρ 1 + 1, γ 2) from l0.symm)).trans ?_
    refine (zLet_eq (show _ = γ 2 from rfl)).trans ?_
    refine (zLet_eq (show fn157 [] (γ 2) = (0, 1, γ 3) from l1.symm)).trans ?_
    refine (zLet_eq (show _ = γ 3 from rfl)).trans ?_
    refine (if_pos (show (1 : Int) ≤ 1 by omega)).trans ?_
    refine (if_pos (show 3 ≤ γ 3 10 (ρ 18 + 9 * ρ 1 + 1) 4 by omega)).trans ?_
    refine (if_neg (show ¬ (6 ≤ γ 3 10 (ρ 18 + 9 * ρ 1 + 1) 4) by omega)).trans ?_
    refine (zLet_eq c4.symm).trans ?_
    refine (zLet_eq (show fn114 [] (γ 4) = (0, ρ 40, γ 5) from l2.symm)).trans ?_
    refine (zLet_eq (show _ = γ 5 from rfl)).trans ?_
    refine (if_pos (show (0 : Int) ≤ ρ 40 by omega)).trans ?_
    refine (zLet_eq (show _ = ρ 40 from rfl)).trans ?_
    refine (zLet_eq m54).trans ?_
    refine (if_pos (show ρ 40 ≠ 46 by omega)).trans ?_
    refine (if_neg (show ¬ (ρ 40 = 44) by omega)).trans ?_
    refine (zLet_eq (show fn109 [ρ 41] (γ 5) = (0, 0, γ 6) from l5.symm)).trans ?_
    refine (zLet_eq (show _ = γ 6 from rfl)).trans ?_
    rfl
  exact zGoo_aend hJ hD
theorem vn158a0_6 {S : Nat → zSpc} (hS109 : ∀ x g o v gz, S 109 x g o v gz → sn109 x g o v gz) (hS114 : ∀ x g o v gz, S 114 x g o v gz → sn114 x g o v gz) (hS132 : ∀ x g o v gz, S 132 x g o v gz → sn132 x g o v gz) (hS152 : ∀ x g o v gz, S 152 x g o v gz → sn152 x g o v gz) (hS153 : ∀ x g o v gz, S 153 x g o v gz → sn153 x g o v gz) (hS157 : ∀ x g o v gz, S 157 x g o v gz → sn157 x g o v gz) {a : List Int} {g : rHp} : ∀ (ρ : Nat → Int) (γ : Nat → rHp), jn158 a g 0 (zAg (zNA a158_ 0) ρ) (γ 1) → zO 18 S a g q158a0_6 ρ γ → zGl (fun i vs g1 => jn158 a g i vs g1) (sn158 a g) q158a0_6 ρ γ := by
  intro ρ γ hJ h
  obtain ⟨ha, hg, hr, hf, hm, hc, hl⟩ := h
  have ha : a = [ρ 0, ρ 1, ρ 2, ρ 3, ρ 4, ρ 5, ρ 6, ρ 7, ρ 8, ρ 9, ρ 10, ρ 11, ρ 12, ρ 13, ρ 14, ρ 15, ρ 16, ρ 17] := ha
  subst ha
  subst hg
  have hJ : jn158 [ρ 0, ρ 1, ρ 2, ρ 3, ρ 4, ρ 5, ρ 6, ρ 7, ρ 8, ρ 9, ρ 10, ρ 11, ρ 12, ρ 13, ρ 14, ρ 15, ρ 16, ρ 17] (γ 0) 0 [ρ 0, ρ 1, ρ 2, ρ 3, ρ 4, ρ 5, ρ 6, ρ 7, ρ 8, ρ 9, ρ 10, ρ 11, ρ 12, ρ 13, ρ 14, ρ 15, ρ 16, ρ 17, ρ 18, ρ 19, ρ 20, ρ 21, ρ 22, ρ 23, ρ 24, ρ 25, ρ 26] (γ 1) := hJ
  obtain ⟨r0, r1, r2, r3, r4, r5, r6, r7, r8, r9, r10, r11, r12, r13, r14, r15, r16, r17, r18, r19, r20, r21, r22, r23, r24, r25, r26, r27, r28, r29, r30, r31, r32, r33, r34, r35, r36, r37, r38, r39, r40, r41, r42, r43, -⟩ := hr
  have r0 : (0 : Int) ≤ ρ 0 ∧ ρ 0 ≤ 60 := r0
  have r1 : (0 : Int) ≤ ρ 1 ∧ ρ 1 ≤ 60 := r1
  have r2 : (0 : Int) ≤ ρ 2 ∧ ρ 2 ≤ 8 := r2
  have r3 : (0 : Int) ≤ ρ 3 ∧ ρ 3 ≤ 2000 := r3
  have r4 : (0 : Int) ≤ ρ 4 ∧ ρ 4 ≤ 2000 := r4
  have r5 : (0 : Int) ≤ ρ 5 ∧ ρ 5 ≤ 0 := r5
  have r6 : ((-1) : Int) ≤ ρ 6 ∧ ρ 6 ≤ 19 := r6
  have r7 : (0 : Int) ≤ ρ 7 ∧ ρ 7 ≤ 4 := r7
  have r8 : ((-1) : Int) ≤ ρ 8 ∧ ρ 8 ≤ 7 := r8
  have r9 : (0 : Int) ≤ ρ 9 ∧ ρ 9 ≤ 8 := r9
  have r10 : (0 : Int) ≤ ρ 10 ∧ ρ 10 ≤ 20 := r10
  have r11 : ((-2147483648) : Int) ≤ ρ 11 ∧ ρ 11 ≤ 2147483647 := r11
  have r12 : ((-2147483648) : Int) ≤ ρ 12 ∧ ρ 12 ≤ 2147483647 := r12
  have r13 : ((-2147483648) : Int) ≤ ρ 13 ∧ ρ 13 ≤ 2147483647 := r13
  have r14 : (0 : Int) ≤ ρ 14 ∧ ρ 14 ≤ 8 := r14
  have r15 : (0 : Int) ≤ ρ 15 ∧ ρ 15 ≤ 32 := r15
  have r16 : (0 : Int) ≤ ρ 16 ∧ ρ 16 ≤ 5120 := r16
  have r17 : ((-2147483648) : Int) ≤ ρ 17 ∧ ρ 17 ≤ 2147483647 := r17
  have r18 : (0 : Int) ≤ ρ 18 ∧ ρ 18 ≤ 7 := r18
  have r19 : (0 : Int) ≤ ρ 19 ∧ ρ 19 ≤ 2000 := r19
  have r20 : (0 : Int) ≤ ρ 20 ∧ ρ 20 ≤ 8 := r20
  have r21 : (0 : Int) ≤ ρ 21 ∧ ρ 21 ≤ 20 := r21
  have r22 : ((-2147483648) : Int) ≤ ρ 22 ∧ ρ 22 ≤ 2147483647 := r22
  have r23 : ((-2147483648) : Int) ≤ ρ 23 ∧ ρ 23 ≤ 2147483647 := r23
  have r24 : (0 : Int) ≤ ρ 24 ∧ ρ 24 ≤ 8 := r24
  have r25 : (0 : Int) ≤ ρ 25 ∧ ρ 25 ≤ 32 := r25
  have r26 : (0 : Int) ≤ ρ 26 ∧ ρ 26 ≤ 5120 := r26
  have r27 : (0 : Int) ≤ ρ 27 ∧ ρ 27 ≤ 8 := r27
  have r28 : ((-1) : Int) ≤ ρ 28 ∧ ρ 28 ≤ 7 := r28
  have r29 : ((-1) : Int) ≤ ρ 29 ∧ ρ 29 ≤ 19 := r29
  have r30 : (0 : Int) ≤ ρ 30 ∧ ρ 30 ≤ 4 := r30
  have r31 : ((-2147483648) : Int) ≤ ρ 31 ∧ ρ 31 ≤ 2147483647 := r31
  have r32 : ((-1) : Int) ≤ ρ 32 ∧ ρ 32 ≤ 3 := r32
  have r33 : (0 : Int) ≤ ρ 33 ∧ ρ 33 ≤ 4 := r33
  have r34 : (2 : Int) ≤ ρ 34 ∧ ρ 34 ≤ 2000 := r34
  have r35 : (3 : Int) ≤ ρ 35 ∧ ρ 35 ≤ 5 := r35
  have r36 : ((-2147483648) : Int) ≤ ρ 36 ∧ ρ 36 ≤ 2147483647 := r36
  have r37 : (0 : Int) ≤ ρ 37 ∧ ρ 37 ≤ 5120 := r37
  have r38 : (1 : Int) ≤ ρ 38 ∧ ρ 38 ≤ 2 := r38
  have r39 : (0 : Int) ≤ ρ 39 ∧ ρ 39 ≤ 2000 := r39
  have r40 : (46 : Int) ≤ ρ 40 ∧ ρ 40 ≤ 46 := r40
  have r41 : (0 : Int) ≤ ρ 41 ∧ ρ 41 ≤ 2000 := r41
  have r42 : (0 : Int) ≤ ρ 42 ∧ ρ 42 ≤ 4 := r42
  have r43 : ((-2147483648) : Int) ≤ ρ 43 ∧ ρ 43 ≤ 2147483647 := r43
  obtain ⟨f0, f1, f2, f3, f4, f5, f6, f7, f8, f9, f10, f11, f12, f13, f14, f15, f16, f17, -⟩ := hf
  have f0 : (0 : Int) ≤ ρ 41 + -ρ 34 := f0
  have f1 : (0 : Int) ≤ -ρ 41 + ρ 4 + (-1) := f1
  have f2 : (0 : Int) ≤ -ρ 34 + ρ 4 + (-1) := f2
  have f3 : (0 : Int) ≤ -ρ 39 + ρ 34 + (-1) := f3
  have f4 : (0 : Int) ≤ ρ 34 + -ρ 19 + (-1) := f4
  have f5 : (0 : Int) ≤ ρ 37 + -ρ 26 := f5
  have f6 : (0 : Int) ≤ ρ 39 + -ρ 19 := f6
  have f7 : (0 : Int) ≤ -ρ 38 + ρ 4 := f7
  have f8 : (0 : Int) ≤ -ρ 39 + ρ 4 + (-1) := f8
  have f9 : (0 : Int) ≤ -ρ 19 + ρ 4 + (-1) := f9
  have f10 : (0 : Int) ≤ -ρ 18 + ρ 4 := f10
  have f11 : (0 : Int) ≤ ρ 26 + -ρ 16 := f11
  have f12 : (0 : Int) ≤ ρ 25 + -ρ 15 := f12
  have f13 : (0 : Int) ≤ ρ 24 + -ρ 14 := f13
  have f14 : (0 : Int) ≤ ρ 21 + -ρ 10 := f14
  have f15 : (0 : Int) ≤ ρ 19 + -ρ 3 := f15
  have f16 : (0 : Int) ≤ ρ 19 + -ρ 18 := f16
  have f17 : (0 : Int) ≤ -ρ 20 + ρ 18 := f17
  obtain ⟨m0, m1, m2, m3, m4, m5, m6, m7, m8, m9, m10, m11, m12, m13, m14, m15, m16, m17, m18, m19, m20, m21, m22, m23, m24, m25, m26, m27, m28, m29, m30, m31, m32, m33, m34, m35, m36, m37, m38, m39, m40, m41, m42, m43, m44, m45, m46, m47, m48, m49, m50, m51, m52, m53, m54, m55, m56, -⟩ := hm
  have m0 : γ 0 1 0 10 = ρ 0 := m0
  have m1 : γ 0 40 0 (ρ 0) = ρ 1 := m1
  have m2 : γ 0 9 (ρ 1) 2 = ρ 2 := m2
  have m3 : γ 0 2 0 6 = ρ 3 := m3
  have m4 : γ 0 2 0 3 = ρ 4 := m4
  have m5 : γ 0 2 0 7 = ρ 5 := m5
  have m6 : γ 0 10 (9 * ρ 1) 8 = ρ 6 := m6
  have m7 : γ 0 10 (9 * ρ 1) 12 = ρ 7 := m7
  have m8 : γ 0 10 (9 * ρ 1) 14 = ρ 8 := m8
  have m9 : γ 0 9 (ρ 1) 3 = ρ 9 := m9
  have m10 : γ 0 1 0 7 = ρ 10 := m10
  have m11 : γ 0 2 0 4 = ρ 11 := m11
  have m12 : γ 0 2 0 5 = ρ 12 := m12
  have m13 : γ 0 2 0 9 = ρ 13 := m13
  have m14 : γ 0 2 0 13 = ρ 14 := m14
  have m15 : γ 0 2 0 16 = ρ 15 := m15
  have m16 : γ 0 3 0 1 = ρ 16 := m16
  have m17 : γ 0 10 (9 * ρ 1) 15 = ρ 17 := m17
  have m18 : γ 1 9 (ρ 1) 2 = ρ 18 := m18
  have m19 : γ 1 2 0 6 = ρ 19 := m19
  have m20 : γ 1 10 (9 * ρ 1) 8 = ρ 6 := m20
  have m21 : γ 1 10 (9 * ρ 1) 12 = ρ 7 := m21
  have m22 : γ 1 9 (ρ 1) 3 = ρ 20 := m22
  have m23 : γ 1 1 0 7 = ρ 21 := m23
  have m24 : γ 1 2 0 4 = ρ 11 := m24
  have m25 : γ 1 2 0 5 = ρ 22 := m25
  have m26 : γ 1 2 0 9 = ρ 23 := m26
  have m27 : γ 1 2 0 13 = ρ 24 := m27
  have m28 : γ 1 2 0 16 = ρ 25 := m28
  have m29 : γ 1 3 0 1 = ρ 26 := m29
  have m30 : γ 1 10 (ρ 18 + 9 * ρ 1 + 1) 4 = ρ 27 := m30
  have m31 : γ 1 10 (ρ 18 + 9 * ρ 1 + 1) 11 = ρ 28 := m31
  have m32 : γ 1 10 (ρ 18 + 9 * ρ 1 + 1) 8 = ρ 29 := m32
  have m33 : γ 1 10 (ρ 18 + 9 * ρ 1 + 1) 5 = ρ 30 := m33
  have m34 : γ 1 10 (ρ 18 + 9 * ρ 1 + 1) 7 = ρ 31 := m34
  have m35 : γ 1 10 (ρ 18 + 9 * ρ 1 + 1) 9 = ρ 32 := m35
  have m36 : γ 1 10 (ρ 18 + 9 * ρ 1 + 1) 12 = ρ 33 := m36
  have m37 : γ 3 2 0 6 = ρ 34 := m37
  have m38 : γ 3 10 (ρ 18 + 9 * ρ 1 + 1) 4 = ρ 35 := m38
  have m39 : γ 3 10 (ρ 18 + 9 * ρ 1 + 1) 11 = ρ 28 := m39
  have m40 : γ 3 10 (ρ 18 + 9 * ρ 1 + 1) 8 = (-1) := m40
  have m41 : γ 3 10 (9 * ρ 1) 8 = ρ 6 := m41
  have m42 : γ 3 10 (9 * ρ 1) 12 = ρ 7 := m42
  have m43 : γ 3 1 0 7 = ρ 21 := m43
  have m44 : γ 3 2 0 4 = ρ 11 := m44
  have m45 : γ 3 2 0 5 = ρ 22 := m45
  have m46 : γ 3 2 0 9 = ρ 36 := m46
  have m47 : γ 3 2 0 13 = ρ 24 := m47
  have m48 : γ 3 2 0 16 = ρ 25 := m48
  have m49 : γ 3 3 0 1 = ρ 37 := m49
  have m50 : γ 3 10 (ρ 18 + 9 * ρ 1 + 1) 5 = ρ 38 := m50
  have m51 : γ 3 10 (ρ 18 + 9 * ρ 1 + 1) 7 = ρ 39 := m51
  have m52 : γ 3 10 (ρ 18 + 9 * ρ 1 + 1) 9 = (-1) := m52
  have m53 : γ 3 10 (ρ 18 + 9 * ρ 1 + 1) 12 = 0 := m53
  have m54 : γ 5 2 0 6 = ρ 41 := m54
  have m55 : γ 3 10 (9 * ρ 1) 5 = ρ 42 := m55
  have m56 : γ 7 2 0 4 = ρ 43 := m56
  obtain ⟨⟨⟨⟨⟨⟨⟨-, c1⟩, c2⟩, c3⟩, c4⟩, c5⟩, c6⟩, c7⟩ := hc
  have c1 : ∀ (G : Nat) (k j : Int), ¬ rMdP m107_ G j → γ 1 G k j = γ 0 G k j := c1
  have c2 : ∀ (G : Nat) (k j : Int), ¬ rMdP m0_ G j → γ 2 G k j = γ 1 G k j := c2
  have c3 : ∀ (G : Nat) (k j : Int), ¬ rMdP m106_ G j → γ 3 G k j = γ 2 G k j := c3
  have c4 : γ 4 = rUp (γ 3) 9 (ρ 1) 2 (ρ 18 + 1) := c4
  have c5 : ∀ (G : Nat) (k j : Int), ¬ rMdP m77_ G j → γ 5 G k j = γ 4 G k j := c5
  have c6 : γ 6 = rUp (γ 5) 2 0 6 (ρ 41 + 1) := c6
  have c7 : ∀ (G : Nat) (k j : Int), ¬ rMdP m72_ G j → γ 7 G k j = γ 6 G k j := c7
  obtain ⟨l0, l1, l2, l3, -⟩ := hl
  have l0 : sn132 [ρ 1, ρ 18] (γ 1) 0 (ρ 18 + 9 * ρ 1 + 1) (γ 2) := hS132 _ _ _ _ _ l0
  have l1 : sn157 [ρ 0, ρ 1, ρ 18, ρ 19, ρ 4, ρ 27, ρ 28, ρ 29, ρ 5, ρ 6, ρ 7, ρ 21, ρ 11, ρ 22, ρ 23, ρ 24, ρ 25, ρ 26, ρ 30, ρ 31, ρ 32, ρ 33] (γ 2) 0 1 (γ 3) := hS157 _ _ _ _ _ l1
  have l2 : sn114 [ρ 34, ρ 4] (γ 4) 0 (ρ 40) (γ 5) := hS114 _ _ _ _ _ l2
  have l3 : sn153 [9 * ρ 1, ρ 11, ρ 22, ρ 42, ρ 7, ρ 8, ρ 17] (γ 6) 0 0 (γ 7) := hS153 _ _ _ _ _ l3
  show sn158 [ρ 0, ρ 1, ρ 2, ρ 3, ρ 4, ρ 5, ρ 6, ρ 7, ρ 8, ρ 9, ρ 10, ρ 11, ρ 12, ρ 13, ρ 14, ρ 15, ρ 16, ρ 17] (γ 0) 0 0 (γ 7)
  have hD : en158 (γ 0) (0, [], γ 1) = .inr (0, 0, γ 7) := by
    unfold en158
    refine (if_pos (show (0 : Nat) = 0 by decide)).trans ?_
    refine (zLet_eq (show _ = γ 1 from rfl)).trans ?_
    refine (zLet_eq m0).trans ?_
    refine (zLet_eq m1).trans ?_
    refine (zLet_eq m18).trans ?_
    refine (zLet_eq m22).trans ?_
    refine (if_neg (show ¬ (ρ 18 ≥ 8) by omega)).trans ?_
    refine (zLet_eq (show fn132 [ρ 1, ρ 18] (γ 1) = (0, ρ 18 + 9 * ρ 1 + 1, γ 2) from l0.symm)).trans ?_
    refine (zLet_eq (show _ = γ 2 from rfl)).trans ?_
    refine (zLet_eq (show fn157 [] (γ 2) = (0, 1, γ 3) from l1.symm)).trans ?_
    refine (zLet_eq (show _ = γ 3 from rfl)).trans ?_
    refine (if_pos (show (1 : Int) ≤ 1 by omega)).trans ?_
    refine (if_pos (show 3 ≤ γ 3 10 (ρ 18 + 9 * ρ 1 + 1) 4 by omega)).trans ?_
    refine (if_neg (show ¬ (6 ≤ γ 3 10 (ρ 18 + 9 * ρ 1 + 1) 4) by omega)).trans ?_
    refine (zLet_eq c4.symm).trans ?_
    refine (zLet_eq (show fn114 [] (γ 4) = (0, ρ 40, γ 5) from l2.symm)).trans ?_
    refine (zLet_eq (show _ = γ 5 from rfl)).trans ?_
    refine (if_pos (show (0 : Int) ≤ ρ 40 by omega)).trans ?_
    refine (zLet_eq (show _ = ρ 40 from rfl)).trans ?_
    refine (zLet_eq m54).trans ?_
    refine (if_neg (show ¬ (ρ 40 ≠ 46) by omega)).trans ?_
    refine (zLet_eq c6.symm).trans ?_
    refine (zLet_eq (show fn153 [9 * ρ 1] (γ 6) = (0, 0, γ 7) from l3.symm)).trans ?_
    refine (zLet_eq (show _ = γ 7 from rfl)).trans ?_
    refine (if_neg (show ¬ ((1 : Int) ≤ 0) by omega)).trans ?_
    rfl
  exact zGoo_aend hJ hD
theorem vn158a0_7 {S : Nat → zSpc} (hS109 : ∀ x g o v gz, S 109 x g o v gz → sn109 x g o v gz) (hS114 : ∀ x g o v gz, S 114 x g o v gz → sn114 x g o v gz) (hS132 : ∀ x g o v gz, S 132 x g o v gz → sn132 x g o v gz) (hS152 : ∀ x g o v gz, S 152 x g o v gz → sn152 x g o v gz) (hS153 : ∀ x g o v gz, S 153 x g o v gz → sn153 x g o v gz) (hS157 : ∀ x g o v gz, S 157 x g o v gz → sn157 x g o v gz) {a : List Int} {g : rHp} : ∀ (ρ : Nat → Int) (γ : Nat → rHp), jn158 a g 0 (zAg (zNA a158_ 0) ρ) (γ 1) → zO 18 S a g q158a0_7 ρ γ → zGl (fun i vs g1 => jn158 a g i vs g1) (sn158 a g) q158a0_7 ρ γ := by
  intro ρ γ hJ h
  obtain ⟨ha, hg, hr, hf, hm, hc, hl⟩ := h
  have ha : a = [ρ 0, ρ 1, ρ 2, ρ 3, ρ 4, ρ 5, ρ 6, ρ 7, ρ 8, ρ 9, ρ 10, ρ 11, ρ 12, ρ 13, ρ 14, ρ 15, ρ 16, ρ 17] := ha
  subst ha
  subst hg
  have hJ : jn158 [ρ 0, ρ 1, ρ 2, ρ 3, ρ 4, ρ 5, ρ 6, ρ 7, ρ 8, ρ 9, ρ 10, ρ 11, ρ 12, ρ 13, ρ 14, ρ 15, ρ 16, ρ 17] (γ 0) 0 [ρ 0, ρ 1, ρ 2, ρ 3, ρ 4, ρ 5, ρ 6, ρ 7, ρ 8, ρ 9, ρ 10, ρ 11, ρ 12, ρ 13, ρ 14, ρ 15, ρ 16, ρ 17, ρ 18, ρ 19, ρ 20, ρ 21, ρ 22, ρ 23, ρ 24, ρ 25, ρ 26] (γ 1) := hJ
  obtain ⟨r0, r1, r2, r3, r4, r5, r6, r7, r8, r9, r10, r11, r12, r13, r14, r15, r16, r17, r18, r19, r20, r21, r22, r23, r24, r25, r26, r27, r28, r29, r30, r31, r32, r33, r34, r35, r36, r37, r38, r39, r40, r41, r42, r43, -⟩ := hr
  have r0 : (0 : Int) ≤ ρ 0 ∧ ρ 0 ≤ 60 := r0
  have r1 : (0 : Int) ≤ ρ 1 ∧ ρ 1 ≤ 60 := r1
  have r2 : (0 : Int) ≤ ρ 2 ∧ ρ 2 ≤ 8 := r2
  have r3 : (0 : Int) ≤ ρ 3 ∧ ρ 3 ≤ 2000 := r3
  have r4 : (0 : Int) ≤ ρ 4 ∧ ρ 4 ≤ 2000 := r4
  have r5 : (0 : Int) ≤ ρ 5 ∧ ρ 5 ≤ 0 := r5
  have r6 : ((-1) : Int) ≤ ρ 6 ∧ ρ 6 ≤ 19 := r6
  have r7 : (0 : Int) ≤ ρ 7 ∧ ρ 7 ≤ 4 := r7
  have r8 : ((-1) : Int) ≤ ρ 8 ∧ ρ 8 ≤ 7 := r8
  have r9 : (0 : Int) ≤ ρ 9 ∧ ρ 9 ≤ 8 := r9
  have r10 : (0 : Int) ≤ ρ 10 ∧ ρ 10 ≤ 20 := r10
  have r11 : ((-2147483648) : Int) ≤ ρ 11 ∧ ρ 11 ≤ 2147483647 := r11
  have r12 : ((-2147483648) : Int) ≤ ρ 12 ∧ ρ 12 ≤ 2147483647 := r12
  have r13 : ((-2147483648) : Int) ≤ ρ 13 ∧ ρ 13 ≤ 2147483647 := r13
  have r14 : (0 : Int) ≤ ρ 14 ∧ ρ 14 ≤ 8 := r14
  have r15 : (0 : Int) ≤ ρ 15 ∧ ρ 15 ≤ 32 := r15
  have r16 : (0 : Int) ≤ ρ 16 ∧ ρ 16 ≤ 5120 := r16
  have r17 : ((-2147483648) : Int) ≤ ρ 17 ∧ ρ 17 ≤ 2147483647 := r17
  have r18 : (0 : Int) ≤ ρ 18 ∧ ρ 18 ≤ 7 := r18
  have r19 : (0 : Int) ≤ ρ 19 ∧ ρ 19 ≤ 2000 := r19
  have r20 : (0 : Int) ≤ ρ 20 ∧ ρ 20 ≤ 8 := r20
  have r21 : (0 : Int) ≤ ρ 21 ∧ ρ 21 ≤ 20 := r21
  have r22 : ((-2147483648) : Int) ≤ ρ 22 ∧ ρ 22 ≤ 2147483647 := r22
  have r23 : ((-2147483648) : Int) ≤ ρ 23 ∧ ρ 23 ≤ 2147483647 := r23
  have r24 : (0 : Int) ≤ ρ 24 ∧ ρ 24 ≤ 8 := r24
  have r25 : (0 : Int) ≤ ρ 25 ∧ ρ 25 ≤ 32 := r25
  have r26 : (0 : Int) ≤ ρ 26 ∧ ρ 26 ≤ 5120 := r26
  have r27 : (0 : Int) ≤ ρ 27 ∧ ρ 27 ≤ 8 := r27
  have r28 : ((-1) : Int) ≤ ρ 28 ∧ ρ 28 ≤ 7 := r28
  have r29 : ((-1) : Int) ≤ ρ 29 ∧ ρ 29 ≤ 19 := r29
  have r30 : (0 : Int) ≤ ρ 30 ∧ ρ 30 ≤ 4 := r30
  have r31 : ((-2147483648) : Int) ≤ ρ 31 ∧ ρ 31 ≤ 2147483647 := r31
  have r32 : ((-1) : Int) ≤ ρ 32 ∧ ρ 32 ≤ 3 := r32
  have r33 : (0 : Int) ≤ ρ 33 ∧ ρ 33 ≤ 4 := r33
  have r34 : (2 : Int) ≤ ρ 34 ∧ ρ 34 ≤ 2000 := r34
  have r35 : (3 : Int) ≤ ρ 35 ∧ ρ 35 ≤ 5 := r35
  have r36 : ((-2147483648) : Int) ≤ ρ 36 ∧ ρ 36 ≤ 2147483647 := r36
  have r37 : (0 : Int) ≤ ρ 37 ∧ ρ 37 ≤ 5120 := r37
  have r38 : (1 : Int) ≤ ρ 38 ∧ ρ 38 ≤ 2 := r38
  have r39 : (0 : Int) ≤ ρ 39 ∧ ρ 39 ≤ 2000 := r39
  have r40 : (46 : Int) ≤ ρ 40 ∧ ρ 40 ≤ 46 := r40
  have r41 : (0 : Int) ≤ ρ 41 ∧ ρ 41 ≤ 2000 := r41
  have r42 : (0 : Int) ≤ ρ 42 ∧ ρ 42 ≤ 4 := r42
  have r43 : ((-2147483648) : Int) ≤ ρ 43 ∧ ρ 43 ≤ 2147483647 := r43
  obtain ⟨f0, f1, f2, f3, f4, f5, f6, f7, f8, f9, f10, f11, f12, f13, f14, f15, f16, f17, -⟩ := hf
  have f0 : (0 : Int) ≤ ρ 41 + -ρ 34 := f0
  have f1 : (0 : Int) ≤ -ρ 41 + ρ 4 + (-1) := f1
  have f2 : (0 : Int) ≤ -ρ 34 + ρ 4 + (-1) := f2
  have f3 : (0 : Int) ≤ -ρ 39 + ρ 34 + (-1) := f3
  have f4 : (0 : Int) ≤ ρ 34 + -ρ 19 + (-1) := f4
  have f5 : (0 : Int) ≤ ρ 37 + -ρ 26 := f5
  have f6 : (0 : Int) ≤ ρ 39 + -ρ 19 := f6
  have f7 : (0 : Int) ≤ -ρ 38 + ρ 4 := f7
  have f8 : (0 : Int) ≤ -ρ 39 + ρ 4 + (-1) := f8
  have f9 : (0 : Int) ≤ -ρ 19 + ρ 4 + (-1) := f9
  have f10 : (0 : Int) ≤ -ρ 18 + ρ 4 := f10
  have f11 : (0 : Int) ≤ ρ 26 + -ρ 16 := f11
  have f12 : (0 : Int) ≤ ρ 25 + -ρ 15 := f12
  have f13 : (0 : Int) ≤ ρ 24 + -ρ 14 := f13
  have f14 : (0 : Int) ≤ ρ 21 + -ρ 10 := f14
  have f15 : (0 : Int) ≤ ρ 19 + -ρ 3 := f15
  have f16 : (0 : Int) ≤ ρ 19 + -ρ 18 := f16
  have f17 : (0 : Int) ≤ -ρ 20 + ρ 18 := f17
  obtain ⟨m0, m1, m2, m3, m4, m5, m6, m7, m8, m9, m10, m11, m12, m13, m14, m15, m16, m17, m18, m19, m20, m21, m22, m23, m24, m25, m26, m27, m28, m29, m30, m31, m32, m33, m34, m35, m36, m37, m38, m39, m40, m41, m42, m43, m44, m45, m46, m47, m48, m49, m50, m51, m52, m53, m54, m55, m56, m57, -⟩ := hm
  have m0 : γ 0 1 0 10 = ρ 0 := m0
  have m1 : γ 0 40 0 (ρ 0) = ρ 1 := m1
  have m2 : γ 0 9 (ρ 1) 2 = ρ 2 := m2
  have m3 : γ 0 2 0 6 = ρ 3 := m3
  have m4 : γ 0 2 0 3 = ρ 4 := m4
  have m5 : γ 0 2 0 7 = ρ 5 := m5
  have m6 : γ 0 10 (9 * ρ 1) 8 = ρ 6 := m6
  have m7 : γ 0 10 (9 * ρ 1) 12 = ρ 7 := m7
  have m8 : γ 0 10 (9 * ρ 1) 14 = ρ 8 := m8
  have m9 : γ 0 9 (ρ 1) 3 = ρ 9 := m9
  have m10 : γ 0 1 0 7 = ρ 10 := m10
  have m11 : γ 0 2 0 4 = ρ 11 := m11
  have m12 : γ 0 2 0 5 = ρ 12 := m12
  have m13 : γ 0 2 0 9 = ρ 13 := m13
  have m14 : γ 0 2 0 13 = ρ 14 := m14
  have m15 : γ 0 2 0 16 = ρ 15 := m15
  have m16 : γ 0 3 0 1 = ρ 16 := m16
  have m17 : γ 0 10 (9 * ρ 1) 15 = ρ 17 := m17
  have m18 : γ 1 9 (ρ 1) 2 = ρ 18 := m18
  have m19 : γ 1 2 0 6 = ρ 19 := m19
  have m20 : γ 1 10 (9 * ρ 1) 8 = ρ 6 := m20
  have m21 : γ 1 10 (9 * ρ 1) 12 = ρ 7 := m21
  have m22 : γ 1 9 (ρ 1) 3 = ρ 20 := m22
  have m23 : γ 1 1 0 7 = ρ 21 := m23
  have m24 : γ 1 2 0 4 = ρ 11 := m24
  have m25 : γ 1 2 0 5 = ρ 22 := m25
  have m26 : γ 1 2 0 9 = ρ 23 := m26
  have m27 : γ 1 2 0 13 = ρ 24 := m27
  have m28 : γ 1 2 0 16 = ρ 25 := m28
  have m29 : γ 1 3 0 1 = ρ 26 := m29
  have m30 : γ 1 10 (ρ 18 + 9 * ρ 1 + 1) 4 = ρ 27 := m30
  have m31 : γ 1 10 (ρ 18 + 9 * ρ 1 + 1) 11 = ρ 28 := m31
  have m32 : γ 1 10 (ρ 18 + 9 * ρ 1 + 1) 8 = ρ 29 := m32
  have m33 : γ 1 10 (ρ 18 + 9 * ρ 1 + 1) 5 = ρ 30 := m33
  have m34 : γ 1 10 (ρ 18 + 9 * ρ 1 + 1) 7 = ρ 31 := m34
  have m35 : γ 1 10 (ρ 18 + 9 * ρ 1 + 1) 9 = ρ 32 := m35
  have m36 : γ 1 10 (ρ 18 + 9 * ρ 1 + 1) 12 = ρ 33 := m36
  have m37 : γ 3 2 0 6 = ρ 34 := m37
  have m38 : γ 3 10 (ρ 18 + 9 * ρ 1 + 1) 4 = ρ 35 := m38
  have m39 : γ 3 10 (ρ 18 + 9 * ρ 1 + 1) 11 = ρ 28 := m39
  have m40 : γ 3 10 (ρ 18 + 9 * ρ 1 + 1) 8 = (-1) := m40
  have m41 : γ 3 10 (9 * ρ 1) 8 = ρ 6 := m41
  have m42 : γ 3 10 (9 * ρ 1) 12 = ρ 7 := m42
  have m43 : γ 3 1 0 7 = ρ 21 := m43
  have m44 : γ 3 2 0 4 = ρ 11 := m44
  have m45 : γ 3 2 0 5 = ρ 22 := m45
  have m46 : γ 3 2 0 9 = ρ 36 := m46
  have m47 : γ 3 2 0 13 = ρ 24 := m47
  have m48 : γ 3 2 0 16 = ρ 25 := m48
  have m49 : γ 3 3 0 1 = ρ 37 := m49
  have m50 : γ 3 10 (ρ 18 + 9 * ρ 1 + 1) 5 = ρ 38 := m50
  have m51 : γ 3 10 (ρ 18 + 9 * ρ 1 + 1) 7 = ρ 39 := m51
  have m52 : γ 3 10 (ρ 18 + 9 * ρ 1 + 1) 9 = (-1) := m52
  have m53 : γ 3 10 (ρ 18 + 9 * ρ 1 + 1) 12 = 0 := m53
  have m54 : γ 5 2 0 6 = ρ 41 := m54
  have m55 : γ 3 10 (9 * ρ 1) 5 = ρ 42 := m55
  have m56 : γ 7 2 0 4 = ρ 11 := m56
  have m57 : γ 8 2 0 4 = ρ 43 := m57
  obtain ⟨⟨⟨⟨⟨⟨⟨⟨-, c1⟩, c2⟩, c3⟩, c4⟩, c5⟩, c6⟩, c7⟩, c8⟩ := hc
  have c1 : ∀ (G : Nat) (k j : Int), ¬ rMdP m107_ G j → γ 1 G k j = γ 0 G k j := c1
  have c2 : ∀ (G : Nat) (k j : Int), ¬ rMdP m0_ G j → γ 2 G k j = γ 1 G k j := c2
  have c3 : ∀ (G : Nat) (k j : Int), ¬ rMdP m106_ G j → γ 3 G k j = γ 2 G k j := c3
  have c4 : γ 4 = rUp (γ 3) 9 (ρ 1) 2 (ρ 18 + 1) := c4
  have c5 : ∀ (G : Nat) (k j : Int), ¬ rMdP m77_ G j → γ 5 G k j = γ 4 G k j := c5
  have c6 : γ 6 = rUp (γ 5) 2 0 6 (ρ 41 + 1) := c6
  have c7 : ∀ (G : Nat) (k j : Int), ¬ rMdP m72_ G j → γ 7 G k j = γ 6 G k j := c7
  have c8 : ∀ (G : Nat) (k j : Int), ¬ rMdP m72_ G j → γ 8 G k j = γ 7 G k j := c8
  obtain ⟨l0, l1, l2, l3, l4, -⟩ := hl
  have l0 : sn132 [ρ 1, ρ 18] (γ 1) 0 (ρ 18 + 9 * ρ 1 + 1) (γ 2) := hS132 _ _ _ _ _ l0
  have l1 : sn157 [ρ 0, ρ 1, ρ 18, ρ 19, ρ 4, ρ 27, ρ 28, ρ 29, ρ 5, ρ 6, ρ 7, ρ 21, ρ 11, ρ 22, ρ 23, ρ 24, ρ 25, ρ 26, ρ 30, ρ 31, ρ 32, ρ 33] (γ 2) 0 1 (γ 3) := hS157 _ _ _ _ _ l1
  have l2 : sn114 [ρ 34, ρ 4] (γ 4) 0 (ρ 40) (γ 5) := hS114 _ _ _ _ _ l2
  have l3 : sn153 [9 * ρ 1, ρ 11, ρ 22, ρ 42, ρ 7, ρ 8, ρ 17] (γ 6) 0 1 (γ 7) := hS153 _ _ _ _ _ l3
  have l4 : sn152 [ρ 11, ρ 25] (γ 7) 0 0 (γ 8) := hS152 _ _ _ _ _ l4
  show sn158 [ρ 0, ρ 1, ρ 2, ρ 3, ρ 4, ρ 5, ρ 6, ρ 7, ρ 8, ρ 9, ρ 10, ρ 11, ρ 12, ρ 13, ρ 14, ρ 15, ρ 16, ρ 17] (γ 0) 0 0 (γ 8)
  have hD : en158 (γ 0) (0, [], γ 1) = .inr (0, 0, γ 8) := by
    unfold en158
    refine (if_pos (show (0 : Nat) = 0 by decide)).trans ?_
    refine (zLet_eq (show _ = γ 1 from rfl)).trans ?_
    refine (zLet_eq m0).trans ?_
    refine (zLet_eq m1).trans ?_
    refine (zLet_eq m18).trans ?_
    refine (zLet_eq m22).trans ?_
    refine (if_neg (show ¬ (ρ 18 ≥ 8) by omega)).trans ?_
    refine (zLet_eq (show fn132 [ρ 1, ρ 18] (γ 1) = (0, ρ 18 + 9 * ρ 1 + 1, γ 2) from l0.symm)).trans ?_
    refine (zLet_eq (show _ = γ 2 from rfl)).trans ?_
    refine (zLet_eq (show fn157 [] (γ 2) = (0, 1, γ 3) from l1.symm)).trans ?_
    refine (zLet_eq (show _ = γ 3 from rfl)).trans ?_
    refine (if_pos (show (1 : Int) ≤ 1 by omega)).trans ?_
    refine (if_pos (show 3 ≤ γ 3 10 (ρ 18 + 9 * ρ 1 + 1) 4 by omega)).trans ?_
    refine (if_neg (show ¬ (6 ≤ γ 3 10 (ρ 18 + 9 * ρ 1 + 1) 4) by omega)).trans ?_
    refine (zLet_eq c4.symm).trans ?_
    refine (zLet_eq (show fn114 [] (γ 4) = (0, ρ 40, γ 5) from l2.symm)).trans ?_
    refine (zLet_eq (show _ = γ 5 from rfl)).trans ?_
    refine (if_pos (show (0 : Int) ≤ ρ 40 by omega)).trans ?_
    refine (zLet_eq (show _ = ρ 40 from rfl)).trans ?_
    refine (zLet_eq m54).trans ?_
    refine (if_neg (show ¬ (ρ 40 ≠ 46) by omega)).trans ?_
    refine (zLet_eq c6.symm).trans ?_
    refine (zLet_eq (show fn153 [9 * ρ 1] (γ 6) = (0, 1, γ 7) from l3.symm)).trans ?_
    refine (zLet_eq (show _ = γ 7 from rfl)).trans ?_
    refine (if_pos (show (1 : Int) ≤ 1 by omega)).trans ?_
    refine (zLet_eq (show fn152 [] (γ 7) = (0, 0, γ 8) from l4.symm)).trans ?_
    refine (zLet_eq (show _ = γ 8 from rfl)).trans ?_
    refine (if_neg (show ¬ ((1 : Int) ≤ 0) by omega)).trans ?_
    rfl
  exact zGoo_aend hJ hD
theorem vn158a0_8 {S : Nat → zSpc} (hS109 : ∀ x g o v gz, S 109 x g o v gz → sn109 x g o v gz) (hS114 : ∀ x g o v gz, S 114 x g o v gz → sn114 x g o v gz) (hS132 : ∀ x g o v gz, S 132 x g o v gz → sn132 x g o v gz) (hS152 : ∀ x g o v gz, S 152 x g o v gz → sn152 x g o v gz) (hS153 : ∀ x g o v gz, S 153 x g o v gz → sn153 x g o v gz) (hS157 : ∀ x g o v gz, S 157 x g o v gz → sn157 x g o v gz) {a : List Int} {g : rHp} : ∀ (ρ : Nat → Int) (γ : Nat → rHp), jn158 a g 0 (zAg (zNA a158_ 0) ρ) (γ 1) → zO 18 S a g q158a0_8 ρ γ → zGl (fun i vs g1 => jn158 a g i vs g1) (sn158 a g) q158a0_8 ρ γ := by
  intro ρ γ hJ h
  obtain ⟨ha, hg, hr, hf, hm, hc, hl⟩ := h
  have ha : a = [ρ 0, ρ 1, ρ 2, ρ 3, ρ 4, ρ 5, ρ 6, ρ 7, ρ 8, ρ 9, ρ 10, ρ 11, ρ 12, ρ 13, ρ 14, ρ 15, ρ 16, ρ 17] := ha
  subst ha
  subst hg
  have hJ : jn158 [ρ 0, ρ 1, ρ 2, ρ 3, ρ 4, ρ 5, ρ 6, ρ 7, ρ 8, ρ 9, ρ 10, ρ 11, ρ 12, ρ 13, ρ 14, ρ 15, ρ 16, ρ 17] (γ 0) 0 [ρ 0, ρ 1, ρ 2, ρ 3, ρ 4, ρ 5, ρ 6, ρ 7, ρ 8, ρ 9, ρ 10, ρ 11, ρ 12, ρ 13, ρ 14, ρ 15, ρ 16, ρ 17, ρ 18, ρ 19, ρ 20, ρ 21, ρ 22, ρ 23, ρ 24, ρ 25, ρ 26] (γ 1) := hJ
  obtain ⟨r0, r1, r2, r3, r4, r5, r6, r7, r8, r9, r10, r11, r12, r13, r14, r15, r16, r17, r18, r19, r20, r21, r22, r23, r24, r25, r26, r27, r28, r29, r30, r31, r32, r33, r34, r35, r36, r37, r38, r39, r40, r41, r42, -⟩ := hr
  have r0 : (0 : Int) ≤ ρ 0 ∧ ρ 0 ≤ 60 := r0
  have r1 : (0 : Int) ≤ ρ 1 ∧ ρ 1 ≤ 60 := r1
  have r2 : (0 : Int) ≤ ρ 2 ∧ ρ 2 ≤ 8 := r2
  have r3 : (0 : Int) ≤ ρ 3 ∧ ρ 3 ≤ 2000 := r3
  have r4 : (0 : Int) ≤ ρ 4 ∧ ρ 4 ≤ 2000 := r4
  have r5 : (0 : Int) ≤ ρ 5 ∧ ρ 5 ≤ 0 := r5
  have r6 : ((-1) : Int) ≤ ρ 6 ∧ ρ 6 ≤ 19 := r6
  have r7 : (0 : Int) ≤ ρ 7 ∧ ρ 7 ≤ 4 := r7
  have r8 : ((-1) : Int) ≤ ρ 8 ∧ ρ 8 ≤ 7 := r8
  have r9 : (0 : Int) ≤ ρ 9 ∧ ρ 9 ≤ 8 := r9
  have r10 : (0 : Int) ≤ ρ 10 ∧ ρ 10 ≤ 20 := r10
  have r11 : ((-2147483648) : Int) ≤ ρ 11 ∧ ρ 11 ≤ 2147483647 := r11
  have r12 : ((-2147483648) : Int) ≤ ρ 12 ∧ ρ 12 ≤ 2147483647 := r12
  have r13 : ((-2147483648) : Int) ≤ ρ 13 ∧ ρ 13 ≤ 2147483647 := r13
  have r14 : (0 : Int) ≤ ρ 14 ∧ ρ 14 ≤ 8 := r14
  have r15 : (0 : Int) ≤ ρ 15 ∧ ρ 15 ≤ 32 := r15
  have r16 : (0 : Int) ≤ ρ 16 ∧ ρ 16 ≤ 5120 := r16
  have r17 : ((-2147483648) : Int) ≤ ρ 17 ∧ ρ 17 ≤ 2147483647 := r17
  have r18 : (0 : Int) ≤ ρ 18 ∧ ρ 18 ≤ 7 := r18
  have r19 : (0 : Int) ≤ ρ 19 ∧ ρ 19 ≤ 2000 := r19
  have r20 : (0 : Int) ≤ ρ 20 ∧ ρ 20 ≤ 8 := r20
  have r21 : (0 : Int) ≤ ρ 21 ∧ ρ 21 ≤ 20 := r21
  have r22 : ((-2147483648) : Int) ≤ ρ 22 ∧ ρ 22 ≤ 2147483647 := r22
  have r23 : ((-2147483648) : Int) ≤ ρ 23 ∧ ρ 23 ≤ 2147483647 := r23
  have r24 : (0 : Int) ≤ ρ 24 ∧ ρ 24 ≤ 8 := r24
  have r25 : (0 : Int) ≤ ρ 25 ∧ ρ 25 ≤ 32 := r25
  have r26 : (0 : Int) ≤ ρ 26 ∧ ρ 26 ≤ 5120 := r26
  have r27 : (0 : Int) ≤ ρ 27 ∧ ρ 27 ≤ 8 := r27
  have r28 : ((-1) : Int) ≤ ρ 28 ∧ ρ 28 ≤ 7 := r28
  have r29 : ((-1) : Int) ≤ ρ 29 ∧ ρ 29 ≤ 19 := r29
  have r30 : (0 : Int) ≤ ρ 30 ∧ ρ 30 ≤ 4 := r30
  have r31 : ((-2147483648) : Int) ≤ ρ 31 ∧ ρ 31 ≤ 2147483647 := r31
  have r32 : ((-1) : Int) ≤ ρ 32 ∧ ρ 32 ≤ 3 := r32
  have r33 : (0 : Int) ≤ ρ 33 ∧ ρ 33 ≤ 4 := r33
  have r34 : (2 : Int) ≤ ρ 34 ∧ ρ 34 ≤ 2000 := r34
  have r35 : (3 : Int) ≤ ρ 35 ∧ ρ 35 ≤ 5 := r35
  have r36 : ((-2147483648) : Int) ≤ ρ 36 ∧ ρ 36 ≤ 2147483647 := r36
  have r37 : (0 : Int) ≤ ρ 37 ∧ ρ 37 ≤ 5120 := r37
  have r38 : (1 : Int) ≤ ρ 38 ∧ ρ 38 ≤ 2 := r38
  have r39 : (0 : Int) ≤ ρ 39 ∧ ρ 39 ≤ 2000 := r39
  have r40 : (46 : Int) ≤ ρ 40 ∧ ρ 40 ≤ 46 := r40
  have r41 : (0 : Int) ≤ ρ 41 ∧ ρ 41 ≤ 2000 := r41
  have r42 : (0 : Int) ≤ ρ 42 ∧ ρ 42 ≤ 4 := r42
  obtain ⟨f0, f1, f2, f3, f4, f5, f6, f7, f8, f9, f10, f11, f12, f13, f14, f15, f16, f17, -⟩ := hf
  have f0 : (0 : Int) ≤ ρ 41 + -ρ 34 := f0
  have f1 : (0 : Int) ≤ -ρ 41 + ρ 4 + (-1) := f1
  have f2 : (0 : Int) ≤ -ρ 34 + ρ 4 + (-1) := f2
  have f3 : (0 : Int) ≤ -ρ 39 + ρ 34 + (-1) := f3
  have f4 : (0 : Int) ≤ ρ 34 + -ρ 19 + (-1) := f4
  have f5 : (0 : Int) ≤ ρ 37 + -ρ 26 := f5
  have f6 : (0 : Int) ≤ ρ 39 + -ρ 19 := f6
  have f7 : (0 : Int) ≤ -ρ 38 + ρ 4 := f7
  have f8 : (0 : Int) ≤ -ρ 39 + ρ 4 + (-1) := f8
  have f9 : (0 : Int) ≤ -ρ 19 + ρ 4 + (-1) := f9
  have f10 : (0 : Int) ≤ -ρ 18 + ρ 4 := f10
  have f11 : (0 : Int) ≤ ρ 26 + -ρ 16 := f11
  have f12 : (0 : Int) ≤ ρ 25 + -ρ 15 := f12
  have f13 : (0 : Int) ≤ ρ 24 + -ρ 14 := f13
  have f14 : (0 : Int) ≤ ρ 21 + -ρ 10 := f14
  have f15 : (0 : Int) ≤ ρ 19 + -ρ 3 := f15
  have f16 : (0 : Int) ≤ ρ 19 + -ρ 18 := f16
  have f17 : (0 : Int) ≤ -ρ 20 + ρ 18 := f17
  obtain ⟨m0, m1, m2, m3, m4, m5, m6, m7, m8, m9, m10, m11, m12, m13, m14, m15, m16, m17, m18, m19, m20, m21, m22, m23, m24, m25, m26, m27, m28, m29, m30, m31, m32, m33, m34, m35, m36, m37, m38, m39, m40, m41, m42, m43, m44, m45, m46, m47, m48, m49, m50, m51, m52, m53, m54, m55, m56, m57, -⟩ := hm
  have m0 : γ 0 1 0 10 = ρ 0 := m0
  have m1 : γ 0 40 0 (ρ 0) = ρ 1 := m1
  have m2 : γ 0 9 (ρ 1) 2 = ρ 2 := m2
  have m3 : γ 0 2 0 6 = ρ 3 := m3
  have m4 : γ 0 2 0 3 = ρ 4 := m4
  have m5 : γ 0 2 0 7 = ρ 5 := m5
  have m6 : γ 0 10 (9 * ρ 1) 8 = ρ 6 := m6
  have m7 : γ 0 10 (9 * ρ 1) 12 = ρ 7 := m7
  have m8 : γ 0 10 (9 * ρ 1) 14 = ρ 8 := m8
  have m9 : γ 0 9 (ρ 1) 3 = ρ 9 := m9
  have m10 : γ 0 1 0 7 = ρ 10 := m10
  have m11 : γ 0 2 0 4 = ρ 11 := m11
  have m12 : γ 0 2 0 5 = ρ 12 := m12
  have m13 : γ 0 2 0 9 = ρ 13 := m13
  have m14 : γ 0 2 0 13 = ρ 14 := m14
  have m15 : γ 0 2 0 16 = ρ 15 := m15
  have m16 : γ 0 3 0 1 = ρ 16 := m16
  have m17 : γ 0 10 (9 * ρ 1) 15 = ρ 17 := m17
  have m18 : γ 1 9 (ρ 1) 2 = ρ 18 := m18
  have m19 : γ 1 2 0 6 = ρ 19 := m19
  have m20 : γ 1 10 (9 * ρ 1) 8 = ρ 6 := m20
  have m21 : γ 1 10 (9 * ρ 1) 12 = ρ 7 := m21
  have m22 : γ 1 9 (ρ 1) 3 = ρ 20 := m22
  have m23 : γ 1 1 0 7 = ρ 21 := m23
  have m24 : γ 1 2 0 4 = ρ 11 := m24
  have m25 : γ 1 2 0 5 = ρ 22 := m25
  have m26 : γ 1 2 0 9 = ρ 23 := m26
  have m27 : γ 1 2 0 13 = ρ 24 := m27
  have m28 : γ 1 2 0 16 = ρ 25 := m28
  have m29 : γ 1 3 0 1 = ρ 26 := m29
  have m30 : γ 1 10 (ρ 18 + 9 * ρ 1 + 1) 4 = ρ 27 := m30
  have m31 : γ 1 10 (ρ 18 + 9 * ρ 1 + 1) 11 = ρ 28 := m31
  have m32 : γ 1 10 (ρ 18 + 9 * ρ 1 + 1) 8 = ρ 29 := m32
  have m33 : γ 1 10 (ρ 18 + 9 * ρ 1 + 1) 5 = ρ 30 := m33
  have m34 : γ 1 10 (ρ 18 + 9 * ρ 1 + 1) 7 = ρ 31 := m34
  have m35 : γ 1 10 (ρ 18 + 9 * ρ 1 + 1) 9 = ρ 32 := m35
  have m36 : γ 1 10 (ρ 18 + 9 * ρ 1 + 1) 12 = ρ 33 := m36
  have m37 : γ 3 2 0 6 = ρ 34 := m37
  have m38 : γ 3 10 (ρ 18 + 9 * ρ 1 + 1) 4 = ρ 35 := m38
  have m39 : γ 3 10 (ρ 18 + 9 * ρ 1 + 1) 11 = ρ 28 := m39
  have m40 : γ 3 10 (ρ 18 + 9 * ρ 1 + 1) 8 = (-1) := m40
  have m41 : γ 3 10 (9 * ρ 1) 8 = ρ 6 := m41
  have m42 : γ 3 10 (9 * ρ 1) 12 = ρ 7 := m42
  have m43 : γ 3 1 0 7 = ρ 21 := m43
  have m44 : γ 3 2 0 4 = ρ 11 := m44
  have m45 : γ 3 2 0 5 = ρ 22 := m45
  have m46 : γ 3 2 0 9 = ρ 36 := m46
  have m47 : γ 3 2 0 13 = ρ 24 := m47
  have m48 : γ 3 2 0 16 = ρ 25 := m48
  have m49 : γ 3 3 0 1 = ρ 37 := m49
  have m50 : γ 3 10 (ρ 18 + 9 * ρ 1 + 1) 5 = ρ 38 := m50
  have m51 : γ 3 10 (ρ 18 + 9 * ρ 1 + 1) 7 = ρ 39 := m51
  have m52 : γ 3 10 (ρ 18 + 9 * ρ 1 + 1) 9 = (-1) := m52
  have m53 : γ 3 10 (ρ 18 + 9 * ρ 1 + 1) 12 = 0 := m53
  have m54 : γ 5 2 0 6 = ρ 41 := m54
  have m55 : γ 3 10 (9 * ρ 1) 5 = ρ 42 := m55
  have m56 : γ 7 2 0 4 = ρ 11 := m56
  have m57 : γ 8 2 0 4 = ρ 11 := m57
  obtain ⟨⟨⟨⟨⟨⟨⟨⟨-, c1⟩, c2⟩, c3⟩, c4⟩, c5⟩, c6⟩, c7⟩, c8⟩ := hc
  have c1 : ∀ (G : Nat) (k j : Int), ¬ rMdP m107_ G j → γ 1 G k j = γ 0 G k j := c1
  have c2 : ∀ (G : Nat) (k j : Int), ¬ rMdP m0_ G j → γ 2 G k j = γ 1 G k j := c2
  have c3 : ∀ (G : Nat) (k j : Int), ¬ rMdP m106_ G j → γ 3 G k j = γ 2 G k j := c3
  have c4 : γ 4 = rUp (γ 3) 9 (ρ 1) 2 (ρ 18 + 1) := c4
  have c5 : ∀ (G : Nat) (k j : Int), ¬ rMdP m77_ G j → γ 5 G k j = γ 4 G k j := c5
  have c6 : γ 6 = rUp (γ 5) 2 0 6 (ρ 41 + 1) := c6
  have c7 : ∀ (G : Nat) (k j : Int), ¬ rMdP m72_ G j → γ 7 G k j = γ 6 G k j := c7
  have c8 : ∀ (G : Nat) (k j : Int), ¬ rMdP m72_ G j → γ 8 G k j = γ 7 G k j := c8
  obtain ⟨l0, l1, l2, l3, l4, -⟩ := hl
  have l0 : sn132 [ρ 1, ρ 18] (γ 1) 0 (ρ 18 + 9 * ρ 1 + 1) (γ 2) := hS132 _ _ _ _ _ l0
  have l1 : sn157 [ρ 0, ρ 1, ρ 18, ρ 19, ρ 4, ρ 27, ρ 28, ρ 29, ρ 5, ρ 6, ρ 7, ρ 21, ρ 11, ρ 22, ρ 23, ρ 24, ρ 25, ρ 26, ρ 30, ρ 31, ρ 32, ρ 33] (γ 2) 0 1 (γ 3) := hS157 _ _ _ _ _ l1
  have l2 : sn114 [ρ 34, ρ 4] (γ 4) 0 (ρ 40) (γ 5) := hS114 _ _ _ _ _ l2
  have l3 : sn153 [9 * ρ 1, ρ 11, ρ 22, ρ 42, ρ 7, ρ 8, ρ 17] (γ 6) 0 1 (γ 7) := hS153 _ _ _ _ _ l3
  have l4 : sn152 [ρ 11, ρ 25] (γ 7) 0 1 (γ 8) := hS152 _ _ _ _ _ l4
  show sn158 [ρ 0, ρ 1, ρ 2, ρ 3, ρ 4, ρ 5, ρ 6, ρ 7, ρ 8, ρ 9, ρ 10, ρ 11, ρ 12, ρ 13, ρ 14, ρ 15, ρ 16, ρ 17] (γ 0) 0 1 (γ 8)
  have hD : en158 (γ 0) (0, [], γ 1) = .inr (0, 1, γ 8) := by
    unfold en158
    refine (if_pos (show (0 : Nat) = 0 by decide)).trans ?_
    refine (zLet_eq (show _ = γ 1 from rfl)).trans ?_
    refine (zLet_eq m0).trans ?_
    refine (zLet_eq m1).trans ?_
    refine (zLet_eq m18).trans ?_
    refine (zLet_eq m22).trans ?_
    refine (if_neg (show ¬ (ρ 18 ≥ 8) by omega)).trans ?_
    refine (zLet_eq (show fn132 [ρ 1, ρ 18] (γ 1) = (0, ρ 18 + 9 * ρ 1 + 1, γ 2) from l0.symm)).trans ?_
    refine (zLet_eq (show _ = γ 2 from rfl)).trans ?_
    refine (zLet_eq (show fn157 [] (γ 2) = (0, 1, γ 3) from l1.symm)).trans ?_
    refine (zLet_eq (show _ = γ 3 from rfl)).trans ?_
    refine (if_pos (show (1 : Int) ≤ 1 by omega)).trans ?_
    refine (if_pos (show 3 ≤ γ 3 10 (ρ 18 + 9 * ρ 1 + 1) 4 by omega)).trans ?_
    refine (if_neg (show ¬ (6 ≤ γ 3 10 (ρ 18 + 9 * ρ 1 + 1) 4) by omega)).trans ?_
    refine (zLet_eq c4.symm).trans ?_
    refine (zLet_eq (show fn114 [] (γ 4) = (0, ρ 40, γ 5) from l2.symm)).trans ?_
    refine (zLet_eq (show _ = γ 5 from rfl)).trans ?_
    refine (if_pos (show (0 : Int) ≤ ρ 40 by omega)).trans ?_
    refine (zLet_eq (show _ = ρ 40 from rfl)).trans ?_
    refine (zLet_eq m54).trans ?_
    refine (if_neg (show ¬ (ρ 40 ≠ 46) by omega)).trans ?_
    refine (zLet_eq c6.symm).trans ?_
    refine (zLet_eq (show fn153 [9 * ρ 1] (γ 6) = (0, 1, γ 7) from l3.symm)).trans ?_
    refine (zLet_eq (show _ = γ 7 from rfl)).trans ?_
    refine (if_pos (show (1 : Int) ≤ 1 by omega)).trans ?_
    refine (zLet_eq (show fn152 [] (γ 7) = (0, 1, γ 8) from l4.symm)).trans ?_
    refine (zLet_eq (show _ = γ 8 from rfl)).trans ?_
    refine (if_pos (show (1 : Int) ≤ 1 by omega)).trans ?_
    rfl
  exact zGoo_aend hJ hD
theorem vn158a0_9 {S : Nat → zSpc} (hS109 : ∀ x g o v gz, S 109 x g o v gz → sn109 x g o v gz) (hS114 : ∀ x g o v gz, S 114 x g o v gz → sn114 x g o v gz) (hS132 : ∀ x g o v gz, S 132 x g o v gz → sn132 x g o v gz) (hS152 : ∀ x g o v gz, S 152 x g o v gz → sn152 x g o v gz) (hS153 : ∀ x g o v gz, S 153 x g o v gz → sn153 x g o v gz) (hS157 : ∀ x g o v gz, S 157 x g o v gz → sn157 x g o v gz) {a : List Int} {g : rHp} : ∀ (ρ : Nat → Int) (γ : Nat → rHp), jn158 a g 0 (zAg (zNA a158_ 0) ρ) (γ 1) → zO 18 S a g q158a0_9 ρ γ → zGl (fun i vs g1 => jn158 a g i vs g1) (sn158 a g) q158a0_9 ρ γ := by
  intro ρ γ hJ h
  obtain ⟨ha, hg, hr, hf, hm, hc, hl⟩ := h
  have ha : a = [ρ 0, ρ 1, ρ 2, ρ 3, ρ 4, ρ 5, ρ 6, ρ 7, ρ 8, ρ 9, ρ 10, ρ 11, ρ 12, ρ 13, ρ 14, ρ 15, ρ 16, ρ 17] := ha
  subst ha
  subst hg
  have hJ : jn158 [ρ 0, ρ 1, ρ 2, ρ 3, ρ 4, ρ 5, ρ 6, ρ 7, ρ 8, ρ 9, ρ 10, ρ 11, ρ 12, ρ 13, ρ 14, ρ 15, ρ 16, ρ 17] (γ 0) 0 [ρ 0, ρ 1, ρ 2, ρ 3, ρ 4, ρ 5, ρ 6, ρ 7, ρ 8, ρ 9, ρ 10, ρ 11, ρ 12, ρ 13, ρ 14, ρ 15, ρ 16, ρ 17, ρ 18, ρ 19, ρ 20, ρ 21, ρ 22, ρ 23, ρ 24, ρ 25, ρ 26] (γ 1) := hJ
  obtain ⟨r0, r1, r2, r3, r4, r5, r6, r7, r8, r9, r10, r11, r12, r13, r14, r15, r16, r17, r18, r19, r20, r21, r22, r23, r24, r25, r26, r27, r28, r29, r30, r31, r32, r33, r34, r35, r36, r37, r38, r39, r40, r41, r42, r43, -⟩ := hr
  have r0 : (0 : Int) ≤ ρ 0 ∧ ρ 0 ≤ 60 := r0
  have r1 : (0 : Int) ≤ ρ 1 ∧ ρ 1 ≤ 60 := r1
  have r2 : (0 : Int) ≤ ρ 2 ∧ ρ 2 ≤ 8 := r2
  have r3 : (0 : Int) ≤ ρ 3 ∧ ρ 3 ≤ 2000 := r3
  have r4 : (0 : Int) ≤ ρ 4 ∧ ρ 4 ≤ 2000 := r4
  have r5 : (0 : Int) ≤ ρ 5 ∧ ρ 5 ≤ 0 := r5
  have r6 : ((-1) : Int) ≤ ρ 6 ∧ ρ 6 ≤ 19 := r6
  have r7 : (0 : Int) ≤ ρ 7 ∧ ρ 7 ≤ 4 := r7
  have r8 : ((-1) : Int) ≤ ρ 8 ∧ ρ 8 ≤ 7 := r8
  have r9 : (0 : Int) ≤ ρ 9 ∧ ρ 9 ≤ 8 := r9
  have r10 : (0 : Int) ≤ ρ 10 ∧ ρ 10 ≤ 20 := r10
  have r11 : ((-2147483648) : Int) ≤ ρ 11 ∧ ρ 11 ≤ 2147483647 := r11
  have r12 : ((-2147483648) : Int) ≤ ρ 12 ∧ ρ 12 ≤ 2147483647 := r12
  have r13 : ((-2147483648) : Int) ≤ ρ 13 ∧ ρ 13 ≤ 2147483647 := r13
  have r14 : (0 : Int) ≤ ρ 14 ∧ ρ 14 ≤ 8 := r14
  have r15 : (0 : Int) ≤ ρ 15 ∧ ρ 15 ≤ 32 := r15
  have r16 : (0 : Int) ≤ ρ 16 ∧ ρ 16 ≤ 5120 := r16
  have r17 : ((-2147483648) : Int) ≤ ρ 17 ∧ ρ 17 ≤ 2147483647 := r17
  have r18 : (0 : Int) ≤ ρ 18 ∧ ρ 18 ≤ 7 := r18
  have r19 : (0 : Int) ≤ ρ 19 ∧ ρ 19 ≤ 2000 := r19
  have r20 : (0 : Int) ≤ ρ 20 ∧ ρ 20 ≤ 8 := r20
  have r21 : (0 : Int) ≤ ρ 21 ∧ ρ 21 ≤ 20 := r21
  have r22 : ((-2147483648) : Int) ≤ ρ 22 ∧ ρ 22 ≤ 2147483647 := r22
  have r23 : ((-2147483648) : Int) ≤ ρ 23 ∧ ρ 23 ≤ 2147483647 := r23
  have r24 : (0 : Int) ≤ ρ 24 ∧ ρ 24 ≤ 8 := r24
  have r25 : (0 : Int) ≤ ρ 25 ∧ ρ 25 ≤ 32 := r25
  have r26 : (0 : Int) ≤ ρ 26 ∧ ρ 26 ≤ 5120 := r26
  have r27 : (0 : Int) ≤ ρ 27 ∧ ρ 27 ≤ 8 := r27
  have r28 : ((-1) : Int) ≤ ρ 28 ∧ ρ 28 ≤ 7 := r28
  have r29 : ((-1) : Int) ≤ ρ 29 ∧ ρ 29 ≤ 19 := r29
  have r30 : (0 : Int) ≤ ρ 30 ∧ ρ 30 ≤ 4 := r30
  have r31 : ((-2147483648) : Int) ≤ ρ 31 ∧ ρ 31 ≤ 2147483647 := r31
  have r32 : ((-1) : Int) ≤ ρ 32 ∧ ρ 32 ≤ 3 := r32
  have r33 : (0 : Int) ≤ ρ 33 ∧ ρ 33 ≤ 4 := r33
  have r34 : (4 : Int) ≤ ρ 34 ∧ ρ 34 ≤ 2000 := r34
  have r35 : (6 : Int) ≤ ρ 35 ∧ ρ 35 ≤ 8 := r35
  have r36 : (0 : Int) ≤ ρ 36 ∧ ρ 36 ≤ 7 := r36
  have r37 : ((-2147483648) : Int) ≤ ρ 37 ∧ ρ 37 ≤ 2147483647 := r37
  have r38 : ((-2147483648) : Int) ≤ ρ 38 ∧ ρ 38 ≤ 2147483647 := r38
  have r39 : (1 : Int) ≤ ρ 39 ∧ ρ 39 ≤ 8 := r39
  have r40 : (0 : Int) ≤ ρ 40 ∧ ρ 40 ≤ 5120 := r40
  have r41 : (1 : Int) ≤ ρ 41 ∧ ρ 41 ≤ 2 := r41
  have r42 : (0 : Int) ≤ ρ 42 ∧ ρ 42 ≤ 1999 := r42
  have r43 : (0 : Int) ≤ ρ 43 ∧ ρ 43 ≤ 2000 := r43
  obtain ⟨f0, f1, f2, f3, f4, f5, f6, f7, f8, f9, f10, f11, f12, f13, f14, f15, f16, f17, f18, f19, f20, -⟩ := hf
  have f0 : (0 : Int) ≤ ρ 43 + -ρ 34 := f0
  have f1 : (0 : Int) ≤ ρ 43 + -ρ 4 := f1
  have f2 : (0 : Int) ≤ -ρ 42 + ρ 34 + (-1) := f2
  have f3 : (0 : Int) ≤ ρ 34 + -ρ 19 + (-1) := f3
  have f4 : (0 : Int) ≤ ρ 39 + -ρ 36 + (-1) := f4
  have f5 : (0 : Int) ≤ ρ 39 + -ρ 24 := f5
  have f6 : (0 : Int) ≤ ρ 40 + -ρ 26 := f6
  have f7 : (0 : Int) ≤ ρ 42 + -ρ 19 := f7
  have f8 : (0 : Int) ≤ -ρ 41 + ρ 4 := f8
  have f9 : (0 : Int) ≤ -ρ 42 + ρ 4 + (-1) := f9
  have f10 : (0 : Int) ≤ -ρ 19 + ρ 4 + (-1) := f10
  have f11 : (0 : Int) ≤ -ρ 32 + ρ 4 := f11
  have f12 : (0 : Int) ≤ -ρ 36 + ρ 24 := f12
  have f13 : (0 : Int) ≤ -ρ 18 + ρ 4 := f13
  have f14 : (0 : Int) ≤ ρ 26 + -ρ 16 := f14
  have f15 : (0 : Int) ≤ ρ 25 + -ρ 15 := f15
  have f16 : (0 : Int) ≤ ρ 24 + -ρ 14 := f16
  have f17 : (0 : Int) ≤ ρ 21 + -ρ 10 := f17
  have f18 : (0 : Int) ≤ ρ 19 + -ρ 3 := f18
  have f19 : (0 : Int) ≤ ρ 19 + -ρ 18 := f19
  have f20 : (0 : Int) ≤ -ρ 20 + ρ 18 := f20
  obtain ⟨m0, m1, m2, m3, m4, m5, m6, m7, m8, m9, m10, m11, m12, m13, m14, m15, m16, m17, m18, m19, m20, m21, m22, m23, m24, m25, m26, m27, m28, m29, m30, m31, m32, m33, m34, m35, m36, m37, m38, m39, m40, m41, m42, m43, m44, m45, m46, m47, m48, m49, m50, m51, m52, m53, m54, m55, -⟩ := hm
  have m0 : γ 0 1 0 10 = ρ 0 := m0
  have m1 : γ 0 40 0 (ρ 0) = ρ 1 := m1
  have m2 : γ 0 9 (ρ 1) 2 = ρ 2 := m2
  have m3 : γ 0 2 0 6 = ρ 3 := m3
  have m4 : γ 0 2 0 3 = ρ 4 := m4
  have m5 : γ 0 2 0 7 = ρ 5 := m5
  have m6 : γ 0 10 (9 * ρ 1) 8 = ρ 6 := m6
  have m7 : γ 0 10 (9 * ρ 1) 12 = ρ 7 := m7
  have m8 : γ 0 10 (9 * ρ 1) 14 = ρ 8 := m8
  have m9 : γ 0 9 (ρ 1) 3 = ρ 9 := m9
  have m10 : γ 0 1 0 7 = ρ 10 := m10
  have m11 : γ 0 2 0 4 = ρ 11 := m11
  have m12 : γ 0 2 0 5 = ρ 12 := m12
  have m13 : γ 0 2 0 9 = ρ 13 := m13
  have m14 : γ 0 2 0 13 = ρ 14 := m14
  have m15 : γ 0 2 0 16 = ρ 15 := m15
  have m16 : γ 0 3 0 1 = ρ 16 := m16
  have m17 : γ 0 10 (9 * ρ 1) 15 = ρ 17 := m17
  have m18 : γ 1 9 (ρ 1) 2 = ρ 18 := m18
  have m19 : γ 1 2 0 6 = ρ 19 := m19
  have m20 : γ 1 10 (9 * ρ 1) 8 = ρ 6 := m20
  have m21 : γ 1 10 (9 * ρ 1) 12 = ρ 7 := m21
  have m22 : γ 1 9 (ρ 1) 3 = ρ 20 := m22
  have m23 : γ 1 1 0 7 = ρ 21 := m23
  have m24 : γ 1 2 0 4 = ρ 11 := m24
  have m25 : γ 1 2 0 5 = ρ 22 := m25
  have m26 : γ 1 2 0 9 = ρ 23 := m26
  have m27 : γ 1 2 0 13 = ρ 24 := m27
  have m28 : γ 1 2 0 16 = ρ 25 := m28
  have m29 : γ 1 3 0 1 = ρ 26 := m29
  have m30 : γ 1 10 (ρ 18 + 9 * ρ 1 + 1) 4 = ρ 27 := m30
  have m31 : γ 1 10 (ρ 18 + 9 * ρ 1 + 1) 11 = ρ 28 := m31
  have m32 : γ 1 10 (ρ 18 + 9 * ρ 1 + 1) 8 = ρ 29 := m32
  have m33 : γ 1 10 (ρ 18 + 9 * ρ 1 + 1) 5 = ρ 30 := m33
  have m34 : γ 1 10 (ρ 18 + 9 * ρ 1 + 1) 7 = ρ 31 := m34
  have m35 : γ 1 10 (ρ 18 + 9 * ρ 1 + 1) 9 = ρ 32 := m35
  have m36 : γ 1 10 (ρ 18 + 9 * ρ 1 + 1) 12 = ρ 33 := m36
  have m37 : γ 3 2 0 6 = ρ 34 := m37
  have m38 : γ 3 10 (ρ 18 + 9 * ρ 1 + 1) 4 = ρ 35 := m38
  have m39 : γ 3 10 (ρ 18 + 9 * ρ 1 + 1) 11 = ρ 36 := m39
  have m40 : γ 3 10 (ρ 18 + 9 * ρ 1 + 1) 8 = (-1) := m40
  have m41 : γ 3 10 (9 * ρ 1) 8 = ρ 6 := m41
  have m42 : γ 3 10 (9 * ρ 1) 12 = ρ 7 := m42
  have m43 : γ 3 1 0 7 = ρ 21 := m43
  have m44 : γ 3 2 0 4 = ρ 11 := m44
  have m45 : γ 3 2 0 5 = ρ 37 := m45
  have m46 : γ 3 2 0 9 = ρ 38 := m46
  have m47 : γ 3 2 0 13 = ρ 39 := m47
  have m48 : γ 3 2 0 16 = ρ 25 := m48
  have m49 : γ 3 3 0 1 = ρ 40 := m49
  have m50 : γ 3 10 (ρ 18 + 9 * ρ 1 + 1) 5 = ρ 41 := m50
  have m51 : γ 3 10 (ρ 18 + 9 * ρ 1 + 1) 7 = ρ 42 := m51
  have m52 : γ 3 10 (ρ 18 + 9 * ρ 1 + 1) 9 = (-1) := m52
  have m53 : γ 3 10 (ρ 18 + 9 * ρ 1 + 1) 12 = 0 := m53
  have m54 : γ 5 2 0 6 = ρ 43 := m54
  have m55 : γ 6 2 0 4 = ρ 43 := m55
  obtain ⟨⟨⟨⟨⟨⟨-, c1⟩, c2⟩, c3⟩, c4⟩, c5⟩, c6⟩ := hc
  have c1 : ∀ (G : Nat) (k j : Int), ¬ rMdP m107_ G j → γ 1 G k j = γ 0 G k j := c1
  have c2 : ∀ (G : Nat) (k j : Int), ¬ rMdP m0_ G j → γ 2 G k j = γ 1 G k j := c2
  have c3 : ∀ (G : Nat) (k j : Int), ¬ rMdP m106_ G j → γ 3 G k j = γ 2 G k j := c3
  have c4 : γ 4 = rUp (γ 3) 9 (ρ 1) 2 (ρ 18 + 1) := c4
  have c5 : ∀ (G : Nat) (k j : Int), ¬ rMdP m77_ G j → γ 5 G k j = γ 4 G k j := c5
  have c6 : ∀ (G : Nat) (k j : Int), ¬ rMdP m72_ G j → γ 6 G k j = γ 5 G k j := c6
  obtain ⟨l0, l1, l2, l3, -⟩ := hl
  have l0 : sn132 [ρ 1, ρ 18] (γ 1) 0 (ρ 18 + 9 * ρ 1 + 1) (γ 2) := hS132 _ _ _ _ _ l0
  have l1 : sn157 [ρ 0, ρ 1, ρ 18, ρ 19, ρ 4, ρ 27, ρ 28, ρ 29, ρ 5, ρ 6, ρ 7, ρ 21, ρ 11, ρ 22, ρ 23, ρ 24, ρ 25, ρ 26, ρ 30, ρ 31, ρ 32, ρ 33] (γ 2) 0 1 (γ 3) := hS157 _ _ _ _ _ l1
  have l2 : sn114 [ρ 34, ρ 4] (γ 4) 0 (-1) (γ 5) := hS114 _ _ _ _ _ l2
  have l3 : sn109 [ρ 43, ρ 11] (γ 5) 0 0 (γ 6) := hS109 _ _ _ _ _ l3
  show sn158 [ρ 0, ρ 1, ρ 2, ρ 3, ρ 4, ρ 5, ρ 6, ρ 7, ρ 8, ρ 9, ρ 10, ρ 11, ρ 12, ρ 13, ρ 14, ρ 15, ρ 16, ρ 17] (γ 0) 0 0 (γ 6)
  have hD : en158 (γ 0) (0, [], γ 1) = .inr (0, 0, γ 6) := by
    unfold en158
    refine (if_pos (show (0 : Nat) = 0 by decide)).trans ?_
    refine (zLet_eq (show _ = γ 1 from rfl)).trans ?_
    refine (zLet_eq m0).trans ?_
    refine (zLet_eq m1).trans ?_
    refine (zLet_eq m18).trans ?_
    refine (zLet_eq m22).trans ?_
    refine (if_neg (show ¬ (ρ 18 ≥ 8) by omega)).trans ?_
    refine (zLet_eq (show fn132 [ρ 1, ρ 18] (γ 1) = (0, ρ 18 + 9 * ρ 1 + 1, γ 2) from l0.symm)).trans ?_
    refine (zLet_eq (show _ = γ 2 from rfl)).trans ?_
    refine (zLet_eq (show fn157 [] (γ 2) = (0, 1, γ 3) from l1.symm)).trans ?_
    refine (zLet_eq (show _ = γ 3 from rfl)).trans ?_
    refine (if_pos (show (1 : Int) ≤ 1 by omega)).trans ?_
    refine (if_pos (show 3 ≤ γ 3 10 (ρ 18 + 9 * ρ 1 + 1) 4 by omega)).trans ?_
    refine (if_pos (show 6 ≤ γ 3 10 (ρ 18 + 9 * ρ 1 + 1) 4 by omega)).trans ?_
    refine (zLet_eq c4.symm).trans ?_
    refine (zLet_eq (show fn114 [] (γ 4) = (0, (-1), γ 5) from l2.symm)).trans ?_
    refine (zLet_eq (show _ = γ 5 from rfl)).trans ?_
    refine (if_neg (show ¬ ((0 : Int) ≤ (-1)) by omega)).trans ?_
    refine (zLet_eq m54).trans ?_
    refine (zLet_eq (show fn109 [ρ 43] (γ 5) = (0, 0, γ 6) from l3.symm)).trans ?_
    refine (zLet_eq (show _ = γ 6 from rfl)).trans ?_
    rfl
  exact zGoo_aend hJ hD
theorem vn158a0_10 {S : Nat → zSpc} (hS109 : ∀ x g o v gz, S 109 x g o v gz → sn109 x g o v gz) (hS114 : ∀ x g o v gz, S 114 x g o v gz → sn114 x g o v gz) (hS132 : ∀ x g o v gz, S 132 x g o v gz → sn132 x g o v gz) (hS152 : ∀ x g o v gz, S 152 x g o v gz → sn152 x g o v gz) (hS153 : ∀ x g o v gz, S 153 x g o v gz → sn153 x g o v gz) (hS157 : ∀ x g o v gz, S 157 x g o v gz → sn157 x g o v gz) {a : List Int} {g : rHp} : ∀ (ρ : Nat → Int) (γ : Nat → rHp), jn158 a g 0 (zAg (zNA a158_ 0) ρ) (γ 1) → zO 18 S a g q158a0_10 ρ γ → zGl (fun i vs g1 => jn158 a g i vs g1) (sn158 a g) q158a0_10 ρ γ := by
  intro ρ γ hJ h
  obtain ⟨ha, hg, hr, hf, hm, hc, hl⟩ := h
  have ha : a = [ρ 0, ρ 1, ρ 2, ρ 3, ρ 4, ρ 5, ρ 6, ρ 7, ρ 8, ρ 9, ρ 10, ρ 11, ρ 12, ρ 13, ρ 14, ρ 15, ρ 16, ρ 17] := ha
  subst ha
  subst hg
  have hJ : jn158 [ρ 0, ρ 1, ρ 2, ρ 3, ρ 4, ρ 5, ρ 6, ρ 7, ρ 8, ρ 9, ρ 10, ρ 11, ρ 12, ρ 13, ρ 14, ρ 15, ρ 16, ρ 17] (γ 0) 0 [ρ 0, ρ 1, ρ 2, ρ 3, ρ 4, ρ 5, ρ 6, ρ 7, ρ 8, ρ 9, ρ 10, ρ 11, ρ 12, ρ 13, ρ 14, ρ 15, ρ 16, ρ 17, ρ 18, ρ 19, ρ 20, ρ 21, ρ 22, ρ 23, ρ 24, ρ 25, ρ 26] (γ 1) := hJ
  obtain ⟨r0, r1, r2, r3, r4, r5, r6, r7, r8, r9, r10, r11, r12, r13, r14, r15, r16, r17, r18, r19, r20, r21, r22, r23, r24, r25, r26, r27, r28, r29, r30, r31, r32, r33, r34, r35, r36, r37, r38, r39, r40, r41, r42, r43, r44, -⟩ := hr
  have r0 : (0 : Int) ≤ ρ 0 ∧ ρ 0 ≤ 60 := r0
  have r1 : (0 : Int) ≤ ρ 1 ∧ ρ 1 ≤ 60 := r1
  have r2 : (0 : Int) ≤ ρ 2 ∧ ρ 2 ≤ 8 := r2
  have r3 : (0 : Int) ≤ ρ 3 ∧ ρ 3 ≤ 2000 := r3
  have r4 : (0 : Int) ≤ ρ 4 ∧ ρ 4 ≤ 2000 := r4
  have r5 : (0 : Int) ≤ ρ 5 ∧ ρ 5 ≤ 0 := r5
  have r6 : ((-1) : Int) ≤ ρ 6 ∧ ρ 6 ≤ 19 := r6
  have r7 : (0 : Int) ≤ ρ 7 ∧ ρ 7 ≤ 4 := r7
  have r8 : ((-1) : Int) ≤ ρ 8 ∧ ρ 8 ≤ 7 := r8
  have r9 : (0 : Int) ≤ ρ 9 ∧ ρ 9 ≤ 8 := r9
  have r10 : (0 : Int) ≤ ρ 10 ∧ ρ 10 ≤ 20 := r10
  have r11 : ((-2147483648) : Int) ≤ ρ 11 ∧ ρ 11 ≤ 2147483647 := r11
  have r12 : ((-2147483648) : Int) ≤ ρ 12 ∧ ρ 12 ≤ 2147483647 := r12
  have r13 : ((-2147483648) : Int) ≤ ρ 13 ∧ ρ 13 ≤ 2147483647 := r13
  have r14 : (0 : Int) ≤ ρ 14 ∧ ρ 14 ≤ 8 := r14
  have r15 : (0 : Int) ≤ ρ 15 ∧ ρ 15 ≤ 32 := r15
  have r16 : (0 : Int) ≤ ρ 16 ∧ ρ 16 ≤ 5120 := r16
  have r17 : ((-2147483648) : Int) ≤ ρ 17 ∧ ρ 17 ≤ 2147483647 := r17
  have r18 : (0 : Int) ≤ ρ 18 ∧ ρ 18 ≤ 7 := r18
  have r19 : (0 : Int) ≤ ρ 19 ∧ ρ 19 ≤ 2000 := r19
  have r20 : (0 : Int) ≤ ρ 20 ∧ ρ 20 ≤ 8 := r20
  have r21 : (0 : Int) ≤ ρ 21 ∧ ρ 21 ≤ 20 := r21
  have r22 : ((-2147483648) : Int) ≤ ρ 22 ∧ ρ 22 ≤ 2147483647 := r22
  have r23 : ((-2147483648) : Int) ≤ ρ 23 ∧ ρ 23 ≤ 2147483647 := r23
  have r24 : (0 : Int) ≤ ρ 24 ∧ ρ 24 ≤ 8 := r24
  have r25 : (0 : Int) ≤ ρ 25 ∧ ρ 25 ≤ 32 := r25
  have r26 : (0 : Int) ≤ ρ 26 ∧ ρ 26 ≤ 5120 := r26
  have r27 : (0 : Int) ≤ ρ 27 ∧ ρ 27 ≤ 8 := r27
  have r28 : ((-1) : Int) ≤ ρ 28 ∧ ρ 28 ≤ 7 := r28
  have r29 : ((-1) : Int) ≤ ρ 29 ∧ ρ 29 ≤ 19 := r29
  have r30 : (0 : Int) ≤ ρ 30 ∧ ρ 30 ≤ 4 := r30
  have r31 : ((-2147483648) : Int) ≤ ρ 31 ∧ ρ 31 ≤ 2147483647 := r31
  have r32 : ((-1) : Int) ≤ ρ 32 ∧ ρ 32 ≤ 3 := r32
  have r33 : (0 : Int) ≤ ρ 33 ∧ ρ 33 ≤ 4 := r33
  have r34 : (4 : Int) ≤ ρ 34 ∧ ρ 34 ≤ 2000 := r34
  have r35 : (6 : Int) ≤ ρ 35 ∧ ρ 35 ≤ 8 := r35
  have r36 : (0 : Int) ≤ ρ 36 ∧ ρ 36 ≤ 7 := r36
  have r37 : ((-2147483648) : Int) ≤ ρ 37 ∧ ρ 37 ≤ 2147483647 := r37
  have r38 : ((-2147483648) : Int) ≤ ρ 38 ∧ ρ 38 ≤ 2147483647 := r38
  have r39 : (1 : Int) ≤ ρ 39 ∧ ρ 39 ≤ 8 := r39
  have r40 : (0 : Int) ≤ ρ 40 ∧ ρ 40 ≤ 5120 := r40
  have r41 : (1 : Int) ≤ ρ 41 ∧ ρ 41 ≤ 2 := r41
  have r42 : (0 : Int) ≤ ρ 42 ∧ ρ 42 ≤ 1999 := r42
  have r43 : (44 : Int) ≤ ρ 43 ∧ ρ 43 ≤ 44 := r43
  have r44 : (0 : Int) ≤ ρ 44 ∧ ρ 44 ≤ 2000 := r44
  obtain ⟨f0, f1, f2, f3, f4, f5, f6, f7, f8, f9, f10, f11, f12, f13, f14, f15, f16, f17, f18, f19, f20, f21, -⟩ := hf
  have f0 : (0 : Int) ≤ ρ 44 + -ρ 34 := f0
  have f1 : (0 : Int) ≤ -ρ 44 + ρ 4 + (-1) := f1
  have f2 : (0 : Int) ≤ -ρ 34 + ρ 4 + (-1) := f2
  have f3 : (0 : Int) ≤ -ρ 42 + ρ 34 + (-1) := f3
  have f4 : (0 : Int) ≤ ρ 34 + -ρ 19 + (-1) := f4
  have f5 : (0 : Int) ≤ ρ 39 + -ρ 36 + (-1) := f5
  have f6 : (0 : Int) ≤ ρ 39 + -ρ 24 := f6
  have f7 : (0 : Int) ≤ ρ 40 + -ρ 26 := f7
  have f8 : (0 : Int) ≤ ρ 42 + -ρ 19 := f8
  have f9 : (0 : Int) ≤ -ρ 41 + ρ 4 := f9
  have f10 : (0 : Int) ≤ -ρ 42 + ρ 4 + (-1) := f10
  have f11 : (0 : Int) ≤ -ρ 19 + ρ 4 + (-1) := f11
  have f12 : (0 : Int) ≤ -ρ 32 + ρ 4 := f12
  have f13 : (0 : Int) ≤ -ρ 36 + ρ 24 := f13
  have f14 : (0 : Int) ≤ -ρ 18 + ρ 4 := f14
  have f15 : (0 : Int) ≤ ρ 26 + -ρ 16 := f15
  have f16 : (0 : Int) ≤ ρ 25 + -ρ 15 := f16
  have f17 : (0 : Int) ≤ ρ 24 + -ρ 14 := f17
  have f18 : (0 : Int) ≤ ρ 21 + -ρ 10 := f18
  have f19 : (0 : Int) ≤ ρ 19 + -ρ 3 := f19
  have f20 : (0 : Int) ≤ ρ 19 + -ρ 18 := f20
  have f21 : (0 : Int) ≤ -ρ 20 + ρ 18 := f21
  obtain ⟨m0, m1, m2, m3, m4, m5, m6, m7, m8, m9, m10, m11, m12, m13, m14, m15, m16, m17, m18, m19, m20, m21, m22, m23, m24, m25, m26, m27, m28, m29, m30, m31, m32, m33, m34, m35, m36, m37, m38, m39, m40, m41, m42, m43, m44, m45, m46, m47, m48, m49, m50, m51, m52, m53, m54, -⟩ := hm
  have m0 : γ 0 1 0 10 = ρ 0 := m0
  have m1 : γ 0 40 0 (ρ 0) = ρ 1 := m1
  have m2 : γ 0 9 (ρ 1) 2 = ρ 2 := m2
  have m3 : γ 0 2 0 6 = ρ 3 := m3
  have m4 : γ 0 2 0 3 = ρ 4 := m4
  have m5 : γ 0 2 0 7 = ρ 5 := m5
  have m6 : γ 0 10 (9 * ρ 1) 8 = ρ 6 := m6
  have m7 : γ 0 10 (9 * ρ 1) 12 = ρ 7 := m7
  have m8 : γ 0 10 (9 * ρ 1) 14 = ρ 8 := m8
  have m9 : γ 0 9 (ρ 1) 3 = ρ 9 := m9
  have m10 : γ 0 1 0 7 = ρ 10 := m10
  have m11 : γ 0 2 0 4 = ρ 11 := m11
  have m12 : γ 0 2 0 5 = ρ 12 := m12
  have m13 : γ 0 2 0 9 = ρ 13 := m13
  have m14 : γ 0 2 0 13 = ρ 14 := m14
  have m15 : γ 0 2 0 16 = ρ 15 := m15
  have m16 : γ 0 3 0 1 = ρ 16 := m16
  have m17 : γ 0 10 (9 * ρ 1) 15 = ρ 17 := m17
  have m18 : γ 1 9 (ρ 1) 2 = ρ 18 := m18
  have m19 : γ 1 2 0 6 = ρ 19 := m19
  have m20 : γ 1 10 (9 * ρ 1) 8 = ρ 6 := m20
  have m21 : γ 1 10 (9 * ρ 1) 12 = ρ 7 := m21
  have m22 : γ 1 9 (ρ 1) 3 = ρ 20 := m22
  have m23 : γ 1 1 0 7 = ρ 21 := m23
  have m24 : γ 1 2 0 4 = ρ 11 := m24
  have m25 : γ 1 2 0 5 = ρ 22 := m25
  have m26 : γ 1 2 0 9 = ρ 23 := m26
  have m27 : γ 1 2 0 13 = ρ 24 := m27
  have m28 : γ 1 2 0 16 = ρ 25 := m28
  have m29 : γ 1 3 0 1 = ρ 26 := m29
  have m30 : γ 1 10 (ρ 18 + 9 * ρ 1 + 1) 4 = ρ 27 := m30
  have m31 : γ 1 10 (ρ 18 + 9 * ρ 1 + 1) 11 = ρ 28 := m31
  have m32 : γ 1 10 (ρ 18 + 9 * ρ 1 + 1) 8 = ρ 29 := m32
  have m33 : γ 1 10 (ρ 18 + 9 * ρ 1 + 1) 5 = ρ 30 := m33
  have m34 : γ 1 10 (ρ 18 + 9 * ρ 1 + 1) 7 = ρ 31 := m34
  have m35 : γ 1 10 (ρ 18 + 9 * ρ 1 + 1) 9 = ρ 32 := m35
  have m36 : γ 1 10 (ρ 18 + 9 * ρ 1 + 1) 12 = ρ 33 := m36
  have m37 : γ 3 2 0 6 = ρ 34 := m37
  have m38 : γ 3 10 (ρ 18 + 9 * ρ 1 + 1) 4 = ρ 35 := m38
  have m39 : γ 3 10 (ρ 18 + 9 * ρ 1 + 1) 11 = ρ 36 := m39
  have m40 : γ 3 10 (ρ 18 + 9 * ρ 1 + 1) 8 = (-1) := m40
  have m41 : γ 3 10 (9 * ρ 1) 8 = ρ 6 := m41
  have m42 : γ 3 10 (9 * ρ 1) 12 = ρ 7 := m42
  have m43 : γ 3 1 0 7 = ρ 21 := m43
  have m44 : γ 3 2 0 4 = ρ 11 := m44
  have m45 : γ 3 2 0 5 = ρ 37 := m45
  have m46 : γ 3 2 0 9 = ρ 38 := m46
  have m47 : γ 3 2 0 13 = ρ 39 := m47
  have m48 : γ 3 2 0 16 = ρ 25 := m48
  have m49 : γ 3 3 0 1 = ρ 40 := m49
  have m50 : γ 3 10 (ρ 18 + 9 * ρ 1 + 1) 5 = ρ 41 := m50
  have m51 : γ 3 10 (ρ 18 + 9 * ρ 1 + 1) 7 = ρ 42 := m51
  have m52 : γ 3 10 (ρ 18 + 9 * ρ 1 + 1) 9 = (-1) := m52
  have m53 : γ 3 10 (ρ 18 + 9 * ρ 1 + 1) 12 = 0 := m53
  have m54 : γ 5 2 0 6 = ρ 44 := m54
  obtain ⟨⟨⟨⟨⟨⟨-, c1⟩, c2⟩, c3⟩, c4⟩, c5⟩, c6⟩ := hc
  have c1 : ∀ (G : Nat) (k j : Int), ¬ rMdP m107_ G j → γ 1 G k j = γ 0 G k j := c1
  have c2 : ∀ (G : Nat) (k j : Int), ¬ rMdP m0_ G j → γ 2 G k j = γ 1 G k j := c2
  have c3 : ∀ (G : Nat) (k j : Int), ¬ rMdP m106_ G j → γ 3 G k j = γ 2 G k j := c3
  have c4 : γ 4 = rUp (γ 3) 9 (ρ 1) 2 (ρ 18 + 1) := c4
  have c5 : ∀ (G : Nat) (k j : Int), ¬ rMdP m77_ G j → γ 5 G k j = γ 4 G k j := c5
  have c6 : γ 6 = rUp (γ 5) 2 0 6 (ρ 44 + 1) := c6
  obtain ⟨l0, l1, l2, l3, -⟩ := hl
  have l0 : sn132 [ρ 1, ρ 18] (γ 1) 0 (ρ 18 + 9 * ρ 1 + 1) (γ 2) := hS132 _ _ _ _ _ l0
  have l1 : sn157 [ρ 0, ρ 1, ρ 18, ρ 19, ρ 4, ρ 27, ρ 28, ρ 29, ρ 5, ρ 6, ρ 7, ρ 21, ρ 11, ρ 22, ρ 23, ρ 24, ρ 25, ρ 26, ρ 30, ρ 31, ρ 32, ρ 33] (γ 2) 0 1 (γ 3) := hS157 _ _ _ _ _ l1
  have l2 : sn114 [ρ 34, ρ 4] (γ 4) 0 (ρ 43) (γ 5) := hS114 _ _ _ _ _ l2
  have l3 : ρ 43 ≠ 46 := l3
  show jn158 [ρ 0, ρ 1, ρ 2, ρ 3, ρ 4, ρ 5, ρ 6, ρ 7, ρ 8, ρ 9, ρ 10, ρ 11, ρ 12, ρ 13, ρ 14, ρ 15, ρ 16, ρ 17] (γ 0) 0 [ρ 0, ρ 1, ρ 2, ρ 3, ρ 4, ρ 5, ρ 6, ρ 7, ρ 8, ρ 9, ρ 10, ρ 11, ρ 12, ρ 13, ρ 14, ρ 15, ρ 16, ρ 17, ρ 18 + 1, ρ 44 + 1, ρ 20, ρ 21, ρ 37, ρ 38, ρ 39, ρ 25, ρ 40] (γ 6)
  have hD : en158 (γ 0) (0, [], γ 1) = .inl (0, [], γ 6) := by
    unfold en158
    refine (if_pos (show (0 : Nat) = 0 by decide)).trans ?_
    refine (zLet_eq (show _ = γ 1 from rfl)).trans ?_
    refine (zLet_eq m0).trans ?_
    refine (zLet_eq m1).trans ?_
    refine (zLet_eq m18).trans ?_
    refine (zLet_eq m22).trans ?_
    refine (if_neg (show ¬ (ρ 18 ≥ 8) by omega)).trans ?_
    refine (zLet_eq (show fn132 [ρ 1, ρ 18] (γ 1) = (0, ρ 18 + 9 * ρ 1 + 1, γ 2) from l0.symm)).trans ?_
    refine (zLet_eq (show _ = γ 2 from rfl)).trans ?_
    refine (zLet_eq (show fn157 [] (γ 2) = (0, 1, γ 3) from l1.symm)).trans ?_
    refine (zLet_eq (show _ = γ 3 from rfl)).trans ?_
    refine (if_pos (show (1 : Int) ≤ 1 by omega)).trans ?_
    refine (if_pos (show 3 ≤ γ 3 10 (ρ 18 + 9 * ρ 1 + 1) 4 by omega)).trans ?_
    refine (if_pos (show 6 ≤ γ 3 10 (ρ 18 + 9 * ρ 1 + 1) 4 by omega)).trans ?_
    refine (zLet_eq c4.symm).trans ?_
    refine (zLet_eq (show fn114 [] (γ 4) = (0, ρ 43, γ 5) from l2.symm)).trans ?_
    refine (zLet_eq (show _ = γ 5 from rfl)).trans ?_
    refine (if_pos (show (0 : Int) ≤ ρ 43 by omega)).trans ?_
    refine (zLet_eq (show _ = ρ 43 from rfl)).trans ?_
    refine (zLet_eq m54).trans ?_
    refine (if_pos (show ρ 43 ≠ 46 by omega)).trans ?_
    refine (if_pos (show ρ 43 = 44 by omega)).trans ?_
    refine (zLet_eq c6.symm).trans ?_
    rfl
  exact zGoo_ato hJ hD
theorem vn158a0_11 {S : Nat → zSpc} (hS109 : ∀ x g o v gz, S 109 x g o v gz → sn109 x g o v gz) (hS114 : ∀ x g o v gz, S 114 x g o v gz → sn114 x g o v gz) (hS132 : ∀ x g o v gz, S 132 x g o v gz → sn132 x g o v gz) (hS152 : ∀ x g o v gz, S 152 x g o v gz → sn152 x g o v gz) (hS153 : ∀ x g o v gz, S 153 x g o v gz → sn153 x g o v gz) (hS157 : ∀ x g o v gz, S 157 x g o v gz → sn157 x g o v gz) {a : List Int} {g : rHp} : ∀ (ρ : Nat → Int) (γ : Nat → rHp), jn158 a g 0 (zAg (zNA a158_ 0) ρ) (γ 1) → zO 18 S a g q158a0_11 ρ γ → zGl (fun i vs g1 => jn158 a g i vs g1) (sn158 a g) q158a0_11 ρ γ := by
  intro ρ γ hJ h
  obtain ⟨ha, hg, hr, hf, hm, hc, hl⟩ := h
  have ha : a = [ρ 0, ρ 1, ρ 2, ρ 3, ρ 4, ρ 5, ρ 6, ρ 7, ρ 8, ρ 9, ρ 10, ρ 11, ρ 12, ρ 13, ρ 14, ρ 15, ρ 16, ρ 17] := ha
  subst ha
  subst hg
  have hJ : jn158 [ρ 0, ρ 1, ρ 2, ρ 3, ρ 4, ρ 5, ρ 6, ρ 7, ρ 8, ρ 9, ρ 10, ρ 11, ρ 12, ρ 13, ρ 14, ρ 15, ρ 16, ρ 17] (γ 0) 0 [ρ 0, ρ 1, ρ 2, ρ 3, ρ 4, ρ 5, ρ 6, ρ 7, ρ 8, ρ 9, ρ 10, ρ 11, ρ 12, ρ 13, ρ 14, ρ 15, ρ 16, ρ 17, ρ 18, ρ 19, ρ 20, ρ 21, ρ 22, ρ 23, ρ 24, ρ 25, ρ 26] (γ 1) := hJ
  obtain ⟨r0, r1, r2, r3, r4, r5, r6, r7, r8, r9, r10, r11, r12, r13, r14, r15, r16, r17, r18, r19, r20, r21, r22, r23, r24, r25, r26, r27, r28, r29, r30, r31, r32, r33, r34, r35, r36, r37, r38, r39, r40, r41, r42, r43, r44, -⟩ := hr
  have r0 : (0 : Int) ≤ ρ 0 ∧ ρ 0 ≤ 60 := r0
  have r1 : (0 : Int) ≤ ρ 1 ∧ ρ 1 ≤ 60 := r1
  have r2 : (0 : Int) ≤ ρ 2 ∧ ρ 2 ≤ 8 := r2
  have r3 : (0 : Int) ≤ ρ 3 ∧ ρ 3 ≤ 2000 := r3
  have r4 : (0 : Int) ≤ ρ 4 ∧ ρ 4 ≤ 2000 := r4
  have r5 : (0 : Int) ≤ ρ 5 ∧ ρ 5 ≤ 0 := r5
  have r6 : ((-1) : Int) ≤ ρ 6 ∧ ρ 6 ≤ 19 := r6
  have r7 : (0 : Int) ≤ ρ 7 ∧ ρ 7 ≤ 4 := r7
  have r8 : ((-1) : Int) ≤ ρ 8 ∧ ρ 8 ≤ 7 := r8
  have r9 : (0 : Int) ≤ ρ 9 ∧ ρ 9 ≤ 8 := r9
  have r10 : (0 : Int) ≤ ρ 10 ∧ ρ 10 ≤ 20 := r10
  have r11 : ((-2147483648) : Int) ≤ ρ 11 ∧ ρ 11 ≤ 2147483647 := r11
  have r12 : ((-2147483648) : Int) ≤ ρ 12 ∧ ρ 12 ≤ 2147483647 := r12
  have r13 : ((-2147483648) : Int) ≤ ρ 13 ∧ ρ 13 ≤ 2147483647 := r13
  have r14 : (0 : Int) ≤ ρ 14 ∧ ρ 14 ≤ 8 := r14
  have r15 : (0 : Int) ≤ ρ 15 ∧ ρ 15 ≤ 32 := r15
  have r16 : (0 : Int) ≤ ρ 16 ∧ ρ 16 ≤ 5120 := r16
  have r17 : ((-2147483648) : Int) ≤ ρ 17 ∧ ρ 17 ≤ 2147483647 := r17
  have r18 : (0 : Int) ≤ ρ 18 ∧ ρ 18 ≤ 7 := r18
  have r19 : (0 : Int) ≤ ρ 19 ∧ ρ 19 ≤ 2000 := r19
  have r20 : (0 : Int) ≤ ρ 20 ∧ ρ 20 ≤ 8 := r20
  have r21 : (0 : Int) ≤ ρ 21 ∧ ρ 21 ≤ 20 := r21
  have r22 : ((-2147483648) : Int) ≤ ρ 22 ∧ ρ 22 ≤ 2147483647 := r22
  have r23 : ((-2147483648) : Int) ≤ ρ 23 ∧ ρ 23 ≤ 2147483647 := r23
  have r24 : (0 : Int) ≤ ρ 24 ∧ ρ 24 ≤ 8 := r24
  have r25 : (0 : Int) ≤ ρ 25 ∧ ρ 25 ≤ 32 := r25
  have r26 : (0 : Int) ≤ ρ 26 ∧ ρ 26 ≤ 5120 := r26
  have r27 : (0 : Int) ≤ ρ 27 ∧ ρ 27 ≤ 8 := r27
  have r28 : ((-1) : Int) ≤ ρ 28 ∧ ρ 28 ≤ 7 := r28
  have r29 : ((-1) : Int) ≤ ρ 29 ∧ ρ 29 ≤ 19 := r29
  have r30 : (0 : Int) ≤ ρ 30 ∧ ρ 30 ≤ 4 := r30
  have r31 : ((-2147483648) : Int) ≤ ρ 31 ∧ ρ 31 ≤ 2147483647 := r31
  have r32 : ((-1) : Int) ≤ ρ 32 ∧ ρ 32 ≤ 3 := r32
  have r33 : (0 : Int) ≤ ρ 33 ∧ ρ 33 ≤ 4 := r33
  have r34 : (4 : Int) ≤ ρ 34 ∧ ρ 34 ≤ 2000 := r34
  have r35 : (6 : Int) ≤ ρ 35 ∧ ρ 35 ≤ 8 := r35
  have r36 : (0 : Int) ≤ ρ 36 ∧ ρ 36 ≤ 7 := r36
  have r37 : ((-2147483648) : Int) ≤ ρ 37 ∧ ρ 37 ≤ 2147483647 := r37
  have r38 : ((-2147483648) : Int) ≤ ρ 38 ∧ ρ 38 ≤ 2147483647 := r38
  have r39 : (1 : Int) ≤ ρ 39 ∧ ρ 39 ≤ 8 := r39
  have r40 : (0 : Int) ≤ ρ 40 ∧ ρ 40 ≤ 5120 := r40
  have r41 : (1 : Int) ≤ ρ 41 ∧ ρ 41 ≤ 2 := r41
  have r42 : (0 : Int) ≤ ρ 42 ∧ ρ 42 ≤ 1999 := r42
  have r43 : (0 : Int) ≤ ρ 43 ∧ ρ 43 ≤ 255 := r43
  have r44 : (0 : Int) ≤ ρ 44 ∧ ρ 44 ≤ 2000 := r44
  obtain ⟨f0, f1, f2, f3, f4, f5, f6, f7, f8, f9, f10, f11, f12, f13, f14, f15, f16, f17, f18, f19, f20, f21, -⟩ := hf
  have f0 : (0 : Int) ≤ ρ 44 + -ρ 34 := f0
  have f1 : (0 : Int) ≤ -ρ 44 + ρ 4 + (-1) := f1
  have f2 : (0 : Int) ≤ -ρ 34 + ρ 4 + (-1) := f2
  have f3 : (0 : Int) ≤ -ρ 42 + ρ 34 + (-1) := f3
  have f4 : (0 : Int) ≤ ρ 34 + -ρ 19 + (-1) := f4
  have f5 : (0 : Int) ≤ ρ 39 + -ρ 36 + (-1) := f5
  have f6 : (0 : Int) ≤ ρ 39 + -ρ 24 := f6
  have f7 : (0 : Int) ≤ ρ 40 + -ρ 26 := f7
  have f8 : (0 : Int) ≤ ρ 42 + -ρ 19 := f8
  have f9 : (0 : Int) ≤ -ρ 41 + ρ 4 := f9
  have f10 : (0 : Int) ≤ -ρ 42 + ρ 4 + (-1) := f10
  have f11 : (0 : Int) ≤ -ρ 19 + ρ 4 + (-1) := f11
  have f12 : (0 : Int) ≤ -ρ 32 + ρ 4 := f12
  have f13 : (0 : Int) ≤ -ρ 36 + ρ 24 := f13
  have f14 : (0 : Int) ≤ -ρ 18 + ρ 4 := f14
  have f15 : (0 : Int) ≤ ρ 26 + -ρ 16 := f15
  have f16 : (0 : Int) ≤ ρ 25 + -ρ 15 := f16
  have f17 : (0 : Int) ≤ ρ 24 + -ρ 14 := f17
  have f18 : (0 : Int) ≤ ρ 21 + -ρ 10 := f18
  have f19 : (0 : Int) ≤ ρ 19 + -ρ 3 := f19
  have f20 : (0 : Int) ≤ ρ 19 + -ρ 18 := f20
  have f21 : (0 : Int) ≤ -ρ 20 + ρ 18 := f21
  obtain ⟨m0, m1, m2, m3, m4, m5, m6, m7, m8, m9, m10, m11, m12, m13, m14, m15, m16, m17, m18, m19, m20, m21, m22, m23, m24, m25, m26, m27, m28, m29, m30, m31, m32, m33, m34, m35, m36, m37, m38, m39, m40, m41, m42, m43, m44, m45, m46, m47, m48, m49, m50, m51, m52, m53, m54, m55, -⟩ := hm
  have m0 : γ 0 1 0 10 = ρ 0 := m0
  have m1 : γ 0 40 0 (ρ 0) = ρ 1 := m1
  have m2 : γ 0 9 (ρ 1) 2 = ρ 2 := m2
  have m3 : γ 0 2 0 6 = ρ 3 := m3
  have m4 : γ 0 2 0 3 = ρ 4 := m4
  have m5 : γ 0 2 0 7 = ρ 5 := m5
  have m6 : γ 0 10 (9 * ρ 1) 8 = ρ 6 := m6
  have m7 : γ 0 10 (9 * ρ 1) 12 = ρ 7 := m7
  have m8 : γ 0 10 (9 * ρ 1) 14 = ρ 8 := m8
  have m9 : γ 0 9 (ρ 1) 3 = ρ 9 := m9
  have m10 : γ 0 1 0 7 = ρ 10 := m10
  have m11 : γ 0 2 0 4 = ρ 11 := m11
  have m12 : γ 0 2 0 5 = ρ 12 := m12
  have m13 : γ 0 2 0 9 = ρ 13 := m13
  have m14 : γ 0 2 0 13 = ρ 14 := m14
  have m15 : γ 0 2 0 16 = ρ 15 := m15
  have m16 : γ 0 3 0 1 = ρ 16 := m16
  have m17 : γ 0 10 (9 * ρ 1) 15 = ρ 17 := m17
  have m18 : γ 1 9 (ρ 1) 2 = ρ 18 := m18
  have m19 : γ 1 2 0 6 = ρ 19 := m19
  have m20 : γ 1 10 (9 * ρ 1) 8 = ρ 6 := m20
  have m21 : γ 1 10 (9 * ρ 1) 12 = ρ 7 := m21
  have m22 : γ 1 9 (ρ 1) 3 = ρ 20 := m22
  have m23 : γ 1 1 0 7 = ρ 21 := m23
  have m24 : γ 1 2 0 4 = ρ 11 := m24
  have m25 : γ 1 2 0 5 = ρ 22 := m25
  have m26 : γ 1 2 0 9 = ρ 23 := m26
  have m27 : γ 1 2 0 13 = ρ 24 := m27
  have m28 : γ 1 2 0 16 = ρ 25 := m28
  have m29 : γ 1 3 0 1 = ρ 26 := m29
  have m30 : γ 1 10 (ρ 18 + 9 * ρ 1 + 1) 4 = ρ 27 := m30
  have m31 : γ 1 10 (ρ 18 + 9 * ρ 1 + 1) 11 = ρ 28 := m31
  have m32 : γ 1 10 (ρ 18 + 9 * ρ 1 + 1) 8 = ρ 29 := m32
  have m33 : γ 1 10 (ρ 18 + 9 * ρ 1 + 1) 5 = ρ 30 := m33
  have m34 : γ 1 10 (ρ 18 + 9 * ρ 1 + 1) 7 = ρ 31 := m34
  have m35 : γ 1 10 (ρ 18 + 9 * ρ 1 + 1) 9 = ρ 32 := m35
  have m36 : γ 1 10 (ρ 18 + 9 * ρ 1 + 1) 12 = ρ 33 := m36
  have m37 : γ 3 2 0 6 = ρ 34 := m37
  have m38 : γ 3 10 (ρ 18 + 9 * ρ 1 + 1) 4 = ρ 35 := m38
  have m39 : γ 3 10 (ρ 18 + 9 * ρ 1 + 1) 11 = ρ 36 := m39
  have m40 : γ 3 10 (ρ 18 + 9 * ρ 1 + 1) 8 = (-1) := m40
  have m41 : γ 3 10 (9 * ρ 1) 8 = ρ 6 := m41
  have m42 : γ 3 10 (9 * ρ 1) 12 = ρ 7 := m42
  have m43 : γ 3 1 0 7 = ρ 21 := m43
  have m44 : γ 3 2 0 4 = ρ 11 := m44
  have m45 : γ 3 2 0 5 = ρ 37 := m45
  have m46 : γ 3 2 0 9 = ρ 38 := m46
  have m47 : γ 3 2 0 13 = ρ 39 := m47
  have m48 : γ 3 2 0 16 = ρ 25 := m48
  have m49 : γ 3 3 0 1 = ρ 40 := m49
  have m50 : γ 3 10 (ρ 18 + 9 * ρ 1 + 1) 5 = ρ 41 := m50
  have m51 : γ 3 10 (ρ 18 + 9 * ρ 1 + 1) 7 = ρ 42 := m51
  have m52 : γ 3 10 (ρ 18 + 9 * ρ 1 + 1) 9 = (-1) := m52
  have m53 : γ 3 10 (ρ 18 + 9 * ρ 1 + 1) 12 = 0 := m53
  have m54 : γ 5 2 0 6 = ρ 44 := m54
  have m55 : γ 6 2 0 4 = ρ 44 := m55
  obtain ⟨⟨⟨⟨⟨⟨-, c1⟩, c2⟩, c3⟩, c4⟩, c5⟩, c6⟩ := hc
  have c1 : ∀ (G : Nat) (k j : Int), ¬ rMdP m107_ G j → γ 1 G k j = γ 0 G k j := c1
  have c2 : ∀ (G : Nat) (k j : Int), ¬ rMdP m0_ G j → γ 2 G k j = γ 1 G k j := c2
  have c3 : ∀ (G : Nat) (k j : Int), ¬ rMdP m106_ G j → γ 3 G k j = γ 2 G k j := c3
  have c4 : γ 4 = rUp (γ 3) 9 (ρ 1) 2 (ρ 18 + 1) := c4
  have c5 : ∀ (G : Nat) (k j : Int), ¬ rMdP m77_ G j → γ 5 G k j = γ 4 G k j := c5
  have c6 : ∀ (G : Nat) (k j : Int), ¬ rMdP m72_ G j → γ 6 G k j = γ 5 G k j := c6
  obtain ⟨l0, l1, l2, l3, l4, l5, -⟩ := hl
  have l0 : sn132 [ρ 1, ρ 18] (γ 1) 0 (ρ 18 + 9 * ρ 1 + 1) (γ 2) := hS132 _ _ _ _ _ l0
  have l1 : sn157 [ρ 0, ρ 1, ρ 18, ρ 19, ρ 4, ρ 27, ρ 28, ρ 29, ρ 5, ρ 6, ρ 7, ρ 21, ρ 11, ρ 22, ρ 23, ρ 24, ρ 25, ρ 26, ρ 30, ρ 31, ρ 32, ρ 33] (γ 2) 0 1 (γ 3) := hS157 _ _ _ _ _ l1
  have l2 : sn114 [ρ 34, ρ 4] (γ 4) 0 (ρ 43) (γ 5) := hS114 _ _ _ _ _ l2
  have l3 : ρ 43 ≠ 46 := l3
  have l4 : ρ 43 ≠ 44 := l4
  have l5 : sn109 [ρ 44, ρ 11] (γ 5) 0 0 (γ 6) := hS109 _ _ _ _ _ l5
  show sn158 [ρ 0, ρ 1, ρ 2, ρ 3, ρ 4, ρ 5, ρ 6, ρ 7, ρ 8, ρ 9, ρ 10, ρ 11, ρ 12, ρ 13, ρ 14, ρ 15, ρ 16, ρ 17] (γ 0) 0 0 (γ 6)
  have hD : en158 (γ 0) (0, [], γ 1) = .inr (0, 0, γ 6) := by
    unfold en158
    refine (if_pos (show (0 : Nat) = 0 by decide)).trans ?_
    refine (zLet_eq (show _ = γ 1 from rfl)).trans ?_
    refine (zLet_eq m0).trans ?_
    refine (zLet_eq m1).trans ?_
    refine (zLet_eq m18).trans ?_
    refine (zLet_eq m22).trans ?_
    refine (if_neg (show ¬ (ρ 18 ≥ 8) by omega)).trans ?_
    refine (zLet_eq (show fn132 [ρ 1, ρ 18] (γ 1) = (0, ρ 18 + 9 * ρ 1 + 1, γ 2) from l0.symm)).trans ?_
    refine (zLet_eq (show _ = γ 2 from rfl)).trans ?_
    refine (zLet_eq (show fn157 [] (γ 2) = (0, 1, γ 3) from l1.symm)).trans ?_
    refine (zLet_eq (show _ = γ 3 from rfl)).trans ?_
    refine (if_pos (show (1 : Int) ≤ 1 by omega)).trans ?_
    refine (if_pos (show 3 ≤ γ 3 10 (ρ 18 + 9 * ρ 1 + 1) 4 by omega)).trans ?_
    refine (if_pos (show 6 ≤ γ 3 10 (ρ 18 + 9 * ρ 1 + 1) 4 by omega)).trans ?_
    refine (zLet_eq c4.symm).trans ?_
    refine (zLet_eq (show fn114 [] (γ 4) = (0, ρ 43, γ 5) from l2.symm)).trans ?_
    refine (zLet_eq (show _ = γ 5 from rfl)).trans ?_
    refine (if_pos (show (0 : Int) ≤ ρ 43 by omega)).trans ?_
    refine (zLet_eq (show _ = ρ 43 from rfl)).trans ?_
    refine (zLet_eq m54).trans ?_
    refine (if_pos (show ρ 43 ≠ 46 by omega)).trans ?_
    refine (if_neg (show ¬ (ρ 43 = 44) by omega)).trans ?_
    refine (zLet_eq (show fn109 [ρ 44] (γ 5) = (0, 0, γ 6) from l5.symm)).trans ?_
    refine (zLet_eq (show _ = γ 6 from rfl)).trans ?_
    rfl
  exact zGoo_aend hJ hD
theorem vn158a0_12 {S : Nat → zSpc} (hS109 : ∀ x g o v gz, S 109 x g o v gz → sn109 x g o v gz) (hS114 : ∀ x g o v gz, S 114 x g o v gz → sn114 x g o v gz) (hS132 : ∀ x g o v gz, S 132 x g o v gz → sn132 x g o v gz) (hS152 : ∀ x g o v gz, S 152 x g o v gz → sn152 x g o v gz) (hS153 : ∀ x g o v gz, S 153 x g o v gz → sn153 x g o v gz) (hS157 : ∀ x g o v gz, S 157 x g o v gz → sn157 x g o v gz) {a : List Int} {g : rHp} : ∀ (ρ : Nat → Int) (γ : Nat → rHp), jn158 a g 0 (zAg (zNA a158_ 0) ρ) (γ 1) → zO 18 S a g q158a0_12 ρ γ → zGl (fun i vs g1 => jn158 a g i vs g1) (sn158 a g) q158a0_12 ρ γ := by
  intro ρ γ hJ h
  obtain ⟨ha, hg, hr, hf, hm, hc, hl⟩ := h
  have ha : a = [ρ 0, ρ 1, ρ 2, ρ 3, ρ 4, ρ 5, ρ 6, ρ 7, ρ 8, ρ 9, ρ 10, ρ 11, ρ 12, ρ 13, ρ 14, ρ 15, ρ 16, ρ 17] := ha
  subst ha
  subst hg
  have hJ : jn158 [ρ 0, ρ 1, ρ 2, ρ 3, ρ 4, ρ 5, ρ 6, ρ 7, ρ 8, ρ 9, ρ 10, ρ 11, ρ 12, ρ 13, ρ 14, ρ 15, ρ 16, ρ 17] (γ 0) 0 [ρ 0, ρ 1, ρ 2, ρ 3, ρ 4, ρ 5, ρ 6, ρ 7, ρ 8, ρ 9, ρ 10, ρ 11, ρ 12, ρ 13, ρ 14, ρ 15, ρ 16, ρ 17, ρ 18, ρ 19, ρ 20, ρ 21, ρ 22, ρ 23, ρ 24, ρ 25, ρ 26] (γ 1) := hJ
  obtain ⟨r0, r1, r2, r3, r4, r5, r6, r7, r8, r9, r10, r11, r12, r13, r14, r15, r16, r17, r18, r19, r20, r21, r22, r23, r24, r25, r26, r27, r28, r29, r30, r31, r32, r33, r34, r35, r36, r37, r38, r39, r40, r41, r42, r43, r44, r45, r46, -⟩ := hr
  have r0 : (0 : Int) ≤ ρ 0 ∧ ρ 0 ≤ 60 := r0
  have r1 : (0 : Int) ≤ ρ 1 ∧ ρ 1 ≤ 60 := r1
  have r2 : (0 : Int) ≤ ρ 2 ∧ ρ 2 ≤ 8 := r2
  have r3 : (0 : Int) ≤ ρ 3 ∧ ρ 3 ≤ 2000 := r3
  have r4 : (0 : Int) ≤ ρ 4 ∧ ρ 4 ≤ 2000 := r4
  have r5 : (0 : Int) ≤ ρ 5 ∧ ρ 5 ≤ 0 := r5
  have r6 : ((-1) : Int) ≤ ρ 6 ∧ ρ 6 ≤ 19 := r6
  have r7 : (0 : Int) ≤ ρ 7 ∧ ρ 7 ≤ 4 := r7
  have r8 : ((-1) : Int) ≤ ρ 8 ∧ ρ 8 ≤ 7 := r8
  have r9 : (0 : Int) ≤ ρ 9 ∧ ρ 9 ≤ 8 := r9
  have r10 : (0 : Int) ≤ ρ 10 ∧ ρ 10 ≤ 20 := r10
  have r11 : ((-2147483648) : Int) ≤ ρ 11 ∧ ρ 11 ≤ 2147483647 := r11
  have r12 : ((-2147483648) : Int) ≤ ρ 12 ∧ ρ 12 ≤ 2147483647 := r12
  have r13 : ((-2147483648) : Int) ≤ ρ 13 ∧ ρ 13 ≤ 2147483647 := r13
  have r14 : (0 : Int) ≤ ρ 14 ∧ ρ 14 ≤ 8 := r14
  have r15 : (0 : Int) ≤ ρ 15 ∧ ρ 15 ≤ 32 := r15
  have r16 : (0 : Int) ≤ ρ 16 ∧ ρ 16 ≤ 5120 := r16
  have r17 : ((-2147483648) : Int) ≤ ρ 17 ∧ ρ 17 ≤ 2147483647 := r17
  have r18 : (0 : Int) ≤ ρ 18 ∧ ρ 18 ≤ 7 := r18
  have r19 : (0 : Int) ≤ ρ 19 ∧ ρ 19 ≤ 2000 := r19
  have r20 : (0 : Int) ≤ ρ 20 ∧ ρ 20 ≤ 8 := r20
  have r21 : (0 : Int) ≤ ρ 21 ∧ ρ 21 ≤ 20 := r21
  have r22 : ((-2147483648) : Int) ≤ ρ 22 ∧ ρ 22 ≤ 2147483647 := r22
  have r23 : ((-2147483648) : Int) ≤ ρ 23 ∧ ρ 23 ≤ 2147483647 := r23
  have r24 : (0 : Int) ≤ ρ 24 ∧ ρ 24 ≤ 8 := r24
  have r25 : (0 : Int) ≤ ρ 25 ∧ ρ 25 ≤ 32 := r25
  have r26 : (0 : Int) ≤ ρ 26 ∧ ρ 26 ≤ 5120 := r26
  have r27 : (0 : Int) ≤ ρ 27 ∧ ρ 27 ≤ 8 := r27
  have r28 : ((-1) : Int) ≤ ρ 28 ∧ ρ 28 ≤ 7 := r28
  have r29 : ((-1) : Int) ≤ ρ 29 ∧ ρ 29 ≤ 19 := r29
  have r30 : (0 : Int) ≤ ρ 30 ∧ ρ 30 ≤ 4 := r30
  have r31 : ((-2147483648) : Int) ≤ ρ 31 ∧ ρ 31 ≤ 2147483647 := r31
  have r32 : ((-1) : Int) ≤ ρ 32 ∧ ρ 32 ≤ 3 := r32
  have r33 : (0 : Int) ≤ ρ 33 ∧ ρ 33 ≤ 4 := r33
  have r34 : (4 : Int) ≤ ρ 34 ∧ ρ 34 ≤ 2000 := r34
  have r35 : (6 : Int) ≤ ρ 35 ∧ ρ 35 ≤ 8 := r35
  have r36 : (0 : Int) ≤ ρ 36 ∧ ρ 36 ≤ 7 := r36
  have r37 : ((-2147483648) : Int) ≤ ρ 37 ∧ ρ 37 ≤ 2147483647 := r37
  have r38 : ((-2147483648) : Int) ≤ ρ 38 ∧ ρ 38 ≤ 2147483647 := r38
  have r39 : (1 : Int) ≤ ρ 39 ∧ ρ 39 ≤ 8 := r39
  have r40 : (0 : Int) ≤ ρ 40 ∧ ρ 40 ≤ 5120 := r40
  have r41 : (1 : Int) ≤ ρ 41 ∧ ρ 41 ≤ 2 := r41
  have r42 : (0 : Int) ≤ ρ 42 ∧ ρ 42 ≤ 1999 := r42
  have r43 : (46 : Int) ≤ ρ 43 ∧ ρ 43 ≤ 46 := r43
  have r44 : (0 : Int) ≤ ρ 44 ∧ ρ 44 ≤ 2000 := r44
  have r45 : (0 : Int) ≤ ρ 45 ∧ ρ 45 ≤ 4 := r45
  have r46 : ((-2147483648) : Int) ≤ ρ 46 ∧ ρ 46 ≤ 2147483647 := r46
  obtain ⟨f0, f1, f2, f3, f4, f5, f6, f7, f8, f9, f10, f11, f12, f13, f14, f15, f16, f17, f18, f19, f20, f21, -⟩ := hf
  have f0 : (0 : Int) ≤ ρ 44 + -ρ 34 := f0
  have f1 : (0 : Int) ≤ -ρ 44 + ρ 4 + (-1) := f1
  have f2 : (0 : Int) ≤ -ρ 34 + ρ 4 + (-1) := f2
  have f3 : (0 : Int) ≤ -ρ 42 + ρ 34 + (-1) := f3
  have f4 : (0 : Int) ≤ ρ 34 + -ρ 19 + (-1) := f4
  have f5 : (0 : Int) ≤ ρ 39 + -ρ 36 + (-1) := f5
  have f6 : (0 : Int) ≤ ρ 39 + -ρ 24 := f6
  have f7 : (0 : Int) ≤ ρ 40 + -ρ 26 := f7
  have f8 : (0 : Int) ≤ ρ 42 + -ρ 19 := f8
  have f9 : (0 : Int) ≤ -ρ 41 + ρ 4 := f9
  have f10 : (0 : Int) ≤ -ρ 42 + ρ 4 + (-1) := f10
  have f11 : (0 : Int) ≤ -ρ 19 + ρ 4 + (-1) := f11
  have f12 : (0 : Int) ≤ -ρ 32 + ρ 4 := f12
  have f13 : (0 : Int) ≤ -ρ 36 + ρ 24 := f13
  have f14 : (0 : Int) ≤ -ρ 18 + ρ 4 := f14
  have f15 : (0 : Int) ≤ ρ 26 + -ρ 16 := f15
  have f16 : (0 : Int) ≤ ρ 25 + -ρ 15 := f16
  have f17 : (0 : Int) ≤ ρ 24 + -ρ 14 := f17
  have f18 : (0 : Int) ≤ ρ 21 + -ρ 10 := f18
  have f19 : (0 : Int) ≤ ρ 19 + -ρ 3 := f19
  have f20 : (0 : Int) ≤ ρ 19 + -ρ 18 := f20
  have f21 : (0 : Int) ≤ -ρ 20 + ρ 18 := f21
  obtain ⟨m0, m1, m2, m3, m4, m5, m6, m7, m8, m9, m10, m11, m12, m13, m14, m15, m16, m17, m18, m19, m20, m21, m22, m23, m24, m25, m26, m27, m28, m29, m30, m31, m32, m33, m34, m35, m36, m37, m38, m39, m40, m41, m42, m43, m44, m45, m46, m47, m48, m49, m50, m51, m52, m53, m54, m55, m56, -⟩ := hm
  have m0 : γ 0 1 0 10 = ρ 0 := m0
  have m1 : γ 0 40 0 (ρ 0) = ρ 1 := m1
  have m2 : γ 0 9 (ρ 1) 2 = ρ 2 := m2
  have m3 : γ 0 2 0 6 = ρ 3 := m3
  have m4 : γ 0 2 0 3 = ρ 4 := m4
  have m5 : γ 0 2 0 7 = ρ 5 := m5
  have m6 : γ 0 10 (9 * ρ 1) 8 = ρ 6 := m6
  have m7 : γ 0 10 (9 * ρ 1) 12 = ρ 7 := m7
  have m8 : γ 0 10 (9 * ρ 1) 14 = ρ 8 := m8
  have m9 : γ 0 9 (ρ 1) 3 = ρ 9 := m9
  have m10 : γ 0 1 0 7 = ρ 10 := m10
  have m11 : γ 0 2 0 4 = ρ 11 := m11
  have m12 : γ 0 2 0 5 = ρ 12 := m12
  have m13 : γ 0 2 0 9 = ρ 13 := m13
  have m14 : γ 0 2 0 13 = ρ 14 := m14
  have m15 : γ 0 2 0 16 = ρ 15 := m15
  have m16 : γ 0 3 0 1 = ρ 16 := m16
  have m17 : γ 0 10 (9 * ρ 1) 15 = ρ 17 := m17
  have m18 : γ 1 9 (ρ 1) 2 = ρ 18 := m18
  have m19 : γ 1 2 0 6 = ρ 19 := m19
  have m20 : γ 1 10 (9 * ρ 1) 8 = ρ 6 := m20
  have m21 : γ 1 10 (9 * ρ 1) 12 = ρ 7 := m21
  have m22 : γ 1 9 (ρ 1) 3 = ρ 20 := m22
  have m23 : γ 1 1 0 7 = ρ 21 := m23
  have m24 : γ 1 2 0 4 = ρ 11 := m24
  have m25 : γ 1 2 0 5 = ρ 22 := m25
  have m26 : γ 1 2 0 9 = ρ 23 := m26
  have m27 : γ 1 2 0 13 = ρ 24 := m27
  have m28 : γ 1 2 0 16 = ρ 25 := m28
  have m29 : γ 1 3 0 1 = ρ 26 := m29
  have m30 : γ 1 10 (ρ 18 + 9 * ρ 1 + 1) 4 = ρ 27 := m30
  have m31 : γ 1 10 (ρ 18 + 9 * ρ 1 + 1) 11 = ρ 28 := m31
  have m32 : γ 1 10 (ρ 18 + 9 * ρ 1 + 1) 8 = ρ 29 := m32
  have m33 : γ 1 10 (ρ 18 + 9 * ρ 1 + 1) 5 = ρ 30 := m33
  have m34 : γ 1 10 (ρ 18 + 9 * ρ 1 + 1) 7 = ρ 31 := m34
  have m35 : γ 1 10 (ρ 18 + 9 * ρ 1 + 1) 9 = ρ 32 := m35
  have m36 : γ 1 10 (ρ 18 + 9 * ρ 1 + 1) 12 = ρ 33 := m36
  have m37 : γ 3 2 0 6 = ρ 34 := m37
  have m38 : γ 3 10 (ρ 18 + 9 * ρ 1 + 1) 4 = ρ 35 := m38
  have m39 : γ 3 10 (ρ 18 + 9 * ρ 1 + 1) 11 = ρ 36 := m39
  have m40 : γ 3 10 (ρ 18 + 9 * ρ 1 + 1) 8 = (-1) := m40
  have m41 : γ 3 10 (9 * ρ 1) 8 = ρ 6 := m41
  have m42 : γ 3 10 (9 * ρ 1) 12 = ρ 7 := m42
  have m43 : γ 3 1 0 7 = ρ 21 := m43
  have m44 : γ 3 2 0 4 = ρ 11 := m44
  have m45 : γ 3 2 0 5 = ρ 37 := m45
  have m46 : γ 3 2 0 9 = ρ 38 := m46
  have m47 : γ 3 2 0 13 = ρ 39 := m47
  have m48 : γ 3 2 0 16 = ρ 25 := m48
  have m49 : γ 3 3 0 1 = ρ 40 := m49
  have m50 : γ 3 10 (ρ 18 + 9 * ρ 1 + 1) 5 = ρ 41 := m50
  have m51 : γ 3 10 (ρ 18 + 9 * ρ 1 + 1) 7 = ρ 42 := m51
  have m52 : γ 3 10 (ρ 18 + 9 * ρ 1 + 1) 9 = (-1) := m52
  have m53 : γ 3 10 (ρ 18 + 9 * ρ 1 + 1) 12 = 0 := m53
  have m54 : γ 5 2 0 6 = ρ 44 := m54
  have m55 : γ 3 10 (9 * ρ 1) 5 = ρ 45 := m55
  have m56 : γ 7 2 0 4 = ρ 46 := m56
  obtain ⟨⟨⟨⟨⟨⟨⟨-, c1⟩, c2⟩, c3⟩, c4⟩, c5⟩, c6⟩, c7⟩ := hc
  have c1 : ∀ (G : Nat) (k j : Int), ¬ rMdP m107_ G j → γ 1 G k j = γ 0 G k j := c1
  have c2 : ∀ (G : Nat) (k j : Int), ¬ rMdP m0_ G j → γ 2 G k j = γ 1 G k j := c2
  have c3 : ∀ (G : Nat) (k j : Int), ¬ rMdP m106_ G j → γ 3 G k j = γ 2 G k j := c3
  have c4 : γ 4 = rUp (γ 3) 9 (ρ 1) 2 (ρ 18 + 1) := c4
  have c5 : ∀ (G : Nat) (k j : Int), ¬ rMdP m77_ G j → γ 5 G k j = γ 4 G k j := c5
  have c6 : γ 6 = rUp (γ 5) 2 0 6 (ρ 44 + 1) := c6
  have c7 : ∀ (G : Nat) (k j : Int), ¬ rMdP m72_ G j → γ 7 G k j = γ 6 G k j := c7
  obtain ⟨l0, l1, l2, l3, -⟩ := hl
  have l0 : sn132 [ρ 1, ρ 18] (γ 1) 0 (ρ 18 + 9 * ρ 1 + 1) (γ 2) := hS132 _ _ _ _ _ l0
  have l1 : sn157 [ρ 0, ρ 1, ρ 18, ρ 19, ρ 4, ρ 27, ρ 28, ρ 29, ρ 5, ρ 6, ρ 7, ρ 21, ρ 11, ρ 22, ρ 23, ρ 24, ρ 25, ρ 26, ρ 30, ρ 31, ρ 32, ρ 33] (γ 2) 0 1 (γ 3) := hS157 _ _ _ _ _ l1
  have l2 : sn114 [ρ 34, ρ 4] (γ 4) 0 (ρ 43) (γ 5) := hS114 _ _ _ _ _ l2
  have l3 : sn153 [9 * ρ 1, ρ 11, ρ 37, ρ 45, ρ 7, ρ 8, ρ 17] (γ 6) 0 0 (γ 7) := hS153 _ _ _ _ _ l3
  show sn158 [ρ 0, ρ 1, ρ 2, ρ 3, ρ 4, ρ 5, ρ 6, ρ 7, ρ 8, ρ 9, ρ 10, ρ 11, ρ 12, ρ 13, ρ 14, ρ 15, ρ 16, ρ 17] (γ 0) 0 0 (γ 7)
  have hD : en158 (γ 0) (0, [], γ 1) = .inr (0, 0, γ 7) := by
    unfold en158
    refine (if_pos (show (0 : Nat) = 0 by decide)).trans ?_
    refine (zLet_eq (show _ = γ 1 from rfl)).trans ?_
    refine (zLet_eq m0).trans ?_
    refine (zLet_eq m1).trans ?_
    refine (zLet_eq m18).trans ?_
    refine (zLet_eq m22).trans ?_
    refine (if_neg (show ¬ (ρ 18 ≥ 8) by omega)).trans ?_
    refine (zLet_eq (show fn132 [ρ 1, ρ 18] (γ 1) = (0, ρ 18 + 9 * ρ 1 + 1, γ 2) from l0.symm)).trans ?_
    refine (zLet_eq (show _ = γ 2 from rfl)).trans ?_
    refine (zLet_eq (show fn157 [] (γ 2) = (0, 1, γ 3) from l1.symm)).trans ?_
    refine (zLet_eq (show _ = γ 3 from rfl)).trans ?_
    refine (if_pos (show (1 : Int) ≤ 1 by omega)).trans ?_
    refine (if_pos (show 3 ≤ γ 3 10 (ρ 18 + 9 * ρ 1 + 1) 4 by omega)).trans ?_
    refine (if_pos (show 6 ≤ γ 3 10 (ρ 18 + 9 * ρ 1 + 1) 4 by omega)).trans ?_
    refine (zLet_eq c4.symm).trans ?_
    refine (zLet_eq (show fn114 [] (γ 4) = (0, ρ 43, γ 5) from l2.symm)).trans ?_
    refine (zLet_eq (show _ = γ 5 from rfl)).trans ?_
    refine (if_pos (show (0 : Int) ≤ ρ 43 by omega)).trans ?_
    refine (zLet_eq (show _ = ρ 43 from rfl)).trans ?_
    refine (zLet_eq m54).trans ?_
    refine (if_neg (show ¬ (ρ 43 ≠ 46) by omega)).trans ?_
    refine (zLet_eq c6.symm).trans ?_
    refine (zLet_eq (show fn153 [9 * ρ 1] (γ 6) = (0, 0, γ 7) from l3.symm)).trans ?_
    refine (zLet_eq (show _ = γ 7 from rfl)).trans ?_
    refine (if_neg (show ¬ ((1 : Int) ≤ 0) by omega)).trans ?_
    rfl
  exact zGoo_aend hJ hD
theorem vn158a0_13 {S : Nat → zSpc} (hS109 : ∀ x g o v gz, S 109 x g o v gz → sn109 x g o v gz) (hS114 : ∀ x g o v gz, S 114 x g o v gz → sn114 x g o v gz) (hS132 : ∀ x g o v gz, S 132 x g o v gz → sn132 x g o v gz) (hS152 : ∀ x g o v gz, S 152 x g o v gz → sn152 x g o v gz) (hS153 : ∀ x g o v gz, S 153 x g o v gz → sn153 x g o v gz) (hS157 : ∀ x g o v gz, S 157 x g o v gz → sn157 x g o v gz) {a : List Int} {g : rHp} : ∀ (ρ : Nat → Int) (γ : Nat → rHp), jn158 a g 0 (zAg (zNA a158_ 0) ρ) (γ 1) → zO 18 S a g q158a0_13 ρ γ → zGl (fun i vs g1 => jn158 a g i vs g1) (sn158 a g) q158a0_13 ρ γ := by
  intro ρ γ hJ h
  obtain ⟨ha, hg, hr, hf, hm, hc, hl⟩ := h
  have ha : a = [ρ 0, ρ 1, ρ 2, ρ 3, ρ 4, ρ 5, ρ 6, ρ 7, ρ 8, ρ 9, ρ 10, ρ 11, ρ 12, ρ 13, ρ 14, ρ 15, ρ 16, ρ 17] := ha
  subst ha
  subst hg
  have hJ : jn158 [ρ 0, ρ 1, ρ 2, ρ 3, ρ 4, ρ 5, ρ 6, ρ 7, ρ 8, ρ 9, ρ 10, ρ 11, ρ 12, ρ 13, ρ 14, ρ 15, ρ 16, ρ 17] (γ 0) 0 [ρ 0, ρ 1, ρ 2, ρ 3, ρ 4, ρ 5, ρ 6, ρ 7, ρ 8, ρ 9, ρ 10, ρ 11, ρ 12, ρ 13, ρ 14, ρ 15, ρ 16, ρ 17, ρ 18, ρ 19, ρ 20, ρ 21, ρ 22, ρ 23, ρ 24, ρ 25, ρ 26] (γ 1) := hJ
  obtain ⟨r0, r1, r2, r3, r4, r5, r6, r7, r8, r9, r10, r11, r12, r13, r14, r15, r16, r17, r18, r19, r20, r21, r22, r23, r24, r25, r26, r27, r28, r29, r30, r31, r32, r33, r34, r35, r36, r37, r38, r39, r40, r41, r42, r43, r44, r45, r46, -⟩ := hr
  have r0 : (0 : Int) ≤ ρ 0 ∧ ρ 0 ≤ 60 := r0
  have r1 : (0 : Int) ≤ ρ 1 ∧ ρ 1 ≤ 60 := r1
  have r2 : (0 : Int) ≤ ρ 2 ∧ ρ 2 ≤ 8 := r2
  have r3 : (0 : Int) ≤ ρ 3 ∧ ρ 3 ≤ 2000 := r3
  have r4 : (0 : Int) ≤ ρ 4 ∧ ρ 4 ≤ 2000 := r4
  have r5 : (0 : Int) ≤ ρ 5 ∧ ρ 5 ≤ 0 := r5
  have r6 : ((-1) : Int) ≤ ρ 6 ∧ ρ 6 ≤ 19 := r6
  have r7 : (0 : Int) ≤ ρ 7 ∧ ρ 7 ≤ 4 := r7
  have r8 : ((-1) : Int) ≤ ρ 8 ∧ ρ 8 ≤ 7 := r8
  have r9 : (0 : Int) ≤ ρ 9 ∧ ρ 9 ≤ 8 := r9
  have r10 : (0 : Int) ≤ ρ 10 ∧ ρ 10 ≤ 20 := r10
  have r11 : ((-2147483648) : Int) ≤ ρ 11 ∧ ρ 11 ≤ 2147483647 := r11
  have r12 : ((-2147483648) : Int) ≤ ρ 12 ∧ ρ 12 ≤ 2147483647 := r12
  have r13 : ((-2147483648) : Int) ≤ ρ 13 ∧ ρ 13 ≤ 2147483647 := r13
  have r14 : (0 : Int) ≤ ρ 14 ∧ ρ 14 ≤ 8 := r14
  have r15 : (0 : Int) ≤ ρ 15 ∧ ρ 15 ≤ 32 := r15
  have r16 : (0 : Int) ≤ ρ 16 ∧ ρ 16 ≤ 5120 := r16
  have r17 : ((-2147483648) : Int) ≤ ρ 17 ∧ ρ 17 ≤ 2147483647 := r17
  have r18 : (0 : Int) ≤ ρ 18 ∧ ρ 18 ≤ 7 := r18
  have r19 : (0 : Int) ≤ ρ 19 ∧ ρ 19 ≤ 2000 := r19
  have r20 : (0 : Int) ≤ ρ 20 ∧ ρ 20 ≤ 8 := r20
  have r21 : (0 : Int) ≤ ρ 21 ∧ ρ 21 ≤ 20 := r21
  have r22 : ((-2147483648) : Int) ≤ ρ 22 ∧ ρ 22 ≤ 2147483647 := r22
  have r23 : ((-2147483648) : Int) ≤ ρ 23 ∧ ρ 23 ≤ 2147483647 := r23
  have r24 : (0 : Int) ≤ ρ 24 ∧ ρ 24 ≤ 8 := r24
  have r25 : (0 : Int) ≤ ρ 25 ∧ ρ 25 ≤ 32 := r25
  have r26 : (0 : Int) ≤ ρ 26 ∧ ρ 26 ≤ 5120 := r26
  have r27 : (0 : Int) ≤ ρ 27 ∧ ρ 27 ≤ 8 := r27
  have r28 : ((-1) : Int) ≤ ρ 28 ∧ ρ 28 ≤ 7 := r28
  have r29 : ((-1) : Int) ≤ ρ 29 ∧ ρ 29 ≤ 19 := r29
  have r30 : (0 : Int) ≤ ρ 30 ∧ ρ 30 ≤ 4 := r30
  have r31 : ((-2147483648) : Int) ≤ ρ 31 ∧ ρ 31 ≤ 2147483647 := r31
  have r32 : ((-1) : Int) ≤ ρ 32 ∧ ρ 32 ≤ 3 := r32
  have r33 : (0 : Int) ≤ ρ 33 ∧ ρ 33 ≤ 4 := r33
  have r34 : (4 : Int) ≤ ρ 34 ∧ ρ 34 ≤ 2000 := r34
  have r35 : (6 : Int) ≤ ρ 35 ∧ ρ 35 ≤ 8 := r35
  have r36 : (0 : Int) ≤ ρ 36 ∧ ρ 36 ≤ 7 := r36
  have r37 : ((-2147483648) : Int) ≤ ρ 37 ∧ ρ 37 ≤ 2147483647 := r37
  have r38 : ((-2147483648) : Int) ≤ ρ 38 ∧ ρ 38 ≤ 2147483647 := r38
  have r39 : (1 : Int) ≤ ρ 39 ∧ ρ 39 ≤ 8 := r39
  have r40 : (0 : Int) ≤ ρ 40 ∧ ρ 40 ≤ 5120 := r40
  have r41 : (1 : Int) ≤ ρ 41 ∧ ρ 41 ≤ 2 := r41
  have r42 : (0 : Int) ≤ ρ 42 ∧ ρ 42 ≤ 1999 := r42
  have r43 : (46 : Int) ≤ ρ 43 ∧ ρ 43 ≤ 46 := r43
  have r44 : (0 : Int) ≤ ρ 44 ∧ ρ 44 ≤ 2000 := r44
  have r45 : (0 : Int) ≤ ρ 45 ∧ ρ 45 ≤ 4 := r45
  have r46 : ((-2147483648) : Int) ≤ ρ 46 ∧ ρ 46 ≤ 2147483647 := r46
  obtain ⟨f0, f1, f2, f3, f4, f5, f6, f7, f8, f9, f10, f11, f12, f13, f14, f15, f16, f17, f18, f19, f20, f21, -⟩ := hf
  have f0 : (0 : Int) ≤ ρ 44 + -ρ 34 := f0
  have f1 : (0 : Int) ≤ -ρ 44 + ρ 4 + (-1) := f1
  have f2 : (0 : Int) ≤ -ρ 34 + ρ 4 + (-1) := f2
  have f3 : (0 : Int) ≤ -ρ 42 + ρ 34 + (-1) := f3
  have f4 : (0 : Int) ≤ ρ 34 + -ρ 19 + (-1) := f4
  have f5 : (0 : Int) ≤ ρ 39 + -ρ 36 + (-1) := f5
  have f6 : (0 : Int) ≤ ρ 39 + -ρ 24 := f6
  have f7 : (0 : Int) ≤ ρ 40 + -ρ 26 := f7
  have f8 : (0 : Int) ≤ ρ 42 + -ρ 19 := f8
  have f9 : (0 : Int) ≤ -ρ 41 + ρ 4 := f9
  have f10 : (0 : Int) ≤ -ρ 42 + ρ 4 + (-1) := f10
  have f11 : (0 : Int) ≤ -ρ 19 + ρ 4 + (-1) := f11
  have f12 : (0 : Int) ≤ -ρ 32 + ρ 4 := f12
  have f13 : (0 : Int) ≤ -ρ 36 + ρ 24 := f13
  have f14 : (0 : Int) ≤ -ρ 18 + ρ 4 := f14
  have f15 : (0 : Int) ≤ ρ 26 + -ρ 16 := f15
  have f16 : (0 : Int) ≤ ρ 25 + -ρ 15 := f16
  have f17 : (0 : Int) ≤ ρ 24 + -ρ 14 := f17
  have f18 : (0 : Int) ≤ ρ 21 + -ρ 10 := f18
  have f19 : (0 : Int) ≤ ρ 19 + -ρ 3 := f19
  have f20 : (0 : Int) ≤ ρ 19 + -ρ 18 := f20
  have f21 : (0 : Int) ≤ -ρ 20 + ρ 18 := f21
  obtain ⟨m0, m1, m2, m3, m4, m5, m6, m7, m8, m9, m10, m11, m12, m13, m14, m15, m16, m17, m18, m19, m20, m21, m22, m23, m24, m25, m26, m27, m28, m29, m30, m31, m32, m33, m34, m35, m36, m37, m38, m39, m40, m41, m42, m43, m44, m45, m46, m47, m48, m49, m50, m51, m52, m53, m54, m55, m56, m57, -⟩ := hm
  have m0 : γ 0 1 0 10 = ρ 0 := m0
  have m1 : γ 0 40 0 (ρ 0) = ρ 1 := m1
  have m2 : γ 0 9 (ρ 1) 2 = ρ 2 := m2
  have m3 : γ 0 2 0 6 = ρ 3 := m3
  have m4 : γ 0 2 0 3 = ρ 4 := m4
  have m5 : γ 0 2 0 7 = ρ 5 := m5
  have m6 : γ 0 10 (9 * ρ 1) 8 = ρ 6 := m6
  have m7 : γ 0 10 (9 * ρ 1) 12 = ρ 7 := m7
  have m8 : γ 0 10 (9 * ρ 1) 14 = ρ 8 := m8
  have m9 : γ 0 9 (ρ 1) 3 = ρ 9 := m9
  have m10 : γ 0 1 0 7 = ρ 10 := m10
  have m11 : γ 0 2 0 4 = ρ 11 := m11
  have m12 : γ 0 2 0 5 = ρ 12 := m12
  have m13 : γ 0 2 0 9 = ρ 13 := m13
  have m14 : γ 0 2 0 13 = ρ 14 := m14
  have m15 : γ 0 2 0 16 = ρ 15 := m15
  have m16 : γ 0 3 0 1 = ρ 16 := m16
  have m17 : γ 0 10 (9 * ρ 1) 15 = ρ 17 := m17
  have m18 : γ 1 9 (ρ 1) 2 = ρ 18 := m18
  have m19 : γ 1 2 0 6 = ρ 19 := m19
  have m20 : γ 1 10 (9 * ρ 1) 8 = ρ 6 := m20
  have m21 : γ 1 10 (9 * ρ 1) 12 = ρ 7 := m21
  have m22 : γ 1 9 (ρ 1) 3 = ρ 20 := m22
  have m23 : γ 1 1 0 7 = ρ 21 := m23
  have m24 : γ 1 2 0 4 = ρ 11 := m24
  have m25 : γ 1 2 0 5 = ρ 22 := m25
  have m26 : γ 1 2 0 9 = ρ 23 := m26
  have m27 : γ 1 2 0 13 = ρ 24 := m27
  have m28 : γ 1 2 0 16 = ρ 25 := m28
  have m29 : γ 1 3 0 1 = ρ 26 := m29
  have m30 : γ 1 10 (ρ 18 + 9 * ρ 1 + 1) 4 = ρ 27 := m30
  have m31 : γ 1 10 (ρ 18 + 9 * ρ 1 + 1) 11 = ρ 28 := m31
  have m32 : γ 1 10 (ρ 18 + 9 * ρ 1 + 1) 8 = ρ 29 := m32
  have m33 : γ 1 10 (ρ 18 + 9 * ρ 1 + 1) 5 = ρ 30 := m33
  have m34 : γ 1 10 (ρ 18 + 9 * ρ 1 + 1) 7 = ρ 31 := m34
  have m35 : γ 1 10 (ρ 18 + 9 * ρ 1 + 1) 9 = ρ 32 := m35
  have m36 : γ 1 10 (ρ 18 + 9 * ρ 1 + 1) 12 = ρ 33 := m36
  have m37 : γ 3 2 0 6 = ρ 34 := m37
  have m38 : γ 3 10 (ρ 18 + 9 * ρ 1 + 1) 4 = ρ 35 := m38
  have m39 : γ 3 10 (ρ 18 + 9 * ρ 1 + 1) 11 = ρ 36 := m39
  have m40 : γ 3 10 (ρ 18 + 9 * ρ 1 + 1) 8 = (-1) := m40
  have m41 : γ 3 10 (9 * ρ 1) 8 = ρ 6 := m41
  have m42 : γ 3 10 (9 * ρ 1) 12 = ρ 7 := m42
  have m43 : γ 3 1 0 7 = ρ 21 := m43
  have m44 : γ 3 2 0 4 = ρ 11 := m44
  have m45 : γ 3 2 0 5 = ρ 37 := m45
  have m46 : γ 3 2 0 9 = ρ 38 := m46
  have m47 : γ 3 2 0 13 = ρ 39 := m47
  have m48 : γ 3 2 0 16 = ρ 25 := m48
  have m49 : γ 3 3 0 1 = ρ 40 := m49
  have m50 : γ 3 10 (ρ 18 + 9 * ρ 1 + 1) 5 = ρ 41 := m50
  have m51 : γ 3 10 (ρ 18 + 9 * ρ 1 + 1) 7 = ρ 42 := m51
  have m52 : γ 3 10 (ρ 18 + 9 * ρ 1 + 1) 9 = (-1) := m52
  have m53 : γ 3 10 (ρ 18 + 9 * ρ 1 + 1) 12 = 0 := m53
  have m54 : γ 5 2 0 6 = ρ 44 := m54
  have m55 : γ 3 10 (9 * ρ 1) 5 = ρ 45 := m55
  have m56 : γ 7 2 0 4 = ρ 11 := m56
  have m57 : γ 8 2 0 4 = ρ 46 := m57
  obtain ⟨⟨⟨⟨⟨⟨⟨⟨-, c1⟩, c2⟩, c3⟩, c4⟩, c5⟩, c6⟩, c7⟩, c8⟩ := hc
  have c1 : ∀ (G : Nat) (k j : Int), ¬ rMdP m107_ G j → γ 1 G k j = γ 0 G k j := c1
  have c2 : ∀ (G : Nat) (k j : Int), ¬ rMdP m0_ G j → γ 2 G k j = γ 1 G k j := c2
  have c3 : ∀ (G : Nat) (k j : Int), ¬ rMdP m106_ G j → γ 3 G k j = γ 2 G k j := c3
  have c4 : γ 4 = rUp (γ 3) 9 (ρ 1) 2 (ρ 18 + 1) := c4
  have c5 : ∀ (G : Nat) (k j : Int), ¬ rMdP m77_ G j → γ 5 G k j = γ 4 G k j := c5
  have c6 : γ 6 = rUp (γ 5) 2 0 6 (ρ 44 + 1) := c6
  have c7 : ∀ (G : Nat) (k j : Int), ¬ rMdP m72_ G j → γ 7 G k j = γ 6 G k j := c7
  have c8 : ∀ (G : Nat) (k j : Int), ¬ rMdP m72_ G j → γ 8 G k j = γ 7 G k j := c8
  obtain ⟨l0, l1, l2, l3, l4, -⟩ := hl
  have l0 : sn132 [ρ 1, ρ 18] (γ 1) 0 (ρ 18 + 9 * ρ 1 + 1) (γ 2) := hS132 _ _ _ _ _ l0
  have l1 : sn157 [ρ 0, ρ 1, ρ 18, ρ 19, ρ 4, ρ 27, ρ 28, ρ 29, ρ 5, ρ 6, ρ 7, ρ 21, ρ 11, ρ 22, ρ 23, ρ 24, ρ 25, ρ 26, ρ 30, ρ 31, ρ 32, ρ 33] (γ 2) 0 1 (γ 3) := hS157 _ _ _ _ _ l1
  have l2 : sn114 [ρ 34, ρ 4] (γ 4) 0 (ρ 43) (γ 5) := hS114 _ _ _ _ _ l2
  have l3 : sn153 [9 * ρ 1, ρ 11, ρ 37, ρ 45, ρ 7, ρ 8, ρ 17] (γ 6) 0 1 (γ 7) := hS153 _ _ _ _ _ l3
  have l4 : sn152 [ρ 11, ρ 25] (γ 7) 0 0 (γ 8) := hS152 _ _ _ _ _ l4
  show sn158 [ρ 0, ρ 1, ρ 2, ρ 3, ρ 4, ρ 5, ρ 6, ρ 7, ρ 8, ρ 9, ρ 10, ρ 11, ρ 12, ρ 13, ρ 14, ρ 15, ρ 16, ρ 17] (γ 0) 0 0 (γ 8)
  have hD : en158 (γ 0) (0, [], γ 1) = .inr (0, 0, γ 8) := by
    unfold en158
    refine (if_pos (show (0 : Nat) = 0 by decide)).trans ?_
    refine (zLet_eq (show _ = γ 1 from rfl)).trans ?_
    refine (zLet_eq m0).trans ?_
    refine (zLet_eq m1).trans ?_
    refine (zLet_eq m18).trans ?_
    refine (zLet_eq m22).trans ?_
    refine (if_neg (show ¬ (ρ 18 ≥ 8) by omega)).trans ?_
    refine (zLet_eq (show fn132 [ρ 1, ρ 18] (γ 1) = (0, ρ 18 + 9 * ρ 1 + 1, γ 2) from l0.symm)).trans ?_
    refine (zLet_eq (show _ = γ 2 from rfl)).trans ?_
    refine (zLet_eq (show fn157 [] (γ 2) = (0, 1, γ 3) from l1.symm)).trans ?_
    refine (zLet_eq (show _ = γ 3 from rfl)).trans ?_
    refine (if_pos (show (1 : Int) ≤ 1 by omega)).trans ?_
    refine (if_pos (show 3 ≤ γ 3 10 (ρ 18 + 9 * ρ 1 + 1) 4 by omega)).trans ?_
    refine (if_pos (show 6 ≤ γ 3 10 (ρ 18 + 9 * ρ 1 + 1) 4 by omega)).trans ?_
    refine (zLet_eq c4.symm).trans ?_
    refine (zLet_eq (show fn114 [] (γ 4) = (0, ρ 43, γ 5) from l2.symm)).trans ?_
    refine (zLet_eq (show _ = γ 5 from rfl)).trans ?_
    refine (if_pos (show (0 : Int) ≤ ρ 43 by omega)).trans ?_
    refine (zLet_eq (show _ = ρ 43 from rfl)).trans ?_
    refine (zLet_eq m54).trans ?_
    refine (if_neg (show ¬ (ρ 43 ≠ 46) by omega)).trans ?_
    refine (zLet_eq c6.symm).trans ?_
    refine (zLet_eq (show fn153 [9 * ρ 1] (γ 6) = (0, 1, γ 7) from l3.symm)).trans ?_
    refine (zLet_eq (show _ = γ 7 from rfl)).trans ?_
    refine (if_pos (show (1 : Int) ≤ 1 by omega)).trans ?_
    refine (zLet_eq (show fn152 [] (γ 7) = (0, 0, γ 8) from l4.symm)).trans ?_
    refine (zLet_eq (show _ = γ 8 from rfl)).trans ?_
    refine (if_neg (show ¬ ((1 : Int) ≤ 0) by omega)).trans ?_
    rfl
  exact zGoo_aend hJ hD
theorem vn158a0_14 {S : Nat → zSpc} (hS109 : ∀ x g o v gz, S 109 x g o v gz → sn109 x g o v gz) (hS114 : ∀ x g o v gz, S 114 x g o v gz → sn114 x g o v gz) (hS132 : ∀ x g o v gz, S 132 x g o v gz → sn132 x g o v gz) (hS152 : ∀ x g o v gz, S 152 x g o v gz → sn152 x g o v gz) (hS153 : ∀ x g o v gz, S 153 x g o v gz → sn153 x g o v gz) (hS157 : ∀ x g o v gz, S 157 x g o v gz → sn157 x g o v gz) {a : List Int} {g : rHp} : ∀ (ρ : Nat → Int) (γ : Nat → rHp), jn158 a g 0 (zAg (zNA a158_ 0) ρ) (γ 1) → zO 18 S a g q158a0_14 ρ γ → zGl (fun i vs g1 => jn158 a g i vs g1) (sn158 a g) q158a0_14 ρ γ := by
  intro ρ γ hJ h
  obtain ⟨ha, hg, hr, hf, hm, hc, hl⟩ := h
  have ha : a = [ρ 0, ρ 1, ρ 2, ρ 3, ρ 4, ρ 5, ρ 6, ρ 7, ρ 8, ρ 9, ρ 10, ρ 11, ρ 12, ρ 13, ρ 14, ρ 15, ρ 16, ρ 17] := ha
  subst ha
  subst hg
  have hJ : jn158 [ρ 0, ρ 1, ρ 2, ρ 3, ρ 4, ρ 5, ρ 6, ρ 7, ρ 8, ρ 9, ρ 10, ρ 11, ρ 12, ρ 13, ρ 14, ρ 15, ρ 16, ρ 17] (γ 0) 0 [ρ 0, ρ 1, ρ 2, ρ 3, ρ 4, ρ 5, ρ 6, ρ 7, ρ 8, ρ 9, ρ 10, ρ 11, ρ 12, ρ 13, ρ 14, ρ 15, ρ 16, ρ 17, ρ 18, ρ 19, ρ 20, ρ 21, ρ 22, ρ 23, ρ 24, ρ 25, ρ 26] (γ 1) := hJ
  obtain ⟨r0, r1, r2, r3, r4, r5, r6, r7, r8, r9, r10, r11, r12, r13, r14, r15, r16, r17, r18, r19, r20, r21, r22, r23, r24, r25, r26, r27, r28, r29, r30, r31, r32, r33, r34, r35, r36, r37, r38, r39, r40, r41, r42, r43, r44, r45, -⟩ := hr
  have r0 : (0 : Int) ≤ ρ 0 ∧ ρ 0 ≤ 60 := r0
  have r1 : (0 : Int) ≤ ρ 1 ∧ ρ 1 ≤ 60 := r1
  have r2 : (0 : Int) ≤ ρ 2 ∧ ρ 2 ≤ 8 := r2
  have r3 : (0 : Int) ≤ ρ 3 ∧ ρ 3 ≤ 2000 := r3
  have r4 : (0 : Int) ≤ ρ 4 ∧ ρ 4 ≤ 2000 := r4
  have r5 : (0 : Int) ≤ ρ 5 ∧ ρ 5 ≤ 0 := r5
  have r6 : ((-1) : Int) ≤ ρ 6 ∧ ρ 6 ≤ 19 := r6
  have r7 : (0 : Int) ≤ ρ 7 ∧ ρ 7 ≤ 4 := r7
  have r8 : ((-1) : Int) ≤ ρ 8 ∧ ρ 8 ≤ 7 := r8
  have r9 : (0 : Int) ≤ ρ 9 ∧ ρ 9 ≤ 8 := r9
  have r10 : (0 : Int) ≤ ρ 10 ∧ ρ 10 ≤ 20 := r10
  have r11 : ((-2147483648) : Int) ≤ ρ 11 ∧ ρ 11 ≤ 2147483647 := r11
  have r12 : ((-2147483648) : Int) ≤ ρ 12 ∧ ρ 12 ≤ 2147483647 := r12
  have r13 : ((-2147483648) : Int) ≤ ρ 13 ∧ ρ 13 ≤ 2147483647 := r13
  have r14 : (0 : Int) ≤ ρ 14 ∧ ρ 14 ≤ 8 := r14
  have r15 : (0 : Int) ≤ ρ 15 ∧ ρ 15 ≤ 32 := r15
  have r16 : (0 : Int) ≤ ρ 16 ∧ ρ 16 ≤ 5120 := r16
  have r17 : ((-2147483648) : Int) ≤ ρ 17 ∧ ρ 17 ≤ 2147483647 := r17
  have r18 : (0 : Int) ≤ ρ 18 ∧ ρ 18 ≤ 7 := r18
  have r19 : (0 : Int) ≤ ρ 19 ∧ ρ 19 ≤ 2000 := r19
  have r20 : (0 : Int) ≤ ρ 20 ∧ ρ 20 ≤ 8 := r20
  have r21 : (0 : Int) ≤ ρ 21 ∧ ρ 21 ≤ 20 := r21
  have r22 : ((-2147483648) : Int) ≤ ρ 22 ∧ ρ 22 ≤ 2147483647 := r22
  have r23 : ((-2147483648) : Int) ≤ ρ 23 ∧ ρ 23 ≤ 2147483647 := r23
  have r24 : (0 : Int) ≤ ρ 24 ∧ ρ 24 ≤ 8 := r24
  have r25 : (0 : Int) ≤ ρ 25 ∧ ρ 25 ≤ 32 := r25
  have r26 : (0 : Int) ≤ ρ 26 ∧ ρ 26 ≤ 5120 := r26
  have r27 : (0 : Int) ≤ ρ 27 ∧ ρ 27 ≤ 8 := r27
  have r28 : ((-1) : Int) ≤ ρ 28 ∧ ρ 28 ≤ 7 := r28
  have r29 : ((-1) : Int) ≤ ρ 29 ∧ ρ 29 ≤ 19 := r29
  have r30 : (0 : Int) ≤ ρ 30 ∧ ρ 30 ≤ 4 := r30
  have r31 : ((-2147483648) : Int) ≤ ρ 31 ∧ ρ 31 ≤ 2147483647 := r31
  have r32 : ((-1) : Int) ≤ ρ 32 ∧ ρ 32 ≤ 3 := r32
  have r33 : (0 : Int) ≤ ρ 33 ∧ ρ 33 ≤ 4 := r33
  have r34 : (4 : Int) ≤ ρ 34 ∧ ρ 34 ≤ 2000 := r34
  have r35 : (6 : Int) ≤ ρ 35 ∧ ρ 35 ≤ 8 := r35
  have r36 : (0 : Int) ≤ ρ 36 ∧ ρ 36 ≤ 7 := r36
  have r37 : ((-2147483648) : Int) ≤ ρ 37 ∧ ρ 37 ≤ 2147483647 := r37
  have r38 : ((-2147483648) : Int) ≤ ρ 38 ∧ ρ 38 ≤ 2147483647 := r38
  have r39 : (1 : Int) ≤ ρ 39 ∧ ρ 39 ≤ 8 := r39
  have r40 : (0 : Int) ≤ ρ 40 ∧ ρ 40 ≤ 5120 := r40
  have r41 : (1 : Int) ≤ ρ 41 ∧ ρ 41 ≤ 2 := r41
  have r42 : (0 : Int) ≤ ρ 42 ∧ ρ 42 ≤ 1999 := r42
  have r43 : (46 : Int) ≤ ρ 43 ∧ ρ 43 ≤ 46 := r43
  have r44 : (0 : Int) ≤ ρ 44 ∧ ρ 44 ≤ 2000 := r44
  have r45 : (0 : Int) ≤ ρ 45 ∧ ρ 45 ≤ 4 := r45
  obtain ⟨f0, f1, f2, f3, f4, f5, f6, f7, f8, f9, f10, f11, f12, f13, f14, f15, f16, f17, f18, f19, f20, f21, -⟩ := hf
  have f0 : (0 : Int) ≤ ρ 44 + -ρ 34 := f0
  have f1 : (0 : Int) ≤ -ρ 44 + ρ 4 + (-1) := f1
  have f2 : (0 : Int) ≤ -ρ 34 + ρ 4 + (-1) := f2
  have f3 : (0 : Int) ≤ -ρ 42 + ρ 34 + (-1) := f3
  have f4 : (0 : Int) ≤ ρ 34 + -ρ 19 + (-1) := f4
  have f5 : (0 : Int) ≤ ρ 39 + -ρ 36 + (-1) := f5
  have f6 : (0 : Int) ≤ ρ 39 + -ρ 24 := f6
  have f7 : (0 : Int) ≤ ρ 40 + -ρ 26 := f7
  have f8 : (0 : Int) ≤ ρ 42 + -ρ 19 := f8
  have f9 : (0 : Int) ≤ -ρ 41 + ρ 4 := f9
  have f10 : (0 : Int) ≤ -ρ 42 + ρ 4 + (-1) := f10
  have f11 : (0 : Int) ≤ -ρ 19 + ρ 4 + (-1) := f11
  have f12 : (0 : Int) ≤ -ρ 32 + ρ 4 := f12
  have f13 : (0 : Int) ≤ -ρ 36 + ρ 24 := f13
  have f14 : (0 : Int) ≤ -ρ 18 + ρ 4 := f14
  have f15 : (0 : Int) ≤ ρ 26 + -ρ 16 := f15
  have f16 : (0 : Int) ≤ ρ 25 + -ρ 15 := f16
  have f17 : (0 : Int) ≤ ρ 24 + -ρ 14 := f17
  have f18 : (0 : Int) ≤ ρ 21 + -ρ 10 := f18
  have f19 : (0 : Int) ≤ ρ 19 + -ρ 3 := f19
  have f20 : (0 : Int) ≤ ρ 19 + -ρ 18 := f20
  have f21 : (0 : Int) ≤ -ρ 20 + ρ 18 := f21
  obtain ⟨m0, m1, m2, m3, m4, m5, m6, m7, m8, m9, m10, m11, m12, m13, m14, m15, m16, m17, m18, m19, m20, m21, m22, m23, m24, m25, m26, m27, m28, m29, m30, m31, m32, m33, m34, m35, m36, m37, m38, m39, m40, m41, m42, m43, m44, m45, m46, m47, m48, m49, m50, m51, m52, m53, m54, m55, m56, m57, -⟩ := hm
  have m0 : γ 0 1 0 10 = ρ 0 := m0
  have m1 : γ 0 40 0 (ρ 0) = ρ 1 := m1
  have m2 : γ 0 9 (ρ 1) 2 = ρ 2 := m2
  have m3 : γ 0 2 0 6 = ρ 3 := m3
  have m4 : γ 0 2 0 3 = ρ 4 := m4
  have m5 : γ 0 2 0 7 = ρ 5 := m5
  have m6 : γ 0 10 (9 * ρ 1) 8 = ρ 6 := m6
  have m7 : γ 0 10 (9 * ρ 1) 12 = ρ 7 := m7
  have m8 : γ 0 10 (9 * ρ 1) 14 = ρ 8 := m8
  have m9 : γ 0 9 (ρ 1) 3 = ρ 9 := m9
  have m10 : γ 0 1 0 7 = ρ 10 := m10
  have m11 : γ 0 2 0 4 = ρ 11 := m11
  have m12 : γ 0 2 0 5 = ρ 12 := m12
  have m13 : γ 0 2 0 9 = ρ 13 := m13
  have m14 : γ 0 2 0 13 = ρ 14 := m14
  have m15 : γ 0 2 0 16 = ρ 15 := m15
  have m16 : γ 0 3 0 1 = ρ 16 := m16
  have m17 : γ 0 10 (9 * ρ 1) 15 = ρ 17 := m17
  have m18 : γ 1 9 (ρ 1) 2 = ρ 18 := m18
  have m19 : γ 1 2 0 6 = ρ 19 := m19
  have m20 : γ 1 10 (9 * ρ 1) 8 = ρ 6 := m20
  have m21 : γ 1 10 (9 * ρ 1) 12 = ρ 7 := m21
  have m22 : γ 1 9 (ρ 1) 3 = ρ 20 := m22
  have m23 : γ 1 1 0 7 = ρ 21 := m23
  have m24 : γ 1 2 0 4 = ρ 11 := m24
  have m25 : γ 1 2 0 5 = ρ 22 := m25
  have m26 : γ 1 2 0 9 = ρ 23 := m26
  have m27 : γ 1 2 0 13 = ρ 24 := m27
  have m28 : γ 1 2 0 16 = ρ 25 := m28
  have m29 : γ 1 3 0 1 = ρ 26 := m29
  have m30 : γ 1 10 (ρ 18 + 9 * ρ 1 + 1) 4 = ρ 27 := m30
  have m31 : γ 1 10 (ρ 18 + 9 * ρ 1 + 1) 11 = ρ 28 := m31
  have m32 : γ 1 10 (ρ 18 + 9 * ρ 1 + 1) 8 = ρ 29 := m32
  have m33 : γ 1 10 (ρ 18 + 9 * ρ 1 + 1) 5 = ρ 30 := m33
  have m34 : γ 1 10 (ρ 18 + 9 * ρ 1 + 1) 7 = ρ 31 := m34
  have m35 : γ 1 10 (ρ 18 + 9 * ρ 1 + 1) 9 = ρ 32 := m35
  have m36 : γ 1 10 (ρ 18 + 9 * ρ 1 + 1) 12 = ρ 33 := m36
  have m37 : γ 3 2 0 6 = ρ 34 := m37
  have m38 : γ 3 10 (ρ 18 + 9 * ρ 1 + 1) 4 = ρ 35 := m38
  have m39 : γ 3 10 (ρ 18 + 9 * ρ 1 + 1) 11 = ρ 36 := m39
  have m40 : γ 3 10 (ρ 18 + 9 * ρ 1 + 1) 8 = (-1) := m40
  have m41 : γ 3 10 (9 * ρ 1) 8 = ρ 6 := m41
  have m42 : γ 3 10 (9 * ρ 1) 12 = ρ 7 := m42
  have m43 : γ 3 1 0 7 = ρ 21 := m43
  have m44 : γ 3 2 0 4 = ρ 11 := m44
  have m45 : γ 3 2 0 5 = ρ 37 := m45
  have m46 : γ 3 2 0 9 = ρ 38 := m46
  have m47 : γ 3 2 0 13 = ρ 39 := m47
  have m48 : γ 3 2 0 16 = ρ 25 := m48
  have m49 : γ 3 3 0 1 = ρ 40 := m49
  have m50 : γ 3 10 (ρ 18 + 9 * ρ 1 + 1) 5 = ρ 41 := m50
  have m51 : γ 3 10 (ρ 18 + 9 * ρ 1 + 1) 7 = ρ 42 := m51
  have m52 : γ 3 10 (ρ 18 + 9 * ρ 1 + 1) 9 = (-1) := m52
  have m53 : γ 3 10 (ρ 18 + 9 * ρ 1 + 1) 12 = 0 := m53
  have m54 : γ 5 2 0 6 = ρ 44 := m54
  have m55 : γ 3 10 (9 * ρ 1) 5 = ρ 45 := m55
  have m56 : γ 7 2 0 4 = ρ 11 := m56
  have m57 : γ 8 2 0 4 = ρ 11 := m57
  obtain ⟨⟨⟨⟨⟨⟨⟨⟨-, c1⟩, c2⟩, c3⟩, c4⟩, c5⟩, c6⟩, c7⟩, c8⟩ := hc
  have c1 : ∀ (G : Nat) (k j : Int), ¬ rMdP m107_ G j → γ 1 G k j = γ 0 G k j := c1
  have c2 : ∀ (G : Nat) (k j : Int), ¬ rMdP m0_ G j → γ 2 G k j = γ 1 G k j := c2
  have c3 : ∀ (G : Nat) (k j : Int), ¬ rMdP m106_ G j → γ 3 G k j = γ 2 G k j := c3
  have c4 : γ 4 = rUp (γ 3) 9 (ρ 1) 2 (ρ 18 + 1) := c4
  have c5 : ∀ (G : Nat) (k j : Int), ¬ rMdP m77_ G j → γ 5 G k j = γ 4 G k j := c5
  have c6 : γ 6 = rUp (γ 5) 2 0 6 (ρ 44 + 1) := c6
  have c7 : ∀ (G : Nat) (k j : Int), ¬ rMdP m72_ G j → γ 7 G k j = γ 6 G k j := c7
  have c8 : ∀ (G : Nat) (k j : Int), ¬ rMdP m72_ G j → γ 8 G k j = γ 7 G k j := c8
  obtain ⟨l0, l1, l2, l3, l4, -⟩ := hl
  have l0 : sn132 [ρ 1, ρ 18] (γ 1) 0 (ρ 18 + 9 * ρ 1 + 1) (γ 2) := hS132 _ _ _ _ _ l0
  have l1 : sn157 [ρ 0, ρ 1, ρ 18, ρ 19, ρ 4, ρ 27, ρ 28, ρ 29, ρ 5, ρ 6, ρ 7, ρ 21, ρ 11, ρ 22, ρ 23, ρ 24, ρ 25, ρ 26, ρ 30, ρ 31, ρ 32, ρ 33] (γ 2) 0 1 (γ 3) := hS157 _ _ _ _ _ l1
  have l2 : sn114 [ρ 34, ρ 4] (γ 4) 0 (ρ 43) (γ 5) := hS114 _ _ _ _ _ l2
  have l3 : sn153 [9 * ρ 1, ρ 11, ρ 37, ρ 45, ρ 7, ρ 8, ρ 17] (γ 6) 0 1 (γ 7) := hS153 _ _ _ _ _ l3
  have l4 : sn152 [ρ 11, ρ 25] (γ 7) 0 1 (γ 8) := hS152 _ _ _ _ _ l4
  show sn158 [ρ 0, ρ 1, ρ 2, ρ 3, ρ 4, ρ 5, ρ 6, ρ 7, ρ 8, ρ 9, ρ 10, ρ 11, ρ 12, ρ 13, ρ 14, ρ 15, ρ 16, ρ 17] (γ 0) 0 1 (γ 8)
  have hD : en158 (γ 0) (0, [], γ 1) = .inr (0, 1, γ 8) := by
    unfold en158
    refine (if_pos (show (0 : Nat) = 0 by decide)).trans ?_
    refine (zLet_eq (show _ = γ 1 from rfl)).trans ?_
    refine (zLet_eq m0).trans ?_
    refine (zLet_eq m1).trans ?_
    refine (zLet_eq m18).trans ?_
    refine (zLet_eq m22).trans ?_
    refine (if_neg (show ¬ (ρ 18 ≥ 8) by omega)).trans ?_
    refine (zLet_eq (show fn132 [ρ 1, ρ 18] (γ 1) = (0, ρ 18 + 9 * ρ 1 + 1, γ 2) from l0.symm)).trans ?_
    refine (zLet_eq (show _ = γ 2 from rfl)).trans ?_
    refine (zLet_eq (show fn157 [] (γ 2) = (0, 1, γ 3) from l1.symm)).trans ?_
    refine (zLet_eq (show _ = γ 3 from rfl)).trans ?_
    refine (if_pos (show (1 : Int) ≤ 1 by omega)).trans ?_
    refine (if_pos (show 3 ≤ γ 3 10 (ρ 18 + 9 * ρ 1 + 1) 4 by omega)).trans ?_
    refine (if_pos (show 6 ≤ γ 3 10 (ρ 18 + 9 * ρ 1 + 1) 4 by omega)).trans ?_
    refine (zLet_eq c4.symm).trans ?_
    refine (zLet_eq (show fn114 [] (γ 4) = (0, ρ 43, γ 5) from l2.symm)).trans ?_
    refine (zLet_eq (show _ = γ 5 from rfl)).trans ?_
    refine (if_pos (show (0 : Int) ≤ ρ 43 by omega)).trans ?_
    refine (zLet_eq (show _ = ρ 43 from rfl)).trans ?_
    refine (zLet_eq m54).trans ?_
    refine (if_neg (show ¬ (ρ 43 ≠ 46) by omega)).trans ?_
    refine (zLet_eq c6.symm).trans ?_
    refine (zLet_eq (show fn153 [9 * ρ 1] (γ 6) = (0, 1, γ 7) from l3.symm)).trans ?_
    refine (zLet_eq (show _ = γ 7 from rfl)).trans ?_
    refine (if_pos (show (1 : Int) ≤ 1 by omega)).trans ?_
    refine (zLet_eq (show fn152 [] (γ 7) = (0, 1, γ 8) from l4.symm)).trans ?_
    refine (zLet_eq (show _ = γ 8 from rfl)).trans ?_
    refine (if_pos (show (1 : Int) ≤ 1 by omega)).trans ?_
    rfl
  exact zGoo_aend hJ hD
theorem vn158a0_15 {S : Nat → zSpc} (hS109 : ∀ x g o v gz, S 109 x g o v gz → sn109 x g o v gz) (hS114 : ∀ x g o v gz, S 114 x g o v gz → sn114 x g o v gz) (hS132 : ∀ x g o v gz, S 132 x g o v gz → sn132 x g o v gz) (hS152 : ∀ x g o v gz, S 152 x g o v gz → sn152 x g o v gz) (hS153 : ∀ x g o v gz, S 153 x g o v gz → sn153 x g o v gz) (hS157 : ∀ x g o v gz, S 157 x g o v gz → sn157 x g o v gz) {a : List Int} {g : rHp} : ∀ (ρ : Nat → Int) (γ : Nat → rHp), jn158 a g 0 (zAg (zNA a158_ 0) ρ) (γ 1) → zO 18 S a g q158a0_15 ρ γ → zGl (fun i vs g1 => jn158 a g i vs g1) (sn158 a g) q158a0_15 ρ γ := by
  intro ρ γ hJ h
  obtain ⟨ha, hg, hr, hf, hm, hc, hl⟩ := h
  have ha : a = [ρ 0, ρ 1, ρ 2, ρ 3, ρ 4, ρ 5, ρ 6, ρ 7, ρ 8, ρ 9, ρ 10, ρ 11, ρ 12, ρ 13, ρ 14, ρ 15, ρ 16, ρ 17] := ha
  subst ha
  subst hg
  have hJ : jn158 [ρ 0, ρ 1, ρ 2, ρ 3, ρ 4, ρ 5, ρ 6, ρ 7, ρ 8, ρ 9, ρ 10, ρ 11, ρ 12, ρ 13, ρ 14, ρ 15, ρ 16, ρ 17] (γ 0) 0 [ρ 0, ρ 1, ρ 2, ρ 3, ρ 4, ρ 5, ρ 6, ρ 7, ρ 8, ρ 9, ρ 10, ρ 11, ρ 12, ρ 13, ρ 14, ρ 15, ρ 16, ρ 17, ρ 18, ρ 19, ρ 20, ρ 21, ρ 22, ρ 23, ρ 24, ρ 25, ρ 26] (γ 1) := hJ
  obtain ⟨r0, r1, r2, r3, r4, r5, r6, r7, r8, r9, r10, r11, r12, r13, r14, r15, r16, r17, r18, r19, r20, r21, r22, r23, r24, r25, r26, r27, r28, r29, r30, r31, r32, r33, r34, r35, r36, r37, r38, r39, r40, r41, r42, r43, r44, r45, r46, r47, -⟩ := hr
  have r0 : (0 : Int) ≤ ρ 0 ∧ ρ 0 ≤ 60 := r0
  have r1 : (0 : Int) ≤ ρ 1 ∧ ρ 1 ≤ 60 := r1
  have r2 : (0 : Int) ≤ ρ 2 ∧ ρ 2 ≤ 8 := r2
  have r3 : (0 : Int) ≤ ρ 3 ∧ ρ 3 ≤ 2000 := r3
  have r4 : (2 : Int) ≤ ρ 4 ∧ ρ 4 ≤ 2000 := r4
  have r5 : (0 : Int) ≤ ρ 5 ∧ ρ 5 ≤ 0 := r5
  have r6 : ((-1) : Int) ≤ ρ 6 ∧ ρ 6 ≤ 19 := r6
  have r7 : (0 : Int) ≤ ρ 7 ∧ ρ 7 ≤ 4 := r7
  have r8 : ((-1) : Int) ≤ ρ 8 ∧ ρ 8 ≤ 7 := r8
  have r9 : (0 : Int) ≤ ρ 9 ∧ ρ 9 ≤ 8 := r9
  have r10 : (0 : Int) ≤ ρ 10 ∧ ρ 10 ≤ 20 := r10
  have r11 : ((-2147483648) : Int) ≤ ρ 11 ∧ ρ 11 ≤ 2147483647 := r11
  have r12 : ((-2147483648) : Int) ≤ ρ 12 ∧ ρ 12 ≤ 2147483647 := r12
  have r13 : ((-2147483648) : Int) ≤ ρ 13 ∧ ρ 13 ≤ 2147483647 := r13
  have r14 : (0 : Int) ≤ ρ 14 ∧ ρ 14 ≤ 8 := r14
  have r15 : (0 : Int) ≤ ρ 15 ∧ ρ 15 ≤ 32 := r15
  have r16 : (0 : Int) ≤ ρ 16 ∧ ρ 16 ≤ 5120 := r16
  have r17 : ((-2147483648) : Int) ≤ ρ 17 ∧ ρ 17 ≤ 2147483647 := r17
  have r18 : (0 : Int) ≤ ρ 18 ∧ ρ 18 ≤ 7 := r18
  have r19 : (0 : Int) ≤ ρ 19 ∧ ρ 19 ≤ 2000 := r19
  have r20 : (0 : Int) ≤ ρ 20 ∧ ρ 20 ≤ 8 := r20
  have r21 : (0 : Int) ≤ ρ 21 ∧ ρ 21 ≤ 20 := r21
  have r22 : ((-2147483648) : Int) ≤ ρ 22 ∧ ρ 22 ≤ 2147483647 := r22
  have r23 : ((-2147483648) : Int) ≤ ρ 23 ∧ ρ 23 ≤ 2147483647 := r23
  have r24 : (0 : Int) ≤ ρ 24 ∧ ρ 24 ≤ 8 := r24
  have r25 : (0 : Int) ≤ ρ 25 ∧ ρ 25 ≤ 32 := r25
  have r26 : (0 : Int) ≤ ρ 26 ∧ ρ 26 ≤ 5120 := r26
  have r27 : (0 : Int) ≤ ρ 27 ∧ ρ 27 ≤ 8 := r27
  have r28 : ((-1) : Int) ≤ ρ 28 ∧ ρ 28 ≤ 7 := r28
  have r29 : ((-1) : Int) ≤ ρ 29 ∧ ρ 29 ≤ 19 := r29
  have r30 : (0 : Int) ≤ ρ 30 ∧ ρ 30 ≤ 4 := r30
  have r31 : ((-2147483648) : Int) ≤ ρ 31 ∧ ρ 31 ≤ 2147483647 := r31
  have r32 : ((-1) : Int) ≤ ρ 32 ∧ ρ 32 ≤ 3 := r32
  have r33 : (0 : Int) ≤ ρ 33 ∧ ρ 33 ≤ 4 := r33
  have r34 : (3 : Int) ≤ ρ 34 ∧ ρ 34 ≤ 2000 := r34
  have r35 : (2 : Int) ≤ ρ 35 ∧ ρ 35 ≤ 2 := r35
  have r36 : (0 : Int) ≤ ρ 36 ∧ ρ 36 ≤ 19 := r36
  have r37 : (1 : Int) ≤ ρ 37 ∧ ρ 37 ≤ 20 := r37
  have r38 : ((-2147483648) : Int) ≤ ρ 38 ∧ ρ 38 ≤ 2147483647 := r38
  have r39 : ((-2147483648) : Int) ≤ ρ 39 ∧ ρ 39 ≤ 2147483647 := r39
  have r40 : (0 : Int) ≤ ρ 40 ∧ ρ 40 ≤ 8 := r40
  have r41 : (0 : Int) ≤ ρ 41 ∧ ρ 41 ≤ 32 := r41
  have r42 : (0 : Int) ≤ ρ 42 ∧ ρ 42 ≤ 5120 := r42
  have r43 : (1 : Int) ≤ ρ 43 ∧ ρ 43 ≤ 4 := r43
  have r44 : (0 : Int) ≤ ρ 44 ∧ ρ 44 ≤ 1999 := r44
  have r45 : ((-1) : Int) ≤ ρ 45 ∧ ρ 45 ≤ 3 := r45
  have r46 : (0 : Int) ≤ ρ 46 ∧ ρ 46 ≤ 0 := r46
  have r47 : (0 : Int) ≤ ρ 47 ∧ ρ 47 ≤ 2000 := r47
  obtain ⟨f0, f1, f2, f3, f4, f5, f6, f7, f8, f9, f10, f11, f12, f13, f14, f15, f16, f17, f18, f19, f20, f21, f22, f23, f24, f25, -⟩ := hf
  have f0 : (0 : Int) ≤ ρ 47 + -ρ 34 := f0
  have f1 : (0 : Int) ≤ ρ 47 + -ρ 4 := f1
  have f2 : (0 : Int) ≤ -ρ 43 + ρ 34 + (-1) := f2
  have f3 : (0 : Int) ≤ -ρ 44 + ρ 34 + (-1) := f3
  have f4 : (0 : Int) ≤ -ρ 45 + ρ 34 + (-1) := f4
  have f5 : (0 : Int) ≤ ρ 34 + -ρ 19 + (-1) := f5
  have f6 : (0 : Int) ≤ ρ 37 + -ρ 36 + (-1) := f6
  have f7 : (0 : Int) ≤ ρ 37 + -ρ 21 := f7
  have f8 : (0 : Int) ≤ ρ 40 + -ρ 24 := f8
  have f9 : (0 : Int) ≤ ρ 41 + -ρ 25 := f9
  have f10 : (0 : Int) ≤ ρ 42 + -ρ 26 := f10
  have f11 : (0 : Int) ≤ ρ 44 + -ρ 19 := f11
  have f12 : (0 : Int) ≤ -ρ 34 + ρ 4 := f12
  have f13 : (0 : Int) ≤ -ρ 35 + ρ 4 + (-1) := f13
  have f14 : (0 : Int) ≤ -ρ 19 + ρ 4 + (-1) := f14
  have f15 : (0 : Int) ≤ -ρ 5 + ρ 4 + (-1) := f15
  have f16 : (0 : Int) ≤ -ρ 32 + ρ 4 := f16
  have f17 : (0 : Int) ≤ -ρ 36 + ρ 21 := f17
  have f18 : (0 : Int) ≤ -ρ 18 + ρ 4 := f18
  have f19 : (0 : Int) ≤ ρ 26 + -ρ 16 := f19
  have f20 : (0 : Int) ≤ ρ 25 + -ρ 15 := f20
  have f21 : (0 : Int) ≤ ρ 24 + -ρ 14 := f21
  have f22 : (0 : Int) ≤ ρ 21 + -ρ 10 := f22
  have f23 : (0 : Int) ≤ ρ 19 + -ρ 3 := f23
  have f24 : (0 : Int) ≤ ρ 19 + -ρ 18 := f24
  have f25 : (0 : Int) ≤ -ρ 20 + ρ 18 := f25
  obtain ⟨m0, m1, m2, m3, m4, m5, m6, m7, m8, m9, m10, m11, m12, m13, m14, m15, m16, m17, m18, m19, m20, m21, m22, m23, m24, m25, m26, m27, m28, m29, m30, m31, m32, m33, m34, m35, m36, m37, m38, m39, m40, m41, m42, m43, m44, m45, m46, m47, m48, m49, m50, m51, m52, m53, m54, m55, -⟩ := hm
  have m0 : γ 0 1 0 10 = ρ 0 := m0
  have m1 : γ 0 40 0 (ρ 0) = ρ 1 := m1
  have m2 : γ 0 9 (ρ 1) 2 = ρ 2 := m2
  have m3 : γ 0 2 0 6 = ρ 3 := m3
  have m4 : γ 0 2 0 3 = ρ 4 := m4
  have m5 : γ 0 2 0 7 = ρ 5 := m5
  have m6 : γ 0 10 (9 * ρ 1) 8 = ρ 6 := m6
  have m7 : γ 0 10 (9 * ρ 1) 12 = ρ 7 := m7
  have m8 : γ 0 10 (9 * ρ 1) 14 = ρ 8 := m8
  have m9 : γ 0 9 (ρ 1) 3 = ρ 9 := m9
  have m10 : γ 0 1 0 7 = ρ 10 := m10
  have m11 : γ 0 2 0 4 = ρ 11 := m11
  have m12 : γ 0 2 0 5 = ρ 12 := m12
  have m13 : γ 0 2 0 9 = ρ 13 := m13
  have m14 : γ 0 2 0 13 = ρ 14 := m14
  have m15 : γ 0 2 0 16 = ρ 15 := m15
  have m16 : γ 0 3 0 1 = ρ 16 := m16
  have m17 : γ 0 10 (9 * ρ 1) 15 = ρ 17 := m17
  have m18 : γ 1 9 (ρ 1) 2 = ρ 18 := m18
  have m19 : γ 1 2 0 6 = ρ 19 := m19
  have m20 : γ 1 10 (9 * ρ 1) 8 = ρ 6 := m20
  have m21 : γ 1 10 (9 * ρ 1) 12 = ρ 7 := m21
  have m22 : γ 1 9 (ρ 1) 3 = ρ 20 := m22
  have m23 : γ 1 1 0 7 = ρ 21 := m23
  have m24 : γ 1 2 0 4 = ρ 11 := m24
  have m25 : γ 1 2 0 5 = ρ 22 := m25
  have m26 : γ 1 2 0 9 = ρ 23 := m26
  have m27 : γ 1 2 0 13 = ρ 24 := m27
  have m28 : γ 1 2 0 16 = ρ 25 := m28
  have m29 : γ 1 3 0 1 = ρ 26 := m29
  have m30 : γ 1 10 (ρ 18 + 9 * ρ 1 + 1) 4 = ρ 27 := m30
  have m31 : γ 1 10 (ρ 18 + 9 * ρ 1 + 1) 11 = ρ 28 := m31
  have m32 : γ 1 10 (ρ 18 + 9 * ρ 1 + 1) 8 = ρ 29 := m32
  have m33 : γ 1 10 (ρ 18 + 9 * ρ 1 + 1) 5 = ρ 30 := m33
  have m34 : γ 1 10 (ρ 18 + 9 * ρ 1 + 1) 7 = ρ 31 := m34
  have m35 : γ 1 10 (ρ 18 + 9 * ρ 1 + 1) 9 = ρ 32 := m35
  have m36 : γ 1 10 (ρ 18 + 9 * ρ 1 + 1) 12 = ρ 33 := m36
  have m37 : γ 3 2 0 6 = ρ 34 := m37
  have m38 : γ 3 10 (ρ 18 + 9 * ρ 1 + 1) 4 = ρ 35 := m38
  have m39 : γ 3 10 (ρ 18 + 9 * ρ 1 + 1) 11 = ρ 28 := m39
  have m40 : γ 3 10 (ρ 18 + 9 * ρ 1 + 1) 8 = ρ 36 := m40
  have m41 : γ 3 10 (9 * ρ 1) 8 = ρ 6 := m41
  have m42 : γ 3 10 (9 * ρ 1) 12 = ρ 7 := m42
  have m43 : γ 3 1 0 7 = ρ 37 := m43
  have m44 : γ 3 2 0 4 = ρ 11 := m44
  have m45 : γ 3 2 0 5 = ρ 38 := m45
  have m46 : γ 3 2 0 9 = ρ 39 := m46
  have m47 : γ 3 2 0 13 = ρ 40 := m47
  have m48 : γ 3 2 0 16 = ρ 41 := m48
  have m49 : γ 3 3 0 1 = ρ 42 := m49
  have m50 : γ 3 10 (ρ 18 + 9 * ρ 1 + 1) 5 = ρ 43 := m50
  have m51 : γ 3 10 (ρ 18 + 9 * ρ 1 + 1) 7 = ρ 44 := m51
  have m52 : γ 3 10 (ρ 18 + 9 * ρ 1 + 1) 9 = ρ 45 := m52
  have m53 : γ 3 10 (ρ 18 + 9 * ρ 1 + 1) 12 = ρ 46 := m53
  have m54 : γ 5 2 0 6 = ρ 47 := m54
  have m55 : γ 6 2 0 4 = ρ 47 := m55
  obtain ⟨⟨⟨⟨⟨⟨-, c1⟩, c2⟩, c3⟩, c4⟩, c5⟩, c6⟩ := hc
  have c1 : ∀ (G : Nat) (k j : Int), ¬ rMdP m107_ G j → γ 1 G k j = γ 0 G k j := c1
  have c2 : ∀ (G : Nat) (k j : Int), ¬ rMdP m0_ G j → γ 2 G k j = γ 1 G k j := c2
  have c3 : ∀ (G : Nat) (k j : Int), ¬ rMdP m106_ G j → γ 3 G k j = γ 2 G k j := c3
  have c4 : γ 4 = rUp (γ 3) 9 (ρ 1) 2 (ρ 18 + 1) := c4
  have c5 : ∀ (G : Nat) (k j : Int), ¬ rMdP m77_ G j → γ 5 G k j = γ 4 G k j := c5
  have c6 : ∀ (G : Nat) (k j : Int), ¬ rMdP m72_ G j → γ 6 G k j = γ 5 G k j := c6
  obtain ⟨l0, l1, l2, l3, -⟩ := hl
  have l0 : sn132 [ρ 1, ρ 18] (γ 1) 0 (ρ 18 + 9 * ρ 1 + 1) (γ 2) := hS132 _ _ _ _ _ l0
  have l1 : sn157 [ρ 0, ρ 1, ρ 18, ρ 19, ρ 4, ρ 27, ρ 28, ρ 29, ρ 5, ρ 6, ρ 7, ρ 21, ρ 11, ρ 22, ρ 23, ρ 24, ρ 25, ρ 26, ρ 30, ρ 31, ρ 32, ρ 33] (γ 2) 0 1 (γ 3) := hS157 _ _ _ _ _ l1
  have l2 : sn114 [ρ 34, ρ 4] (γ 4) 0 (-1) (γ 5) := hS114 _ _ _ _ _ l2
  have l3 : sn109 [ρ 47, ρ 11] (γ 5) 0 0 (γ 6) := hS109 _ _ _ _ _ l3
  show sn158 [ρ 0, ρ 1, ρ 2, ρ 3, ρ 4, ρ 5, ρ 6, ρ 7, ρ 8, ρ 9, ρ 10, ρ 11, ρ 12, ρ 13, ρ 14, ρ 15, ρ 16, ρ 17] (γ 0) 0 0 (γ 6)
  have hD : en158 (γ 0) (0, [], γ 1) = .inr (0, 0, γ 6) := by
    unfold en158
    refine (if_pos (show (0 : Nat) = 0 by decide)).trans ?_
    refine (zLet_eq (show _ = γ 1 from rfl)).trans ?_
    refine (zLet_eq m0).trans ?_
    refine (zLet_eq m1).trans ?_
    refine (zLet_eq m18).trans ?_
    refine (zLet_eq m22).trans ?_
    refine (if_neg (show ¬ (ρ 18 ≥ 8) by omega)).trans ?_
    refine (zLet_eq (show fn132 [ρ 1, ρ 18] (γ 1) = (0, ρ 18 + 9 * ρ 1 + 1, γ 2) from l0.symm)).trans ?_
    refine (zLet_eq (show _ = γ 2 from rfl)).trans ?_
    refine (zLet_eq (show fn157 [] (γ 2) = (0, 1, γ 3) from l1.symm)).trans ?_
    refine (zLet_eq (show _ = γ 3 from rfl)).trans ?_
    refine (if_pos (show (1 : Int) ≤ 1 by omega)).trans ?_
    refine (if_neg (show ¬ (3 ≤ γ 3 10 (ρ 18 + 9 * ρ 1 + 1) 4) by omega)).trans ?_
    refine (zLet_eq m38).trans ?_
    refine (zLet_eq c4.symm).trans ?_
    refine (if_pos (show ρ 35 ≠ 1 by omega)).trans ?_
    refine (zLet_eq (show fn114 [] (γ 4) = (0, (-1), γ 5) from l2.symm)).trans ?_
    refine (zLet_eq (show _ = γ 5 from rfl)).trans ?_
    refine (if_neg (show ¬ ((0 : Int) ≤ (-1)) by omega)).trans ?_
    refine (zLet_eq m54).trans ?_
    refine (zLet_eq (show fn109 [ρ 47] (γ 5) = (0, 0, γ 6) from l3.symm)).trans ?_
    refine (zLet_eq (show _ = γ 6 from rfl)).trans ?_
    rfl
  exact zGoo_aend hJ hD
theorem vn158a0_16 {S : Nat → zSpc} (hS109 : ∀ x g o v gz, S 109 x g o v gz → sn109 x g o v gz) (hS114 : ∀ x g o v gz, S 114 x g o v gz → sn114 x g o v gz) (hS132 : ∀ x g o v gz, S 132 x g o v gz → sn132 x g o v gz) (hS152 : ∀ x g o v gz, S 152 x g o v gz → sn152 x g o v gz) (hS153 : ∀ x g o v gz, S 153 x g o v gz → sn153 x g o v gz) (hS157 : ∀ x g o v gz, S 157 x g o v gz → sn157 x g o v gz) {a : List Int} {g : rHp} : ∀ (ρ : Nat → Int) (γ : Nat → rHp), jn158 a g 0 (zAg (zNA a158_ 0) ρ) (γ 1) → zO 18 S a g q158a0_16 ρ γ → zGl (fun i vs g1 => jn158 a g i vs g1) (sn158 a g) q158a0_16 ρ γ := by
  intro ρ γ hJ h
  obtain ⟨ha, hg, hr, hf, hm, hc, hl⟩ := h
  have ha : a = [ρ 0, ρ 1, ρ 2, ρ 3, ρ 4, ρ 5, ρ 6, ρ 7, ρ 8, ρ 9, ρ 10, ρ 11, ρ 12, ρ 13, ρ 14, ρ 15, ρ 16, ρ 17] := ha
  subst ha
  subst hg
  have hJ : jn158 [ρ 0, ρ 1, ρ 2, ρ 3, ρ 4, ρ 5, ρ 6, ρ 7, ρ 8, ρ 9, ρ 10, ρ 11, ρ 12, ρ 13, ρ 14, ρ 15, ρ 16, ρ 17] (γ 0) 0 [ρ 0, ρ 1, ρ 2, ρ 3, ρ 4, ρ 5, ρ 6, ρ 7, ρ 8, ρ 9, ρ 10, ρ 11, ρ 12, ρ 13, ρ 14, ρ 15, ρ 16, ρ 17, ρ 18, ρ 19, ρ 20, ρ 21, ρ 22, ρ 23, ρ 24, ρ 25, ρ 26] (γ 1) := hJ
  obtain ⟨r0, r1, r2, r3, r4, r5, r6, r7, r8, r9, r10, r11, r12, r13, r14, r15, r16, r17, r18, r19, r20, r21, r22, r23, r24, r25, r26, r27, r28, r29, r30, r31, r32, r33, r34, r35, r36, r37, r38, r39, r40, r41, r42, r43, r44, r45, r46, r47, r48, -⟩ := hr
  have r0 : (0 : Int) ≤ ρ 0 ∧ ρ 0 ≤ 60 := r0
  have r1 : (0 : Int) ≤ ρ 1 ∧ ρ 1 ≤ 60 := r1
  have r2 : (0 : Int) ≤ ρ 2 ∧ ρ 2 ≤ 8 := r2
  have r3 : (0 : Int) ≤ ρ 3 ∧ ρ 3 ≤ 2000 := r3
  have r4 : (2 : Int) ≤ ρ 4 ∧ ρ 4 ≤ 2000 := r4
  have r5 : (0 : Int) ≤ ρ 5 ∧ ρ 5 ≤ 0 := r5
  have r6 : ((-1) : Int) ≤ ρ 6 ∧ ρ 6 ≤ 19 := r6
  have r7 : (0 : Int) ≤ ρ 7 ∧ ρ 7 ≤ 4 := r7
  have r8 : ((-1) : Int) ≤ ρ 8 ∧ ρ 8 ≤ 7 := r8
  have r9 : (0 : Int) ≤ ρ 9 ∧ ρ 9 ≤ 8 := r9
  have r10 : (0 : Int) ≤ ρ 10 ∧ ρ 10 ≤ 20 := r10
  have r11 : ((-2147483648) : Int) ≤ ρ 11 ∧ ρ 11 ≤ 2147483647 := r11
  have r12 : ((-2147483648) : Int) ≤ ρ 12 ∧ ρ 12 ≤ 2147483647 := r12
  have r13 : ((-2147483648) : Int) ≤ ρ 13 ∧ ρ 13 ≤ 2147483647 := r13
  have r14 : (0 : Int) ≤ ρ 14 ∧ ρ 14 ≤ 8 := r14
  have r15 : (0 : Int) ≤ ρ 15 ∧ ρ 15 ≤ 32 := r15
  have r16 : (0 : Int) ≤ ρ 16 ∧ ρ 16 ≤ 5120 := r16
  have r17 : ((-2147483648) : Int) ≤ ρ 17 ∧ ρ 17 ≤ 2147483647 := r17
  have r18 : (0 : Int) ≤ ρ 18 ∧ ρ 18 ≤ 7 := r18
  have r19 : (0 : Int) ≤ ρ 19 ∧ ρ 19 ≤ 2000 := r19
  have r20 : (0 : Int) ≤ ρ 20 ∧ ρ 20 ≤ 8 := r20
  have r21 : (0 : Int) ≤ ρ 21 ∧ ρ 21 ≤ 20 := r21
  have r22 : ((-2147483648) : Int) ≤ ρ 22 ∧ ρ 22 ≤ 2147483647 := r22
  have r23 : ((-2147483648) : Int) ≤ ρ 23 ∧ ρ 23 ≤ 2147483647 := r23
  have r24 : (0 : Int) ≤ ρ 24 ∧ ρ 24 ≤ 8 := r24
  have r25 : (0 : Int) ≤ ρ 25 ∧ ρ 25 ≤ 32 := r25
  have r26 : (0 : Int) ≤ ρ 26 ∧ ρ 26 ≤ 5120 := r26
  have r27 : (0 : Int) ≤ ρ 27 ∧ ρ 27 ≤ 8 := r27
  have r28 : ((-1) : Int) ≤ ρ 28 ∧ ρ 28 ≤ 7 := r28
  have r29 : ((-1) : Int) ≤ ρ 29 ∧ ρ 29 ≤ 19 := r29
  have r30 : (0 : Int) ≤ ρ 30 ∧ ρ 30 ≤ 4 := r30
  have r31 : ((-2147483648) : Int) ≤ ρ 31 ∧ ρ 31 ≤ 2147483647 := r31
  have r32 : ((-1) : Int) ≤ ρ 32 ∧ ρ 32 ≤ 3 := r32
  have r33 : (0 : Int) ≤ ρ 33 ∧ ρ 33 ≤ 4 := r33
  have r34 : (3 : Int) ≤ ρ 34 ∧ ρ 34 ≤ 2000 := r34
  have r35 : (2 : Int) ≤ ρ 35 ∧ ρ 35 ≤ 2 := r35
  have r36 : (0 : Int) ≤ ρ 36 ∧ ρ 36 ≤ 19 := r36
  have r37 : (1 : Int) ≤ ρ 37 ∧ ρ 37 ≤ 20 := r37
  have r38 : ((-2147483648) : Int) ≤ ρ 38 ∧ ρ 38 ≤ 2147483647 := r38
  have r39 : ((-2147483648) : Int) ≤ ρ 39 ∧ ρ 39 ≤ 2147483647 := r39
  have r40 : (0 : Int) ≤ ρ 40 ∧ ρ 40 ≤ 8 := r40
  have r41 : (0 : Int) ≤ ρ 41 ∧ ρ 41 ≤ 32 := r41
  have r42 : (0 : Int) ≤ ρ 42 ∧ ρ 42 ≤ 5120 := r42
  have r43 : (1 : Int) ≤ ρ 43 ∧ ρ 43 ≤ 4 := r43
  have r44 : (0 : Int) ≤ ρ 44 ∧ ρ 44 ≤ 1999 := r44
  have r45 : ((-1) : Int) ≤ ρ 45 ∧ ρ 45 ≤ 3 := r45
  have r46 : (0 : Int) ≤ ρ 46 ∧ ρ 46 ≤ 0 := r46
  have r47 : (44 : Int) ≤ ρ 47 ∧ ρ 47 ≤ 44 := r47
  have r48 : (0 : Int) ≤ ρ 48 ∧ ρ 48 ≤ 2000 := r48
  obtain ⟨f0, f1, f2, f3, f4, f5, f6, f7, f8, f9, f10, f11, f12, f13, f14, f15, f16, f17, f18, f19, f20, f21, f22, f23, f24, f25, f26, -⟩ := hf
  have f0 : (0 : Int) ≤ ρ 48 + -ρ 34 := f0
  have f1 : (0 : Int) ≤ -ρ 48 + ρ 4 + (-1) := f1
  have f2 : (0 : Int) ≤ -ρ 34 + ρ 4 + (-1) := f2
  have f3 : (0 : Int) ≤ -ρ 43 + ρ 34 + (-1) := f3
  have f4 : (0 : Int) ≤ -ρ 44 + ρ 34 + (-1) := f4
  have f5 : (0 : Int) ≤ -ρ 45 + ρ 34 + (-1) := f5
  have f6 : (0 : Int) ≤ ρ 34 + -ρ 19 + (-1) := f6
  have f7 : (0 : Int) ≤ ρ 37 + -ρ 36 + (-1) := f7
  have f8 : (0 : Int) ≤ ρ 37 + -ρ 21 := f8
  have f9 : (0 : Int) ≤ ρ 40 + -ρ 24 := f9
  have f10 : (0 : Int) ≤ ρ 41 + -ρ 25 := f10
  have f11 : (0 : Int) ≤ ρ 42 + -ρ 26 := f11
  have f12 : (0 : Int) ≤ ρ 44 + -ρ 19 := f12
  have f13 : (0 : Int) ≤ -ρ 34 + ρ 4 := f13
  have f14 : (0 : Int) ≤ -ρ 35 + ρ 4 + (-1) := f14
  have f15 : (0 : Int) ≤ -ρ 19 + ρ 4 + (-1) := f15
  have f16 : (0 : Int) ≤ -ρ 5 + ρ 4 + (-1) := f16
  have f17 : (0 : Int) ≤ -ρ 32 + ρ 4 := f17
  have f18 : (0 : Int) ≤ -ρ 36 + ρ 21 := f18
  have f19 : (0 : Int) ≤ -ρ 18 + ρ 4 := f19
  have f20 : (0 : Int) ≤ ρ 26 + -ρ 16 := f20
  have f21 : (0 : Int) ≤ ρ 25 + -ρ 15 := f21
  have f22 : (0 : Int) ≤ ρ 24 + -ρ 14 := f22
  have f23 : (0 : Int) ≤ ρ 21 + -ρ 10 := f23
  have f24 : (0 : Int) ≤ ρ 19 + -ρ 3 := f24
  have f25 : (0 : Int) ≤ ρ 19 + -ρ 18 := f25
  have f26 : (0 : Int) ≤ -ρ 20 + ρ 18 := f26
  obtain ⟨m0, m1, m2, m3, m4, m5, m6, m7, m8, m9, m10, m11, m12, m13, m14, m15, m16, m17, m18, m19, m20, m21, m22, m23, m24, m25, m26, m27, m28, m29, m30, m31, m32, m33, m34, m35, m36, m37, m38, m39, m40, m41, m42, m43, m44, m45, m46, m47, m48, m49, m50, m51, m52, m53, m54, -⟩ := hm
  have m0 : γ 0 1 0 10 = ρ 0 := m0
  have m1 : γ 0 40 0 (ρ 0) = ρ 1 := m1
  have m2 : γ 0 9 (ρ 1) 2 = ρ 2 := m2
  have m3 : γ 0 2 0 6 = ρ 3 := m3
  have m4 : γ 0 2 0 3 = ρ 4 := m4
  have m5 : γ 0 2 0 7 = ρ 5 := m5
  have m6 : γ 0 10 (9 * ρ 1) 8 = ρ 6 := m6
  have m7 : γ 0 10 (9 * ρ 1) 12 = ρ 7 := m7
  have m8 : γ 0 10 (9 * ρ 1) 14 = ρ 8 := m8
  have m9 : γ 0 9 (ρ 1) 3 = ρ 9 := m9
  have m10 : γ 0 1 0 7 = ρ 10 := m10
  have m11 : γ 0 2 0 4 = ρ 11 := m11
  have m12 : γ 0 2 0 5 = ρ 12 := m12
  have m13 : γ 0 2 0 9 = ρ 13 := m13
  have m14 : γ 0 2 0 13 = ρ 14 := m14
  have m15 : γ 0 2 0 16 = ρ 15 := m15
  have m16 : γ 0 3 0 1 = ρ 16 := m16
  have m17 : γ 0 10 (9 * ρ 1) 15 = ρ 17 := m17
  have m18 : γ 1 9 (ρ 1) 2 = ρ 18 := m18
  have m19 : γ 1 2 0 6 = ρ 19 := m19
  have m20 : γ 1 10 (9 * ρ 1) 8 = ρ 6 := m20
  have m21 : γ 1 10 (9 * ρ 1) 12 = ρ 7 := m21
  have m22 : γ 1 9 (ρ 1) 3 = ρ 20 := m22
  have m23 : γ 1 1 0 7 = ρ 21 := m23
  have m24 : γ 1 2 0 4 = ρ 11 := m24
  have m25 : γ 1 2 0 5 = ρ 22 := m25
  have m26 : γ 1 2 0 9 = ρ 23 := m26
  have m27 : γ 1 2 0 13 = ρ 24 := m27
  have m28 : γ 1 2 0 16 = ρ 25 := m28
  have m29 : γ 1 3 0 1 = ρ 26 := m29
  have m30 : γ 1 10 (ρ 18 + 9 * ρ 1 + 1) 4 = ρ 27 := m30
  have m31 : γ 1 10 (ρ 18 + 9 * ρ 1 + 1) 11 = ρ 28 := m31
  have m32 : γ 1 10 (ρ 18 + 9 * ρ 1 + 1) 8 = ρ 29 := m32
  have m33 : γ 1 10 (ρ 18 + 9 * ρ 1 + 1) 5 = ρ 30 := m33
  have m34 : γ 1 10 (ρ 18 + 9 * ρ 1 + 1) 7 = ρ 31 := m34
  have m35 : γ 1 10 (ρ 18 + 9 * ρ 1 + 1) 9 = ρ 32 := m35
  have m36 : γ 1 10 (ρ 18 + 9 * ρ 1 + 1) 12 = ρ 33 := m36
  have m37 : γ 3 2 0 6 = ρ 34 := m37
  have m38 : γ 3 10 (ρ 18 + 9 * ρ 1 + 1) 4 = ρ 35 := m38
  have m39 : γ 3 10 (ρ 18 + 9 * ρ 1 + 1) 11 = ρ 28 := m39
  have m40 : γ 3 10 (ρ 18 + 9 * ρ 1 + 1) 8 = ρ 36 := m40
  have m41 : γ 3 10 (9 * ρ 1) 8 = ρ 6 := m41
  have m42 : γ 3 10 (9 * ρ 1) 12 = ρ 7 := m42
  have m43 : γ 3 1 0 7 = ρ 37 := m43
  have m44 : γ 3 2 0 4 = ρ 11 := m44
  have m45 : γ 3 2 0 5 = ρ 38 := m45
  have m46 : γ 3 2 0 9 = ρ 39 := m46
  have m47 : γ 3 2 0 13 = ρ 40 := m47
  have m48 : γ 3 2 0 16 = ρ 41 := m48
  have m49 : γ 3 3 0 1 = ρ 42 := m49
  have m50 : γ 3 10 (ρ 18 + 9 * ρ 1 + 1) 5 = ρ 43 := m50
  have m51 : γ 3 10 (ρ 18 + 9 * ρ 1 + 1) 7 = ρ 44 := m51
  have m52 : γ 3 10 (ρ 18 + 9 * ρ 1 + 1) 9 = ρ 45 := m52
  have m53 : γ 3 10 (ρ 18 + 9 * ρ 1 + 1) 12 = ρ 46 := m53
  have m54 : γ 5 2 0 6 = ρ 48 := m54
  obtain ⟨⟨⟨⟨⟨⟨-, c1⟩, c2⟩, c3⟩, c4⟩, c5⟩, c6⟩ := hc
  have c1 : ∀ (G : Nat) (k j : Int), ¬ rMdP m107_ G j → γ 1 G k j = γ 0 G k j := c1
  have c2 : ∀ (G : Nat) (k j : Int), ¬ rMdP m0_ G j → γ 2 G k j = γ 1 G k j := c2
  have c3 : ∀ (G : Nat) (k j : Int), ¬ rMdP m106_ G j → γ 3 G k j = γ 2 G k j := c3
  have c4 : γ 4 = rUp (γ 3) 9 (ρ 1) 2 (ρ 18 + 1) := c4
  have c5 : ∀ (G : Nat) (k j : Int), ¬ rMdP m77_ G j → γ 5 G k j = γ 4 G k j := c5
  have c6 : γ 6 = rUp (γ 5) 2 0 6 (ρ 48 + 1) := c6
  obtain ⟨l0, l1, l2, l3, -⟩ := hl
  have l0 : sn132 [ρ 1, ρ 18] (γ 1) 0 (ρ 18 + 9 * ρ 1 + 1) (γ 2) := hS132 _ _ _ _ _ l0
  have l1 : sn157 [ρ 0, ρ 1, ρ 18, ρ 19, ρ 4, ρ 27, ρ 28, ρ 29, ρ 5, ρ 6, ρ 7, ρ 21, ρ 11, ρ 22, ρ 23, ρ 24, ρ 25, ρ 26, ρ 30, ρ 31, ρ 32, ρ 33] (γ 2) 0 1 (γ 3) := hS157 _ _ _ _ _ l1
  have l2 : sn114 [ρ 34, ρ 4] (γ 4) 0 (ρ 47) (γ 5) := hS114 _ _ _ _ _ l2
  have l3 : ρ 47 ≠ 46 := l3
  show jn158 [ρ 0, ρ 1, ρ 2, ρ 3, ρ 4, ρ 5, ρ 6, ρ 7, ρ 8, ρ 9, ρ 10, ρ 11, ρ 12, ρ 13, ρ 14, ρ 15, ρ 16, ρ 17] (γ 0) 0 [ρ 0, ρ 1, ρ 2, ρ 3, ρ 4, ρ 5, ρ 6, ρ 7, ρ 8, ρ 9, ρ 10, ρ 11, ρ 12, ρ 13, ρ 14, ρ 15, ρ 16, ρ 17, ρ 18 + 1, ρ 48 + 1, ρ 20, ρ 37, ρ 38, ρ 39, ρ 40, ρ 41, ρ 42] (γ 6)
  have hD : en158 (γ 0) (0, [], γ 1) = .inl (0, [], γ 6) := by
    unfold en158
    refine (if_pos (show (0 : Nat) = 0 by decide)).trans ?_
    refine (zLet_eq (show _ = γ 1 from rfl)).trans ?_
    refine (zLet_eq m0).trans ?_
    refine (zLet_eq m1).trans ?_
    refine (zLet_eq m18).trans ?_
    refine (zLet_eq m22).trans ?_
    refine (if_neg (show ¬ (ρ 18 ≥ 8) by omega)).trans ?_
    refine (zLet_eq (show fn132 [ρ 1, ρ 18] (γ 1) = (0, ρ 18 + 9 * ρ 1 + 1, γ 2) from l0.symm)).trans ?_
    refine (zLet_eq (show _ = γ 2 from rfl)).trans ?_
    refine (zLet_eq (show fn157 [] (γ 2) = (0, 1, γ 3) from l1.symm)).trans ?_
    refine (zLet_eq (show _ = γ 3 from rfl)).trans ?_
    refine (if_pos (show (1 : Int) ≤ 1 by omega)).trans ?_
    refine (if_neg (show ¬ (3 ≤ γ 3 10 (ρ 18 + 9 * ρ 1 + 1) 4) by omega)).trans ?_
    refine (zLet_eq m38).trans ?_
    refine (zLet_eq c4.symm).trans ?_
    refine (if_pos (show ρ 35 ≠ 1 by omega)).trans ?_
    refine (zLet_eq (show fn114 [] (γ 4) = (0, ρ 47, γ 5) from l2.symm)).trans ?_
    refine (zLet_eq (show _ = γ 5 from rfl)).trans ?_
    refine (if_pos (show (0 : Int) ≤ ρ 47 by omega)).trans ?_
    refine (zLet_eq (show _ = ρ 47 from rfl)).trans ?_
    refine (zLet_eq m54).trans ?_
    refine (if_pos (show ρ 47 ≠ 46 by omega)).trans ?_
    refine (if_pos (show ρ 47 = 44 by omega)).trans ?_
    refine (zLet_eq c6.symm).trans ?_
    rfl
  exact zGoo_ato hJ hD
theorem vn158a0_17 {S : Nat → zSpc} (hS109 : ∀ x g o v gz, S 109 x g o v gz → sn109 x g o v gz) (hS114 : ∀ x g o v gz, S 114 x g o v gz → sn114 x g o v gz) (hS132 : ∀ x g o v gz, S 132 x g o v gz → sn132 x g o v gz) (hS152 : ∀ x g o v gz, S 152 x g o v gz → sn152 x g o v gz) (hS153 : ∀ x g o v gz, S 153 x g o v gz → sn153 x g o v gz) (hS157 : ∀ x g o v gz, S 157 x g o v gz → sn157 x g o v gz) {a : List Int} {g : rHp} : ∀ (ρ : Nat → Int) (γ : Nat → rHp), jn158 a g 0 (zAg (zNA a158_ 0) ρ) (γ 1) → zO 18 S a g q158a0_17 ρ γ → zGl (fun i vs g1 => jn158 a g i vs g1) (sn158 a g) q158a0_17 ρ γ := by
  intro ρ γ hJ h
  obtain ⟨ha, hg, hr, hf, hm, hc, hl⟩ := h
  have ha : a = [ρ 0, ρ 1, ρ 2, ρ 3, ρ 4, ρ 5, ρ 6, ρ 7, ρ 8, ρ 9, ρ 10, ρ 11, ρ 12, ρ 13, ρ 14, ρ 15, ρ 16, ρ 17] := ha
  subst ha
  subst hg
  have hJ : jn158 [ρ 0, ρ 1, ρ 2, ρ 3, ρ 4, ρ 5, ρ 6, ρ 7, ρ 8, ρ 9, ρ 10, ρ 11, ρ 12, ρ 13, ρ 14, ρ 15, ρ 16, ρ 17] (γ 0) 0 [ρ 0, ρ 1, ρ 2, ρ 3, ρ 4, ρ 5, ρ 6, ρ 7, ρ 8, ρ 9, ρ 10, ρ 11, ρ 12, ρ 13, ρ 14, ρ 15, ρ 16, ρ 17, ρ 18, ρ 19, ρ 20, ρ 21, ρ 22, ρ 23, ρ 24, ρ 25, ρ 26] (γ 1) := hJ
  obtain ⟨r0, r1, r2, r3, r4, r5, r6, r7, r8, r9, r10, r11, r12, r13, r14, r15, r16, r17, r18, r19, r20, r21, r22, r23, r24, r25, r26, r27, r28, r29, r30, r31, r32, r33, r34, r35, r36, r37, r38, r39, r40, r41, r42, r43, r44, r45, r46, r47, r48, -⟩ := hr
  have r0 : (0 : Int) ≤ ρ 0 ∧ ρ 0 ≤ 60 := r0
  have r1 : (0 : Int) ≤ ρ 1 ∧ ρ 1 ≤ 60 := r1
  have r2 : (0 : Int) ≤ ρ 2 ∧ ρ 2 ≤ 8 := r2
  have r3 : (0 : Int) ≤ ρ 3 ∧ ρ 3 ≤ 2000 := r3
  have r4 : (2 : Int) ≤ ρ 4 ∧ ρ 4 ≤ 2000 := r4
  have r5 : (0 : Int) ≤ ρ 5 ∧ ρ 5 ≤ 0 := r5
  have r6 : ((-1) : Int) ≤ ρ 6 ∧ ρ 6 ≤ 19 := r6
  have r7 : (0 : Int) ≤ ρ 7 ∧ ρ 7 ≤ 4 := r7
  have r8 : ((-1) : Int) ≤ ρ 8 ∧ ρ 8 ≤ 7 := r8
  have r9 : (0 : Int) ≤ ρ 9 ∧ ρ 9 ≤ 8 := r9
  have r10 : (0 : Int) ≤ ρ 10 ∧ ρ 10 ≤ 20 := r10
  have r11 : ((-2147483648) : Int) ≤ ρ 11 ∧ ρ 11 ≤ 2147483647 := r11
  have r12 : ((-2147483648) : Int) ≤ ρ 12 ∧ ρ 12 ≤ 2147483647 := r12
  have r13 : ((-2147483648) : Int) ≤ ρ 13 ∧ ρ 13 ≤ 2147483647 := r13
  have r14 : (0 : Int) ≤ ρ 14 ∧ ρ 14 ≤ 8 := r14
  have r15 : (0 : Int) ≤ ρ 15 ∧ ρ 15 ≤ 32 := r15
  have r16 : (0 : Int) ≤ ρ 16 ∧ ρ 16 ≤ 5120 := r16
  have r17 : ((-2147483648) : Int) ≤ ρ 17 ∧ ρ 17 ≤ 2147483647 := r17
  have r18 : (0 : Int) ≤ ρ 18 ∧ ρ 18 ≤ 7 := r18
  have r19 : (0 : Int) ≤ ρ 19 ∧ ρ 19 ≤ 2000 := r19
  have r20 : (0 : Int) ≤ ρ 20 ∧ ρ 20 ≤ 8 := r20
  have r21 : (0 : Int) ≤ ρ 21 ∧ ρ 21 ≤ 20 := r21
  have r22 : ((-2147483648) : Int) ≤ ρ 22 ∧ ρ 22 ≤ 2147483647 := r22
  have r23 : ((-2147483648) : Int) ≤ ρ 23 ∧ ρ 23 ≤ 2147483647 := r23
  have r24 : (0 : Int) ≤ ρ 24 ∧ ρ 24 ≤ 8 := r24
  have r25 : (0 : Int) ≤ ρ 25 ∧ ρ 25 ≤ 32 := r25
  have r26 : (0 : Int) ≤ ρ 26 ∧ ρ 26 ≤ 5120 := r26
  have r27 : (0 : Int) ≤ ρ 27 ∧ ρ 27 ≤ 8 := r27
  have r28 : ((-1) : Int) ≤ ρ 28 ∧ ρ 28 ≤ 7 := r28
  have r29 : ((-1) : Int) ≤ ρ 29 ∧ ρ 29 ≤ 19 := r29
  have r30 : (0 : Int) ≤ ρ 30 ∧ ρ 30 ≤ 4 := r30
  have r31 : ((-2147483648) : Int) ≤ ρ 31 ∧ ρ 31 ≤ 2147483647 := r31
  have r32 : ((-1) : Int) ≤ ρ 32 ∧ ρ 32 ≤ 3 := r32
  have r33 : (0 : Int) ≤ ρ 33 ∧ ρ 33 ≤ 4 := r33
  have r34 : (3 : Int) ≤ ρ 34 ∧ ρ 34 ≤ 2000 := r34
  have r35 : (2 : Int) ≤ ρ 35 ∧ ρ 35 ≤ 2 := r35
  have r36 : (0 : Int) ≤ ρ 36 ∧ ρ 36 ≤ 19 := r36
  have r37 : (1 : Int) ≤ ρ 37 ∧ ρ 37 ≤ 20 := r37
  have r38 : ((-2147483648) : Int) ≤ ρ 38 ∧ ρ 38 ≤ 2147483647 := r38
  have r39 : ((-2147483648) : Int) ≤ ρ 39 ∧ ρ 39 ≤ 2147483647 := r39
  have r40 : (0 : Int) ≤ ρ 40 ∧ ρ 40 ≤ 8 := r40
  have r41 : (0 : Int) ≤ ρ 41 ∧ ρ 41 ≤ 32 := r41
  have r42 : (0 : Int) ≤ ρ 42 ∧ ρ 42 ≤ 5120 := r42
  have r43 : (1 : Int) ≤ ρ 43 ∧ ρ 43 ≤ 4 := r43
  have r44 : (0 : Int) ≤ ρ 44 ∧ ρ 44 ≤ 1999 := r44
  have r45 : ((-1) : Int) ≤ ρ 45 ∧ ρ 45 ≤ 3 := r45
  have r46 : (0 : Int) ≤ ρ 46 ∧ ρ 46 ≤ 0 := r46
  have r47 : (0 : Int) ≤ ρ 47 ∧ ρ 47 ≤ 255 := r47
  have r48 : (0 : Int) ≤ ρ 48 ∧ ρ 48 ≤ 2000 := r48
  obtain ⟨f0, f1, f2, f3, f4, f5, f6, f7, f8, f9, f10, f11, f12, f13, f14, f15, f16, f17, f18, f19, f20, f21, f22, f23, f24, f25, f26, -⟩ := hf
  have f0 : (0 : Int) ≤ ρ 48 + -ρ 34 := f0
  have f1 : (0 : Int) ≤ -ρ 48 + ρ 4 + (-1) := f1
  have f2 : (0 : Int) ≤ -ρ 34 + ρ 4 + (-1) := f2
  have f3 : (0 : Int) ≤ -ρ 43 + ρ 34 + (-1) := f3
  have f4 : (0 : Int) ≤ -ρ 44 + ρ 34 + (-1) := f4
  have f5 : (0 : Int) ≤ -ρ 45 + ρ 34 + (-1) := f5
  have f6 : (0 : Int) ≤ ρ 34 + -ρ 19 + (-1) := f6
  have f7 : (0 : Int) ≤ ρ 37 + -ρ 36 + (-1) := f7
  have f8 : (0 : Int) ≤ ρ 37 + -ρ 21 := f8
  have f9 : (0 : Int) ≤ ρ 40 + -ρ 24 := f9
  have f10 : (0 : Int) ≤ ρ 41 + -ρ 25 := f10
  have f11 : (0 : Int) ≤ ρ 42 + -ρ 26 := f11
  have f12 : (0 : Int) ≤ ρ 44 + -ρ 19 := f12
  have f13 : (0 : Int) ≤ -ρ 34 + ρ 4 := f13
  have f14 : (0 : Int) ≤ -ρ 35 + ρ 4 + (-1) := f14
  have f15 : (0 : Int) ≤ -ρ 19 + ρ 4 + (-1) := f15
  have f16 : (0 : Int) ≤ -ρ 5 + ρ 4 + (-1) := f16
  have f17 : (0 : Int) ≤ -ρ 32 + ρ 4 := f17
  have f18 : (0 : Int) ≤ -ρ 36 + ρ 21 := f18
  have f19 : (0 : Int) ≤ -ρ 18 + ρ 4 := f19
  have f20 : (0 : Int) ≤ ρ 26 + -ρ 16 := f20
  have f21 : (0 : Int) ≤ ρ 25 + -ρ 15 := f21
  have f22 : (0 : Int) ≤ ρ 24 + -ρ 14 := f22
  have f23 : (0 : Int) ≤ ρ 21 + -ρ 10 := f23
  have f24 : (0 : Int) ≤ ρ 19 + -ρ 3 := f24
  have f25 : (0 : Int) ≤ ρ 19 + -ρ 18 := f25
  have f26 : (0 : Int) ≤ -ρ 20 + ρ 18 := f26
  obtain ⟨m0, m1, m2, m3, m4, m5, m6, m7, m8, m9, m10, m11, m12, m13, m14, m15, m16, m17, m18, m19, m20, m21, m22, m23, m24, m25, m26, m27, m28, m29, m30, m31, m32, m33, m34, m35, m36, m37, m38, m39, m40, m41, m42, m43, m44, m45, m46, m47, m48, m49, m50, m51, m52, m53, m54, m55, -⟩ := hm
  have m0 : γ 0 1 0 10 = ρ 0 := m0
  have m1 : γ 0 40 0 (ρ 0) = ρ 1 := m1
  have m2 : γ 0 9 (ρ 1) 2 = ρ 2 := m2
  have m3 : γ 0 2 0 6 = ρ 3 := m3
  have m4 : γ 0 2 0 3 = ρ 4 := m4
  have m5 : γ 0 2 0 7 = ρ 5 := m5
  have m6 : γ 0 10 (9 * ρ 1) 8 = ρ 6 := m6
  have m7 : γ 0 10 (9 * ρ 1) 12 = ρ 7 := m7
  have m8 : γ 0 10 (9 * ρ 1) 14 = ρ 8 := m8
  have m9 : γ 0 9 (ρ 1) 3 = ρ 9 := m9
  have m10 : γ 0 1 0 7 = ρ 10 := m10
  have m11 : γ 0 2 0 4 = ρ 11 := m11
  have m12 : γ 0 2 0 5 = ρ 12 := m12
  have m13 : γ 0 2 0 9 = ρ 13 := m13
  have m14 : γ 0 2 0 13 = ρ 14 := m14
  have m15 : γ 0 2 0 16 = ρ 15 := m15
  have m16 : γ 0 3 0 1 = ρ 16 := m16
  have m17 : γ 0 10 (9 * ρ 1) 15 = ρ 17 := m17
  have m18 : γ 1 9 (ρ 1) 2 = ρ 18 := m18
  have m19 : γ 1 2 0 6 = ρ 19 := m19
  have m20 : γ 1 10 (9 * ρ 1) 8 = ρ 6 := m20
  have m21 : γ 1 10 (9 * ρ 1) 12 = ρ 7 := m21
  have m22 : γ 1 9 (ρ 1) 3 = ρ 20 := m22
  have m23 : γ 1 1 0 7 = ρ 21 := m23
  have m24 : γ 1 2 0 4 = ρ 11 := m24
  have m25 : γ 1 2 0 5 = ρ 22 := m25
  have m26 : γ 1 2 0 9 = ρ 23 := m26
  have m27 : γ 1 2 0 13 = ρ 24 := m27
  have m28 : γ 1 2 0 16 = ρ 25 := m28
  have m29 : γ 1 3 0 1 = ρ 26 := m29
  have m30 : γ 1 10 (ρ 18 + 9 * ρ 1 + 1) 4 = ρ 27 := m30
  have m31 : γ 1 10 (ρ 18 + 9 * ρ 1 + 1) 11 = ρ 28 := m31
  have m32 : γ 1 10 (ρ 18 + 9 * ρ 1 + 1) 8 = ρ 29 := m32
  have m33 : γ 1 10 (ρ 18 + 9 * ρ 1 + 1) 5 = ρ 30 := m33
  have m34 : γ 1 10 (ρ 18 + 9 * ρ 1 + 1) 7 = ρ 31 := m34
  have m35 : γ 1 10 (ρ 18 + 9 * ρ 1 + 1) 9 = ρ 32 := m35
  have m36 : γ 1 10 (ρ 18 + 9 * ρ 1 + 1) 12 = ρ 33 := m36
  have m37 : γ 3 2 0 6 = ρ 34 := m37
  have m38 : γ 3 10 (ρ 18 + 9 * ρ 1 + 1) 4 = ρ 35 := m38
  have m39 : γ 3 10 (ρ 18 + 9 * ρ 1 + 1) 11 = ρ 28 := m39
  have m40 : γ 3 10 (ρ 18 + 9 * ρ 1 + 1) 8 = ρ 36 := m40
  have m41 : γ 3 10 (9 * ρ 1) 8 = ρ 6 := m41
  have m42 : γ 3 10 (9 * ρ 1) 12 = ρ 7 := m42
  have m43 : γ 3 1 0 7 = ρ 37 := m43
  have m44 : γ 3 2 0 4 = ρ 11 := m44
  have m45 : γ 3 2 0 5 = ρ 38 := m45
  have m46 : γ 3 2 0 9 = ρ 39 := m46
  have m47 : γ 3 2 0 13 = ρ 40 := m47
  have m48 : γ 3 2 0 16 = ρ 41 := m48
  have m49 : γ 3 3 0 1 = ρ 42 := m49
  have m50 : γ 3 10 (ρ 18 + 9 * ρ 1 + 1) 5 = ρ 43 := m50
  have m51 : γ 3 10 (ρ 18 + 9 * ρ 1 + 1) 7 = ρ 44 := m51
  have m52 : γ 3 10 (ρ 18 + 9 * ρ 1 + 1) 9 = ρ 45 := m52
  have m53 : γ 3 10 (ρ 18 + 9 * ρ 1 + 1) 12 = ρ 46 := m53
  have m54 : γ 5 2 0 6 = ρ 48 := m54
  have m55 : γ 6 2 0 4 = ρ 48 := m55
  obtain ⟨⟨⟨⟨⟨⟨-, c1⟩, c2⟩, c3⟩, c4⟩, c5⟩, c6⟩ := hc
  have c1 : ∀ (G : Nat) (k j : Int), ¬ rMdP m107_ G j → γ 1 G k j = γ 0 G k j := c1
  have c2 : ∀ (G : Nat) (k j : Int), ¬ rMdP m0_ G j → γ 2 G k j = γ 1 G k j := c2
  have c3 : ∀ (G : Nat) (k j : Int), ¬ rMdP m106_ G j → γ 3 G k j = γ 2 G k j := c3
  have c4 : γ 4 = rUp (γ 3) 9 (ρ 1) 2 (ρ 18 + 1) := c4
  have c5 : ∀ (G : Nat) (k j : Int), ¬ rMdP m77_ G j → γ 5 G k j = γ 4 G k j := c5
  have c6 : ∀ (G : Nat) (k j : Int), ¬ rMdP m72_ G j → γ 6 G k j = γ 5 G k j := c6
  obtain ⟨l0, l1, l2, l3, l4, l5, -⟩ := hl
  have l0 : sn132 [ρ 1, ρ 18] (γ 1) 0 (ρ 18 + 9 * ρ 1 + 1) (γ 2) := hS132 _ _ _ _ _ l0
  have l1 : sn157 [ρ 0, ρ 1, ρ 18, ρ 19, ρ 4, ρ 27, ρ 28, ρ 29, ρ 5, ρ 6, ρ 7, ρ 21, ρ 11, ρ 22, ρ 23, ρ 24, ρ 25, ρ 26, ρ 30, ρ 31, ρ 32, ρ 33] (γ 2) 0 1 (γ 3) := hS157 _ _ _ _ _ l1
  have l2 : sn114 [ρ 34, ρ 4] (γ 4) 0 (ρ 47) (γ 5) := hS114 _ _ _ _ _ l2
  have l3 : ρ 47 ≠ 46 := l3
  have l4 : ρ 47 ≠ 44 := l4
  have l5 : sn109 [ρ 48, ρ 11] (γ 5) 0 0 (γ 6) := hS109 _ _ _ _ _ l5
  show sn158 [ρ 0, ρ 1, ρ 2, ρ 3, ρ 4, ρ 5, ρ 6, ρ 7, ρ 8, ρ 9, ρ 10, ρ 11, ρ 12, ρ 13, ρ 14, ρ 15, ρ 16, ρ 17] (γ 0) 0 0 (γ 6)
  have hD : en158 (γ 0) (0, [], γ 1) = .inr (0, 0, γ 6) := by
    unfold en158
    refine (if_pos (show (0 : Nat) = 0 by decide)).trans ?_
    refine (zLet_eq (show _ = γ 1 from rfl)).trans ?_
    refine (zLet_eq m0).trans ?_
    refine (zLet_eq m1).trans ?_
    refine (zLet_eq m18).trans ?_
    refine (zLet_eq m22).trans ?_
    refine (if_neg (show ¬ (ρ 18 ≥ 8) by omega)).trans ?_
    refine (zLet_eq (show fn132 [ρ 1, ρ 18] (γ 1) = (0, ρ 18 + 9 * ρ 1 + 1, γ 2) from l0.symm)).trans ?_
    refine (zLet_eq (show _ = γ 2 from rfl)).trans ?_
    refine (zLet_eq (show fn157 [] (γ 2) = (0, 1, γ 3) from l1.symm)).trans ?_
    refine (zLet_eq (show _ = γ 3 from rfl)).trans ?_
    refine (if_pos (show (1 : Int) ≤ 1 by omega)).trans ?_
    refine (if_neg (show ¬ (3 ≤ γ 3 10 (ρ 18 + 9 * ρ 1 + 1) 4) by omega)).trans ?_
    refine (zLet_eq m38).trans ?_
    refine (zLet_eq c4.symm).trans ?_
    refine (if_pos (show ρ 35 ≠ 1 by omega)).trans ?_
    refine (zLet_eq (show fn114 [] (γ 4) = (0, ρ 47, γ 5) from l2.symm)).trans ?_
    refine (zLet_eq (show _ = γ 5 from rfl)).trans ?_
    refine (if_pos (show (0 : Int) ≤ ρ 47 by omega)).trans ?_
    refine (zLet_eq (show _ = ρ 47 from rfl)).trans ?_
    refine (zLet_eq m54).trans ?_
    refine (if_pos (show ρ 47 ≠ 46 by omega)).trans ?_
    refine (if_neg (show ¬ (ρ 47 = 44) by omega)).trans ?_
    refine (zLet_eq (show fn109 [ρ 48] (γ 5) = (0, 0, γ 6) from l5.symm)).trans ?_
    refine (zLet_eq (show _ = γ 6 from rfl)).trans ?_
    rfl
  exact zGoo_aend hJ hD
theorem vn158a0_18 {S : Nat → zSpc} (hS109 : ∀ x g o v gz, S 109 x g o v gz → sn109 x g o v gz) (hS114 : ∀ x g o v gz, S 114 x g o v gz → sn114 x g o v gz) (hS132 : ∀ x g o v gz, S 132 x g o v gz → sn132 x g o v gz) (hS152 : ∀ x g o v gz, S 152 x g o v gz → sn152 x g o v gz) (hS153 : ∀ x g o v gz, S 153 x g o v gz → sn153 x g o v gz) (hS157 : ∀ x g o v gz, S 157 x g o v gz → sn157 x g o v gz) {a : List Int} {g : rHp} : ∀ (ρ : Nat → Int) (γ : Nat → rHp), jn158 a g 0 (zAg (zNA a158_ 0) ρ) (γ 1) → zO 18 S a g q158a0_18 ρ γ → zGl (fun i vs g1 => jn158 a g i vs g1) (sn158 a g) q158a0_18 ρ γ := by
  intro ρ γ hJ h
  obtain ⟨ha, hg, hr, hf, hm, hc, hl⟩ := h
  have ha : a = [ρ 0, ρ 1, ρ 2, ρ 3, ρ 4, ρ 5, ρ 6, ρ 7, ρ 8, ρ 9, ρ 10, ρ 11, ρ 12, ρ 13, ρ 14, ρ 15, ρ 16, ρ 17] := ha
  subst ha
  subst hg
  have hJ : jn158 [ρ 0, ρ 1, ρ 2, ρ 3, ρ 4, ρ 5, ρ 6, ρ 7, ρ 8, ρ 9, ρ 10, ρ 11, ρ 12, ρ 13, ρ 14, ρ 15, ρ 16, ρ 17] (γ 0) 0 [ρ 0, ρ 1, ρ 2, ρ 3, ρ 4, ρ 5, ρ 6, ρ 7, ρ 8, ρ 9, ρ 10, ρ 11, ρ 12, ρ 13, ρ 14, ρ 15, ρ 16, ρ 17, ρ 18, ρ 19, ρ 20, ρ 21, ρ 22, ρ 23, ρ 24, ρ 25, ρ 26] (γ 1) := hJ
  obtain ⟨r0, r1, r2, r3, r4, r5, r6, r7, r8, r9, r10, r11, r12, r13, r14, r15, r16, r17, r18, r19, r20, r21, r22, r23, r24, r25, r26, r27, r28, r29, r30, r31, r32, r33, r34, r35, r36, r37, r38, r39, r40, r41, r42, r43, r44, r45, r46, r47, r48, r49, r50, -⟩ := hr
  have r0 : (0 : Int) ≤ ρ 0 ∧ ρ 0 ≤ 60 := r0
  have r1 : (0 : Int) ≤ ρ 1 ∧ ρ 1 ≤ 60 := r1
  have r2 : (0 : Int) ≤ ρ 2 ∧ ρ 2 ≤ 8 := r2
  have r3 : (0 : Int) ≤ ρ 3 ∧ ρ 3 ≤ 2000 := r3
  have r4 : (2 : Int) ≤ ρ 4 ∧ ρ 4 ≤ 2000 := r4
  have r5 : (0 : Int) ≤ ρ 5 ∧ ρ 5 ≤ 0 := r5
  have r6 : ((-1) : Int) ≤ ρ 6 ∧ ρ 6 ≤ 19 := r6
  have r7 : (0 : Int) ≤ ρ 7 ∧ ρ 7 ≤ 4 := r7
  have r8 : ((-1) : Int) ≤ ρ 8 ∧ ρ 8 ≤ 7 := r8
  have r9 : (0 : Int) ≤ ρ 9 ∧ ρ 9 ≤ 8 := r9
  have r10 : (0 : Int) ≤ ρ 10 ∧ ρ 10 ≤ 20 := r10
  have r11 : ((-2147483648) : Int) ≤ ρ 11 ∧ ρ 11 ≤ 2147483647 := r11
  have r12 : ((-2147483648) : Int) ≤ ρ 12 ∧ ρ 12 ≤ 2147483647 := r12
  have r13 : ((-2147483648) : Int) ≤ ρ 13 ∧ ρ 13 ≤ 2147483647 := r13
  have r14 : (0 : Int) ≤ ρ 14 ∧ ρ 14 ≤ 8 := r14
  have r15 : (0 : Int) ≤ ρ 15 ∧ ρ 15 ≤ 32 := r15
  have r16 : (0 : Int) ≤ ρ 16 ∧ ρ 16 ≤ 5120 := r16
  have r17 : ((-2147483648) : Int) ≤ ρ 17 ∧ ρ 17 ≤ 2147483647 := r17
  have r18 : (0 : Int) ≤ ρ 18 ∧ ρ 18 ≤ 7 := r18
  have r19 : (0 : Int) ≤ ρ 19 ∧ ρ 19 ≤ 2000 := r19
  have r20 : (0 : Int) ≤ ρ 20 ∧ ρ 20 ≤ 8 := r20
  have r21 : (0 : Int) ≤ ρ 21 ∧ ρ 21 ≤ 20 := r21
  have r22 : ((-2147483648) : Int) ≤ ρ 22 ∧ ρ 22 ≤ 2147483647 := r22
  have r23 : ((-2147483648) : Int) ≤ ρ 23 ∧ ρ 23 ≤ 2147483647 := r23
  have r24 : (0 : Int) ≤ ρ 24 ∧ ρ 24 ≤ 8 := r24
  have r25 : (0 : Int) ≤ ρ 25 ∧ ρ 25 ≤ 32 := r25
  have r26 : (0 : Int) ≤ ρ 26 ∧ ρ 26 ≤ 5120 := r26
  have r27 : (0 : Int) ≤ ρ 27 ∧ ρ 27 ≤ 8 := r27
  have r28 : ((-1) : Int) ≤ ρ 28 ∧ ρ 28 ≤ 7 := r28
  have r29 : ((-1) : Int) ≤ ρ 29 ∧ ρ 29 ≤ 19 := r29
  have r30 : (0 : Int) ≤ ρ 30 ∧ ρ 30 ≤ 4 := r30
  have r31 : ((-2147483648) : Int) ≤ ρ 31 ∧ ρ 31 ≤ 2147483647 := r31
  have r32 : ((-1) : Int) ≤ ρ 32 ∧ ρ 32 ≤ 3 := r32
  have r33 : (0 : Int) ≤ ρ 33 ∧ ρ 33 ≤ 4 := r33
  have r34 : (3 : Int) ≤ ρ 34 ∧ ρ 34 ≤ 2000 := r34
  have r35 : (2 : Int) ≤ ρ 35 ∧ ρ 35 ≤ 2 := r35
  have r36 : (0 : Int) ≤ ρ 36 ∧ ρ 36 ≤ 19 := r36
  have r37 : (1 : Int) ≤ ρ 37 ∧ ρ 37 ≤ 20 := r37
  have r38 : ((-2147483648) : Int) ≤ ρ 38 ∧ ρ 38 ≤ 2147483647 := r38
  have r39 : ((-2147483648) : Int) ≤ ρ 39 ∧ ρ 39 ≤ 2147483647 := r39
  have r40 : (0 : Int) ≤ ρ 40 ∧ ρ 40 ≤ 8 := r40
  have r41 : (0 : Int) ≤ ρ 41 ∧ ρ 41 ≤ 32 := r41
  have r42 : (0 : Int) ≤ ρ 42 ∧ ρ 42 ≤ 5120 := r42
  have r43 : (1 : Int) ≤ ρ 43 ∧ ρ 43 ≤ 4 := r43
  have r44 : (0 : Int) ≤ ρ 44 ∧ ρ 44 ≤ 1999 := r44
  have r45 : ((-1) : Int) ≤ ρ 45 ∧ ρ 45 ≤ 3 := r45
  have r46 : (0 : Int) ≤ ρ 46 ∧ ρ 46 ≤ 0 := r46
  have r47 : (46 : Int) ≤ ρ 47 ∧ ρ 47 ≤ 46 := r47
  have r48 : (0 : Int) ≤ ρ 48 ∧ ρ 48 ≤ 2000 := r48
  have r49 : (0 : Int) ≤ ρ 49 ∧ ρ 49 ≤ 4 := r49
  have r50 : ((-2147483648) : Int) ≤ ρ 50 ∧ ρ 50 ≤ 2147483647 := r50
  obtain ⟨f0, f1, f2, f3, f4, f5, f6, f7, f8, f9, f10, f11, f12, f13, f14, f15, f16, f17, f18, f19, f20, f21, f22, f23, f24, f25, f26, -⟩ := hf
  have f0 : (0 : Int) ≤ ρ 48 + -ρ 34 := f0
  have f1 : (0 : Int) ≤ -ρ 48 + ρ 4 + (-1) := f1
  have f2 : (0 : Int) ≤ -ρ 34 + ρ 4 + (-1) := f2
  have f3 : (0 : Int) ≤ -ρ 43 + ρ 34 + (-1) := f3
  have f4 : (0 : Int) ≤ -ρ 44 + ρ 34 + (-1) := f4
  have f5 : (0 : Int) ≤ -ρ 45 + ρ 34 + (-1) := f5
  have f6 : (0 : Int) ≤ ρ 34 + -ρ 19 + (-1) := f6
  have f7 : (0 : Int) ≤ ρ 37 + -ρ 36 + (-1) := f7
  have f8 : (0 : Int) ≤ ρ 37 + -ρ 21 := f8
  have f9 : (0 : Int) ≤ ρ 40 + -ρ 24 := f9
  have f10 : (0 : Int) ≤ ρ 41 + -ρ 25 := f10
  have f11 : (0 : Int) ≤ ρ 42 + -ρ 26 := f11
  have f12 : (0 : Int) ≤ ρ 44 + -ρ 19 := f12
  have f13 : (0 : Int) ≤ -ρ 34 + ρ 4 := f13
  have f14 : (0 : Int) ≤ -ρ 35 + ρ 4 + (-1) := f14
  have f15 : (0 : Int) ≤ -ρ 19 + ρ 4 + (-1) := f15
  have f16 : (0 : Int) ≤ -ρ 5 + ρ 4 + (-1) := f16
  have f17 : (0 : Int) ≤ -ρ 32 + ρ 4 := f17
  have f18 : (0 : Int) ≤ -ρ 36 + ρ 21 := f18
  have f19 : (0 : Int) ≤ -ρ 18 + ρ 4 := f19
  have f20 : (0 : Int) ≤ ρ 26 + -ρ 16 := f20
  have f21 : (0 : Int) ≤ ρ 25 + -ρ 15 := f21
  have f22 : (0 : Int) ≤ ρ 24 + -ρ 14 := f22
  have f23 : (0 : Int) ≤ ρ 21 + -ρ 10 := f23
  have f24 : (0 : Int) ≤ ρ 19 + -ρ 3 := f24
  have f25 : (0 : Int) ≤ ρ 19 + -ρ 18 := f25
  have f26 : (0 : Int) ≤ -ρ 20 + ρ 18 := f26
  obtain ⟨m0, m1, m2, m3, m4, m5, m6, m7, m8, m9, m10, m11, m12, m13, m14, m15, m16, m17, m18, m19, m20, m21, m22, m23, m24, m25, m26, m27, m28, m29, m30, m31, m32, m33, m34, m35, m36, m37, m38, m39, m40, m41, m42, m43, m44, m45, m46, m47, m48, m49, m50, m51, m52, m53, m54, m55, m56, -⟩ := hm
  have m0 : γ 0 1 0 10 = ρ 0 := m0
  have m1 : γ 0 40 0 (ρ 0) = ρ 1 := m1
  have m2 : γ 0 9 (ρ 1) 2 = ρ 2 := m2
  have m3 : γ 0 2 0 6 = ρ 3 := m3
  have m4 : γ 0 2 0 3 = ρ 4 := m4
  have m5 : γ 0 2 0 7 = ρ 5 := m5
  have m6 : γ 0 10 (9 * ρ 1) 8 = ρ 6 := m6
  have m7 : γ 0 10 (9 * ρ 1) 12 = ρ 7 := m7
  have m8 : γ 0 10 (9 * ρ 1) 14 = ρ 8 := m8
  have m9 : γ 0 9 (ρ 1) 3 = ρ 9 := m9
  have m10 : γ 0 1 0 7 = ρ 10 := m10
  have m11 : γ 0 2 0 4 = ρ 11 := m11
  have m12 : γ 0 2 0 5 = ρ 12 := m12
  have m13 : γ 0 2 0 9 = ρ 13 := m13
  have m14 : γ 0 2 0 13 = ρ 14 := m14
  have m15 : γ 0 2 0 16 = ρ 15 := m15
  have m16 : γ 0 3 0 1 = ρ 16 := m16
  have m17 : γ 0 10 (9 * ρ 1) 15 = ρ 17 := m17
  have m18 : γ 1 9 (ρ 1) 2 = ρ 18 := m18
  have m19 : γ 1 2 0 6 = ρ 19 := m19
  have m20 : γ 1 10 (9 * ρ 1) 8 = ρ 6 := m20
  have m21 : γ 1 10 (9 * ρ 1) 12 = ρ 7 := m21
  have m22 : γ 1 9 (ρ 1) 3 = ρ 20 := m22
  have m23 : γ 1 1 0 7 = ρ 21 := m23
  have m24 : γ 1 2 0 4 = ρ 11 := m24
  have m25 : γ 1 2 0 5 = ρ 22 := m25
  have m26 : γ 1 2 0 9 = ρ 23 := m26
  have m27 : γ 1 2 0 13 = ρ 24 := m27
  have m28 : γ 1 2 0 16 = ρ 25 := m28
  have m29 : γ 1 3 0 1 = ρ 26 := m29
  have m30 : γ 1 10 (ρ 18 + 9 * ρ 1 + 1) 4 = ρ 27 := m30
  have m31 : γ 1 10 (ρ 18 + 9 * ρ 1 + 1) 11 = ρ 28 := m31
  have m32 : γ 1 10 (ρ 18 + 9 * ρ 1 + 1) 8 = ρ 29 := m32
  have m33 : γ 1 10 (ρ 18 + 9 * ρ 1 + 1) 5 = ρ 30 := m33
  have m34 : γ 1 10 (ρ 18 + 9 * ρ 1 + 1) 7 = ρ 31 := m34
  have m35 : γ 1 10 (ρ 18 + 9 * ρ 1 + 1) 9 = ρ 32 := m35
  have m36 : γ 1 10 (ρ 18 + 9 * ρ 1 + 1) 12 = ρ 33 := m36
  have m37 : γ 3 2 0 6 = ρ 34 := m37
  have m38 : γ 3 10 (ρ 18 + 9 * ρ 1 + 1) 4 = ρ 35 := m38
  have m39 : γ 3 10 (ρ 18 + 9 * ρ 1 + 1) 11 = ρ 28 := m39
  have m40 : γ 3 10 (ρ 18 + 9 * ρ 1 + 1) 8 = ρ 36 := m40
  have m41 : γ 3 10 (9 * ρ 1) 8 = ρ 6 := m41
  have m42 : γ 3 10 (9 * ρ 1) 12 = ρ 7 := m42
  have m43 : γ 3 1 0 7 = ρ 37 := m43
  have m44 : γ 3 2 0 4 = ρ 11 := m44
  have m45 : γ 3 2 0 5 = ρ 38 := m45
  have m46 : γ 3 2 0 9 = ρ 39 := m46
  have m47 : γ 3 2 0 13 = ρ 40 := m47
  have m48 : γ 3 2 0 16 = ρ 41 := m48
  have m49 : γ 3 3 0 1 = ρ 42 := m49
  have m50 : γ 3 10 (ρ 18 + 9 * ρ 1 + 1) 5 = ρ 43 := m50
  have m51 : γ 3 10 (ρ 18 + 9 * ρ 1 + 1) 7 = ρ 44 := m51
  have m52 : γ 3 10 (ρ 18 + 9 * ρ 1 + 1) 9 = ρ 45 := m52
  have m53 : γ 3 10 (ρ 18 + 9 * ρ 1 + 1) 12 = ρ 46 := m53
  have m54 : γ 5 2 0 6 = ρ 48 := m54
  have m55 : γ 3 10 (9 * ρ 1) 5 = ρ 49 := m55
  have m56 : γ 7 2 0 4 = ρ 50 := m56
  obtain ⟨⟨⟨⟨⟨⟨⟨-, c1⟩, c2⟩, c3⟩, c4⟩, c5⟩, c6⟩, c7⟩ := hc
  have c1 : ∀ (G : Nat) (k j : Int), ¬ rMdP m107_ G j → γ 1 G k j = γ 0 G k j := c1
  have c2 : ∀ (G : Nat) (k j : Int), ¬ rMdP m0_ G j → γ 2 G k j = γ 1 G k j := c2
  have c3 : ∀ (G : Nat) (k j : Int), ¬ rMdP m106_ G j → γ 3 G k j = γ 2 G k j := c3
  have c4 : γ 4 = rUp (γ 3) 9 (ρ 1) 2 (ρ 18 + 1) := c4
  have c5 : ∀ (G : Nat) (k j : Int), ¬ rMdP m77_ G j → γ 5 G k j = γ 4 G k j := c5
  have c6 : γ 6 = rUp (γ 5) 2 0 6 (ρ 48 + 1) := c6
  have c7 : ∀ (G : Nat) (k j : Int), ¬ rMdP m72_ G j → γ 7 G k j = γ 6 G k j := c7
  obtain ⟨l0, l1, l2, l3, -⟩ := hl
  have l0 : sn132 [ρ 1, ρ 18] (γ 1) 0 (ρ 18 + 9 * ρ 1 + 1) (γ 2) := hS132 _ _ _ _ _ l0
  have l1 : sn157 [ρ 0, ρ 1, ρ 18, ρ 19, ρ 4, ρ 27, ρ 28, ρ 29, ρ 5, ρ 6, ρ 7, ρ 21, ρ 11, ρ 22, ρ 23, ρ 24, ρ 25, ρ 26, ρ 30, ρ 31, ρ 32, ρ 33] (γ 2) 0 1 (γ 3) := hS157 _ _ _ _ _ l1
  have l2 : sn114 [ρ 34, ρ 4] (γ 4) 0 (ρ 47) (γ 5) := hS114 _ _ _ _ _ l2
  have l3 : sn153 [9 * ρ 1, ρ 11, ρ 38, ρ 49, ρ 7, ρ 8, ρ 17] (γ 6) 0 0 (γ 7) := hS153 _ _ _ _ _ l3
  show sn158 [ρ 0, ρ 1, ρ 2, ρ 3, ρ 4, ρ 5, ρ 6, ρ 7, ρ 8, ρ 9, ρ 10, ρ 11, ρ 12, ρ 13, ρ 14, ρ 15, ρ 16, ρ 17] (γ 0) 0 0 (γ 7)
  have hD : en158 (γ 0) (0, [], γ 1) = .inr (0, 0, γ 7) := by
    unfold en158
    refine (if_pos (show (0 : Nat) = 0 by decide)).trans ?_
    refine (zLet_eq (show _ = γ 1 from rfl)).trans ?_
    refine (zLet_eq m0).trans ?_
    refine (zLet_eq m1).trans ?_
    refine (zLet_eq m18).trans ?_
    refine (zLet_eq m22).trans ?_
    refine (if_neg (show ¬ (ρ 18 ≥ 8) by omega)).trans ?_
    refine (zLet_eq (show fn132 [ρ 1, ρ 18] (γ 1) = (0, ρ 18 + 9 * ρ 1 + 1, γ 2) from l0.symm)).trans ?_
    refine (zLet_eq (show _ = γ 2 from rfl)).trans ?_
    refine (zLet_eq (show fn157 [] (γ 2) = (0, 1, γ 3) from l1.symm)).trans ?_
    refine (zLet_eq (show _ = γ 3 from rfl)).trans ?_
    refine (if_pos (show (1 : Int) ≤ 1 by omega)).trans ?_
    refine (if_neg (show ¬ (3 ≤ γ 3 10 (ρ 18 + 9 * ρ 1 + 1) 4) by omega)).trans ?_
    refine (zLet_eq m38).trans ?_
    refine (zLet_eq c4.symm).trans ?_
    refine (if_pos (show ρ 35 ≠ 1 by omega)).trans ?_
    refine (zLet_eq (show fn114 [] (γ 4) = (0, ρ 47, γ 5) from l2.symm)).trans ?_
    refine (zLet_eq (show _ = γ 5 from rfl)).trans ?_
    refine (if_pos (show (0 : Int) ≤ ρ 47 by omega)).trans ?_
    refine (zLet_eq (show _ = ρ 47 from rfl)).trans ?_
    refine (zLet_eq m54).trans ?_
    refine (if_neg (show ¬ (ρ 47 ≠ 46) by omega)).trans ?_
    refine (zLet_eq c6.symm).trans ?_
    refine (zLet_eq (show fn153 [9 * ρ 1] (γ 6) = (0, 0, γ 7) from l3.symm)).trans ?_
    refine (zLet_eq (show _ = γ 7 from rfl)).trans ?_
    refine (if_neg (show ¬ ((1 : Int) ≤ 0) by omega)).trans ?_
    rfl
  exact zGoo_aend hJ hD
theorem vn158a0_19 {S : Nat → zSpc} (hS109 : ∀ x g o v gz, S 109 x g o v gz → sn109 x g o v gz) (hS114 : ∀ x g o v gz, S 114 x g o v gz → sn114 x g o v gz) (hS132 : ∀ x g o v gz, S 132 x g o v gz → sn132 x g o v gz) (hS152 : ∀ x g o v gz, S 152 x g o v gz → sn152 x g o v gz) (hS153 : ∀ x g o v gz, S 153 x g o v gz → sn153 x g o v gz) (hS157 : ∀ x g o v gz, S 157 x g o v gz → sn157 x g o v gz) {a : List Int} {g : rHp} : ∀ (ρ : Nat → Int) (γ : Nat → rHp), jn158 a g 0 (zAg (zNA a158_ 0) ρ) (γ 1) → zO 18 S a g q158a0_19 ρ γ → zGl (fun i vs g1 => jn158 a g i vs g1) (sn158 a g) q158a0_19 ρ γ := by
  intro ρ γ hJ h
  obtain ⟨ha, hg, hr, hf, hm, hc, hl⟩ := h
  have ha : a = [ρ 0, ρ 1, ρ 2, ρ 3, ρ 4, ρ 5, ρ 6, ρ 7, ρ 8, ρ 9, ρ 10, ρ 11, ρ 12, ρ 13, ρ 14, ρ 15, ρ 16, ρ 17] := ha
  subst ha
  subst hg
  have hJ : jn158 [ρ 0, ρ 1, ρ 2, ρ 3, ρ 4, ρ 5, ρ 6, ρ 7, ρ 8, ρ 9, ρ 10, ρ 11, ρ 12, ρ 13, ρ 14, ρ 15, ρ 16, ρ 17] (γ 0) 0 [ρ 0, ρ 1, ρ 2, ρ 3, ρ 4, ρ 5, ρ 6, ρ 7, ρ 8, ρ 9, ρ 10, ρ 11, ρ 12, ρ 13, ρ 14, ρ 15, ρ 16, ρ 17, ρ 18, ρ 19, ρ 20, ρ 21, ρ 22, ρ 23, ρ 24, ρ 25, ρ 26] (γ 1) := hJ
  obtain ⟨r0, r1, r2, r3, r4, r5, r6, r7, r8, r9, r10, r11, r12, r13, r14, r15, r16, r17, r18, r19, r20, r21, r22, r23, r24, r25, r26, r27, r28, r29, r30, r31, r32, r33, r34, r35, r36, r37, r38, r39, r40, r41, r42, r43, r44, r45, r46, r47, r48, r49, r50, -⟩ := hr
  have r0 : (0 : Int) ≤ ρ 0 ∧ ρ 0 ≤ 60 := r0
  have r1 : (0 : Int) ≤ ρ 1 ∧ ρ 1 ≤ 60 := r1
  have r2 : (0 : Int) ≤ ρ 2 ∧ ρ 2 ≤ 8 := r2
  have r3 : (0 : Int) ≤ ρ 3 ∧ ρ 3 ≤ 2000 := r3
  have r4 : (2 : Int) ≤ ρ 4 ∧ ρ 4 ≤ 2000 := r4
  have r5 : (0 : Int) ≤ ρ 5 ∧ ρ 5 ≤ 0 := r5
  have r6 : ((-1) : Int) ≤ ρ 6 ∧ ρ 6 ≤ 19 := r6
  have r7 : (0 : Int) ≤ ρ 7 ∧ ρ 7 ≤ 4 := r7
  have r8 : ((-1) : Int) ≤ ρ 8 ∧ ρ 8 ≤ 7 := r8
  have r9 : (0 : Int) ≤ ρ 9 ∧ ρ 9 ≤ 8 := r9
  have r10 : (0 : Int) ≤ ρ 10 ∧ ρ 10 ≤ 20 := r10
  have r11 : ((-2147483648) : Int) ≤ ρ 11 ∧ ρ 11 ≤ 2147483647 := r11
  have r12 : ((-2147483648) : Int) ≤ ρ 12 ∧ ρ 12 ≤ 2147483647 := r12
  have r13 : ((-2147483648) : Int) ≤ ρ 13 ∧ ρ 13 ≤ 2147483647 := r13
  have r14 : (0 : Int) ≤ ρ 14 ∧ ρ 14 ≤ 8 := r14
  have r15 : (0 : Int) ≤ ρ 15 ∧ ρ 15 ≤ 32 := r15
  have r16 : (0 : Int) ≤ ρ 16 ∧ ρ 16 ≤ 5120 := r16
  have r17 : ((-2147483648) : Int) ≤ ρ 17 ∧ ρ 17 ≤ 2147483647 := r17
  have r18 : (0 : Int) ≤ ρ 18 ∧ ρ 18 ≤ 7 := r18
  have r19 : (0 : Int) ≤ ρ 19 ∧ ρ 19 ≤ 2000 := r19
  have r20 : (0 : Int) ≤ ρ 20 ∧ ρ 20 ≤ 8 := r20
  have r21 : (0 : Int) ≤ ρ 21 ∧ ρ 21 ≤ 20 := r21
  have r22 : ((-2147483648) : Int) ≤ ρ 22 ∧ ρ 22 ≤ 2147483647 := r22
  have r23 : ((-2147483648) : Int) ≤ ρ 23 ∧ ρ 23 ≤ 2147483647 := r23
  have r24 : (0 : Int) ≤ ρ 24 ∧ ρ 24 ≤ 8 := r24
  have r25 : (0 : Int) ≤ ρ 25 ∧ ρ 25 ≤ 32 := r25
  have r26 : (0 : Int) ≤ ρ 26 ∧ ρ 26 ≤ 5120 := r26
  have r27 : (0 : Int) ≤ ρ 27 ∧ ρ 27 ≤ 8 := r27
  have r28 : ((-1) : Int) ≤ ρ 28 ∧ ρ 28 ≤ 7 := r28
  have r29 : ((-1) : Int) ≤ ρ 29 ∧ ρ 29 ≤ 19 := r29
  have r30 : (0 : Int) ≤ ρ 30 ∧ ρ 30 ≤ 4 := r30
  have r31 : ((-2147483648) : Int) ≤ ρ 31 ∧ ρ 31 ≤ 2147483647 := r31
  have r32 : ((-1) : Int) ≤ ρ 32 ∧ ρ 32 ≤ 3 := r32
  have r33 : (0 : Int) ≤ ρ 33 ∧ ρ 33 ≤ 4 := r33
  have r34 : (3 : Int) ≤ ρ 34 ∧ ρ 34 ≤ 2000 := r34
  have r35 : (2 : Int) ≤ ρ 35 ∧ ρ 35 ≤ 2 := r35
  have r36 : (0 : Int) ≤ ρ 36 ∧ ρ 36 ≤ 19 := r36
  have r37 : (1 : Int) ≤ ρ 37 ∧ ρ 37 ≤ 20 := r37
  have r38 : ((-2147483648) : Int) ≤ ρ 38 ∧ ρ 38 ≤ 2147483647 := r38
  have r39 : ((-2147483648) : Int) ≤ ρ 39 ∧ ρ 39 ≤ 2147483647 := r39
  have r40 : (0 : Int) ≤ ρ 40 ∧ ρ 40 ≤ 8 := r40
  have r41 : (0 : Int) ≤ ρ 41 ∧ ρ 41 ≤ 32 := r41
  have r42 : (0 : Int) ≤ ρ 42 ∧ ρ 42 ≤ 5120 := r42
  have r43 : (1 : Int) ≤ ρ 43 ∧ ρ 43 ≤ 4 := r43
  have r44 : (0 : Int) ≤ ρ 44 ∧ ρ 44 ≤ 1999 := r44
  have r45 : ((-1) : Int) ≤ ρ 45 ∧ ρ 45 ≤ 3 := r45
  have r46 : (0 : Int) ≤ ρ 46 ∧ ρ 46 ≤ 0 := r46
  have r47 : (46 : Int) ≤ ρ 47 ∧ ρ 47 ≤ 46 := r47
  have r48 : (0 : Int) ≤ ρ 48 ∧ ρ 48 ≤ 2000 := r48
  have r49 : (0 : Int) ≤ ρ 49 ∧ ρ 49 ≤ 4 := r49
  have r50 : ((-2147483648) : Int) ≤ ρ 50 ∧ ρ 50 ≤ 2147483647 := r50
  obtain ⟨f0, f1, f2, f3, f4, f5, f6, f7, f8, f9, f10, f11, f12, f13, f14, f15, f16, f17, f18, f19, f20, f21, f22, f23, f24, f25, f26, -⟩ := hf
  have f0 : (0 : Int) ≤ ρ 48 + -ρ 34 := f0
  have f1 : (0 : Int) ≤ -ρ 48 + ρ 4 + (-1) := f1
  have f2 : (0 : Int) ≤ -ρ 34 + ρ 4 + (-1) := f2
  have f3 : (0 : Int) ≤ -ρ 43 + ρ 34 + (-1) := f3
  have f4 : (0 : Int) ≤ -ρ 44 + ρ 34 + (-1) := f4
  have f5 : (0 : Int) ≤ -ρ 45 + ρ 34 + (-1) := f5
  have f6 : (0 : Int) ≤ ρ 34 + -ρ 19 + (-1) := f6
  have f7 : (0 : Int) ≤ ρ 37 + -ρ 36 + (-1) := f7
  have f8 : (0 : Int) ≤ ρ 37 + -ρ 21 := f8
  have f9 : (0 : Int) ≤ ρ 40 + -ρ 24 := f9
  have f10 : (0 : Int) ≤ ρ 41 + -ρ 25 := f10
  have f11 : (0 : Int) ≤ ρ 42 + -ρ 26 := f11
  have f12 : (0 : Int) ≤ ρ 44 + -ρ 19 := f12
  have f13 : (0 : Int) ≤ -ρ 34 + ρ 4 := f13
  have f14 : (0 : Int) ≤ -ρ 35 + ρ 4 + (-1) := f14
  have f15 : (0 : Int) ≤ -ρ 19 + ρ 4 + (-1) := f15
  have f16 : (0 : Int) ≤ -ρ 5 + ρ 4 + (-1) := f16
  have f17 : (0 : Int) ≤ -ρ 32 + ρ 4 := f17
  have f18 : (0 : Int) ≤ -ρ 36 + ρ 21 := f18
  have f19 : (0 : Int) ≤ -ρ 18 + ρ 4 := f19
  have f20 : (0 : Int) ≤ ρ 26 + -ρ 16 := f20
  have f21 : (0 : Int) ≤ ρ 25 + -ρ 15 := f21
  have f22 : (0 : Int) ≤ ρ 24 + -ρ 14 := f22
  have f23 : (0 : Int) ≤ ρ 21 + -ρ 10 := f23
  have f24 : (0 : Int) ≤ ρ 19 + -ρ 3 := f24
  have f25 : (0 : Int) ≤ ρ 19 + -ρ 18 := f25
  have f26 : (0 : Int) ≤ -ρ 20 + ρ 18 := f26
  obtain ⟨m0, m1, m2, m3, m4, m5, m6, m7, m8, m9, m10, m11, m12, m13, m14, m15, m16, m17, m18, m19, m20, m21, m22, m23, m24, m25, m26, m27, m28, m29, m30, m31, m32, m33, m34, m35, m36, m37, m38, m39, m40, m41, m42, m43, m44, m45, m46, m47, m48, m49, m50, m51, m52, m53, m54, m55, m56, m57, -⟩ := hm
  have m0 : γ 0 1 0 10 = ρ 0 := m0
  have m1 : γ 0 40 0 (ρ 0) = ρ 1 := m1
  have m2 : γ 0 9 (ρ 1) 2 = ρ 2 := m2
  have m3 : γ 0 2 0 6 = ρ 3 := m3
  have m4 : γ 0 2 0 3 = ρ 4 := m4
  have m5 : γ 0 2 0 7 = ρ 5 := m5
  have m6 : γ 0 10 (9 * ρ 1) 8 = ρ 6 := m6
  have m7 : γ 0 10 (9 * ρ 1) 12 = ρ 7 := m7
  have m8 : γ 0 10 (9 * ρ 1) 14 = ρ 8 := m8
  have m9 : γ 0 9 (ρ 1) 3 = ρ 9 := m9
  have m10 : γ 0 1 0 7 = ρ 10 := m10
  have m11 : γ 0 2 0 4 = ρ 11 := m11
  have m12 : γ 0 2 0 5 = ρ 12 := m12
  have m13 : γ 0 2 0 9 = ρ 13 := m13
  have m14 : γ 0 2 0 13 = ρ 14 := m14
  have m15 : γ 0 2 0 16 = ρ 15 := m15
  have m16 : γ 0 3 0 1 = ρ 16 := m16
  have m17 : γ 0 10 (9 * ρ 1) 15 = ρ 17 := m17
  have m18 : γ 1 9 (ρ 1) 2 = ρ 18 := m18
  have m19 : γ 1 2 0 6 = ρ 19 := m19
  have m20 : γ 1 10 (9 * ρ 1) 8 = ρ 6 := m20
  have m21 : γ 1 10 (9 * ρ 1) 12 = ρ 7 := m21
  have m22 : γ 1 9 (ρ 1) 3 = ρ 20 := m22
  have m23 : γ 1 1 0 7 = ρ 21 := m23
  have m24 : γ 1 2 0 4 = ρ 11 := m24
  have m25 : γ 1 2 0 5 = ρ 22 := m25
  have m26 : γ 1 2 0 9 = ρ 23 := m26
  have m27 : γ 1 2 0 13 = ρ 24 := m27
  have m28 : γ 1 2 0 16 = ρ 25 := m28
  have m29 : γ 1 3 0 1 = ρ 26 := m29
  have m30 : γ 1 10 (ρ 18 + 9 * ρ 1 + 1) 4 = ρ 27 := m30
  have m31 : γ 1 10 (ρ 18 + 9 * ρ 1 + 1) 11 = ρ 28 := m31
  have m32 : γ 1 10 (ρ 18 + 9 * ρ 1 + 1) 8 = ρ 29 := m32
  have m33 : γ 1 10 (ρ 18 + 9 * ρ 1 + 1) 5 = ρ 30 := m33
  have m34 : γ 1 10 (ρ 18 + 9 * ρ 1 + 1) 7 = ρ 31 := m34
  have m35 : γ 1 10 (ρ 18 + 9 * ρ 1 + 1) 9 = ρ 32 := m35
  have m36 : γ 1 10 (ρ 18 + 9 * ρ 1 + 1) 12 = ρ 33 := m36
  have m37 : γ 3 2 0 6 = ρ 34 := m37
  have m38 : γ 3 10 (ρ 18 + 9 * ρ 1 + 1) 4 = ρ 35 := m38
  have m39 : γ 3 10 (ρ 18 + 9 * ρ 1 + 1) 11 = ρ 28 := m39
  have m40 : γ 3 10 (ρ 18 + 9 * ρ 1 + 1) 8 = ρ 36 := m40
  have m41 : γ 3 10 (9 * ρ 1) 8 = ρ 6 := m41
  have m42 : γ 3 10 (9 * ρ 1) 12 = ρ 7 := m42
  have m43 : γ 3 1 0 7 = ρ 37 := m43
  have m44 : γ 3 2 0 4 = ρ 11 := m44
  have m45 : γ 3 2 0 5 = ρ 38 := m45
  have m46 : γ 3 2 0 9 = ρ 39 := m46
  have m47 : γ 3 2 0 13 = ρ 40 := m47
  have m48 : γ 3 2 0 16 = ρ 41 := m48
  have m49 : γ 3 3 0 1 = ρ 42 := m49
  have m50 : γ 3 10 (ρ 18 + 9 * ρ 1 + 1) 5 = ρ 43 := m50
  have m51 : γ 3 10 (ρ 18 + 9 * ρ 1 + 1) 7 = ρ 44 := m51
  have m52 : γ 3 10 (ρ 18 + 9 * ρ 1 + 1) 9 = ρ 45 := m52
  have m53 : γ 3 10 (ρ 18 + 9 * ρ 1 + 1) 12 = ρ 46 := m53
  have m54 : γ 5 2 0 6 = ρ 48 := m54
  have m55 : γ 3 10 (9 * ρ 1) 5 = ρ 49 := m55
  have m56 : γ 7 2 0 4 = ρ 11 := m56
  have m57 : γ 8 2 0 4 = ρ 50 := m57
  obtain ⟨⟨⟨⟨⟨⟨⟨⟨-, c1⟩, c2⟩, c3⟩, c4⟩, c5⟩, c6⟩, c7⟩, c8⟩ := hc
  have c1 : ∀ (G : Nat) (k j : Int), ¬ rMdP m107_ G j → γ 1 G k j = γ 0 G k j := c1
  have c2 : ∀ (G : Nat) (k j : Int), ¬ rMdP m0_ G j → γ 2 G k j = γ 1 G k j := c2
  have c3 : ∀ (G : Nat) (k j : Int), ¬ rMdP m106_ G j → γ 3 G k j = γ 2 G k j := c3
  have c4 : γ 4 = rUp (γ 3) 9 (ρ 1) 2 (ρ 18 + 1) := c4
  have c5 : ∀ (G : Nat) (k j : Int), ¬ rMdP m77_ G j → γ 5 G k j = γ 4 G k j := c5
  have c6 : γ 6 = rUp (γ 5) 2 0 6 (ρ 48 + 1) := c6
  have c7 : ∀ (G : Nat) (k j : Int), ¬ rMdP m72_ G j → γ 7 G k j = γ 6 G k j := c7
  have c8 : ∀ (G : Nat) (k j : Int), ¬ rMdP m72_ G j → γ 8 G k j = γ 7 G k j := c8
  obtain ⟨l0, l1, l2, l3, l4, -⟩ := hl
  have l0 : sn132 [ρ 1, ρ 18] (γ 1) 0 (ρ 18 + 9 * ρ 1 + 1) (γ 2) := hS132 _ _ _ _ _ l0
  have l1 : sn157 [ρ 0, ρ 1, ρ 18, ρ 19, ρ 4, ρ 27, ρ 28, ρ 29, ρ 5, ρ 6, ρ 7, ρ 21, ρ 11, ρ 22, ρ 23, ρ 24, ρ 25, ρ 26, ρ 30, ρ 31, ρ 32, ρ 33] (γ 2) 0 1 (γ 3) := hS157 _ _ _ _ _ l1
  have l2 : sn114 [ρ 34, ρ 4] (γ 4) 0 (ρ 47) (γ 5) := hS114 _ _ _ _ _ l2
  have l3 : sn153 [9 * ρ 1, ρ 11, ρ 38, ρ 49, ρ 7, ρ 8, ρ 17] (γ 6) 0 1 (γ 7) := hS153 _ _ _ _ _ l3
  have l4 : sn152 [ρ 11, ρ 41] (γ 7) 0 0 (γ 8) := hS152 _ _ _ _ _ l4
  show sn158 [ρ 0, ρ 1, ρ 2, ρ 3, ρ 4, ρ 5, ρ 6, ρ 7, ρ 8, ρ 9, ρ 10, ρ 11, ρ 12, ρ 13, ρ 14, ρ 15, ρ 16, ρ 17] (γ 0) 0 0 (γ 8)
  have hD : en158 (γ 0) (0, [], γ 1) = .inr (0, 0, γ 8) := by
    unfold en158
    refine (if_pos (show (0 : Nat) = 0 by decide)).trans ?_
    refine (zLet_eq (show _ = γ 1 from rfl)).trans ?_
    refine (zLet_eq m0).trans ?_
    refine (zLet_eq m1).trans ?_
    refine (zLet_eq m18).trans ?_
    refine (zLet_eq m22).trans ?_
    refine (if_neg (show ¬ (ρ 18 ≥ 8) by omega)).trans ?_
    refine (zLet_eq (show fn132 [ρ 1, ρ 18] (γ 1) = (0, ρ 18 + 9 * ρ 1 + 1, γ 2) from l0.symm)).trans ?_
    refine (zLet_eq (show _ = γ 2 from rfl)).trans ?_
    refine (zLet_eq (show fn157 [] (γ 2) = (0, 1, γ 3) from l1.symm)).trans ?_
    refine (zLet_eq (show _ = γ 3 from rfl)).trans ?_
    refine (if_pos (show (1 : Int) ≤ 1 by omega)).trans ?_
    refine (if_neg (show ¬ (3 ≤ γ 3 10 (ρ 18 + 9 * ρ 1 + 1) 4) by omega)).trans ?_
    refine (zLet_eq m38).trans ?_
    refine (zLet_eq c4.symm).trans ?_
    refine (if_pos (show ρ 35 ≠ 1 by omega)).trans ?_
    refine (zLet_eq (show fn114 [] (γ 4) = (0, ρ 47, γ 5) from l2.symm)).trans ?_
    refine (zLet_eq (show _ = γ 5 from rfl)).trans ?_
    refine (if_pos (show (0 : Int) ≤ ρ 47 by omega)).trans ?_
    refine (zLet_eq (show _ = ρ 47 from rfl)).trans ?_
    refine (zLet_eq m54).trans ?_
    refine (if_neg (show ¬ (ρ 47 ≠ 46) by omega)).trans ?_
    refine (zLet_eq c6.symm).trans ?_
    refine (zLet_eq (show fn153 [9 * ρ 1] (γ 6) = (0, 1, γ 7) from l3.symm)).trans ?_
    refine (zLet_eq (show _ = γ 7 from rfl)).trans ?_
    refine (if_pos (show (1 : Int) ≤ 1 by omega)).trans ?_
    refine (zLet_eq (show fn152 [] (γ 7) = (0, 0, γ 8) from l4.symm)).trans ?_
    refine (zLet_eq (show _ = γ 8 from rfl)).trans ?_
    refine (if_neg (show ¬ ((1 : Int) ≤ 0) by omega)).trans ?_
    rfl
  exact zGoo_aend hJ hD
theorem vn158a0_20 {S : Nat → zSpc} (hS109 : ∀ x g o v gz, S 109 x g o v gz → sn109 x g o v gz) (hS114 : ∀ x g o v gz, S 114 x g o v gz → sn114 x g o v gz) (hS132 : ∀ x g o v gz, S 132 x g o v gz → sn132 x g o v gz) (hS152 : ∀ x g o v gz, S 152 x g o v gz → sn152 x g o v gz) (hS153 : ∀ x g o v gz, S 153 x g o v gz → sn153 x g o v gz) (hS157 : ∀ x g o v gz, S 157 x g o v gz → sn157 x g o v gz) {a : List Int} {g : rHp} : ∀ (ρ : Nat → Int) (γ : Nat → rHp), jn158 a g 0 (zAg (zNA a158_ 0) ρ) (γ 1) → zO 18 S a g q158a0_20 ρ γ → zGl (fun i vs g1 => jn158 a g i vs g1) (sn158 a g) q158a0_20 ρ γ := by
  intro ρ γ hJ h
  obtain ⟨ha, hg, hr, hf, hm, hc, hl⟩ := h
  have ha : a = [ρ 0, ρ 1, ρ 2, ρ 3, ρ 4, ρ 5, ρ 6, ρ 7, ρ 8, ρ 9, ρ 10, ρ 11, ρ 12, ρ 13, ρ 14, ρ 15, ρ 16, ρ 17] := ha
  subst ha
  subst hg
  have hJ : jn158 [ρ 0, ρ 1, ρ 2, ρ 3, ρ 4, ρ 5, ρ 6, ρ 7, ρ 8, ρ 9, ρ 10, ρ 11, ρ 12, ρ 13, ρ 14, ρ 15, ρ 16, ρ 17] (γ 0) 0 [ρ 0, ρ 1, ρ 2, ρ 3, ρ 4, ρ 5, ρ 6, ρ 7, ρ 8, ρ 9, ρ 10, ρ 11, ρ 12, ρ 13, ρ 14, ρ 15, ρ 16, ρ 17, ρ 18, ρ 19, ρ 20, ρ 21, ρ 22, ρ 23, ρ 24, ρ 25, ρ 26] (γ 1) := hJ
  obtain ⟨r0, r1, r2, r3, r4, r5, r6, r7, r8, r9, r10, r11, r12, r13, r14, r15, r16, r17, r18, r19, r20, r21, r22, r23, r24, r25, r26, r27, r28, r29, r30, r31, r32, r33, r34, r35, r36, r37, r38, r39, r40, r41, r42, r43, r44, r45, r46, r47, r48, r49, -⟩ := hr
  have r0 : (0 : Int) ≤ ρ 0 ∧ ρ 0 ≤ 60 := r0
  have r1 : (0 : Int) ≤ ρ 1 ∧ ρ 1 ≤ 60 := r1
  have r2 : (0 : Int) ≤ ρ 2 ∧ ρ 2 ≤ 8 := r2
  have r3 : (0 : Int) ≤ ρ 3 ∧ ρ 3 ≤ 2000 := r3
  have r4 : (2 : Int) ≤ ρ 4 ∧ ρ 4 ≤ 2000 := r4
  have r5 : (0 : Int) ≤ ρ 5 ∧ ρ 5 ≤ 0 := r5
  have r6 : ((-1) : Int) ≤ ρ 6 ∧ ρ 6 ≤ 19 := r6
  have r7 : (0 : Int) ≤ ρ 7 ∧ ρ 7 ≤ 4 := r7
  have r8 : ((-1) : Int) ≤ ρ 8 ∧ ρ 8 ≤ 7 := r8
  have r9 : (0 : Int) ≤ ρ 9 ∧ ρ 9 ≤ 8 := r9
  have r10 : (0 : Int) ≤ ρ 10 ∧ ρ 10 ≤ 20 := r10
  have r11 : ((-2147483648) : Int) ≤ ρ 11 ∧ ρ 11 ≤ 2147483647 := r11
  have r12 : ((-2147483648) : Int) ≤ ρ 12 ∧ ρ 12 ≤ 2147483647 := r12
  have r13 : ((-2147483648) : Int) ≤ ρ 13 ∧ ρ 13 ≤ 2147483647 := r13
  have r14 : (0 : Int) ≤ ρ 14 ∧ ρ 14 ≤ 8 := r14
  have r15 : (0 : Int) ≤ ρ 15 ∧ ρ 15 ≤ 32 := r15
  have r16 : (0 : Int) ≤ ρ 16 ∧ ρ 16 ≤ 5120 := r16
  have r17 : ((-2147483648) : Int) ≤ ρ 17 ∧ ρ 17 ≤ 2147483647 := r17
  have r18 : (0 : Int) ≤ ρ 18 ∧ ρ 18 ≤ 7 := r18
  have r19 : (0 : Int) ≤ ρ 19 ∧ ρ 19 ≤ 2000 := r19
  have r20 : (0 : Int) ≤ ρ 20 ∧ ρ 20 ≤ 8 := r20
  have r21 : (0 : Int) ≤ ρ 21 ∧ ρ 21 ≤ 20 := r21
  have r22 : ((-2147483648) : Int) ≤ ρ 22 ∧ ρ 22 ≤ 2147483647 := r22
  have r23 : ((-2147483648) : Int) ≤ ρ 23 ∧ ρ 23 ≤ 2147483647 := r23
  have r24 : (0 : Int) ≤ ρ 24 ∧ ρ 24 ≤ 8 := r24
  have r25 : (0 : Int) ≤ ρ 25 ∧ ρ 25 ≤ 32 := r25
  have r26 : (0 : Int) ≤ ρ 26 ∧ ρ 26 ≤ 5120 := r26
  have r27 : (0 : Int) ≤ ρ 27 ∧ ρ 27 ≤ 8 := r27
  have r28 : ((-1) : Int) ≤ ρ 28 ∧ ρ 28 ≤ 7 := r28
  have r29 : ((-1) : Int) ≤ ρ 29 ∧ ρ 29 ≤ 19 := r29
  have r30 : (0 : Int) ≤ ρ 30 ∧ ρ 30 ≤ 4 := r30
  have r31 : ((-2147483648) : Int) ≤ ρ 31 ∧ ρ 31 ≤ 2147483647 := r31
  have r32 : ((-1) : Int) ≤ ρ 32 ∧ ρ 32 ≤ 3 := r32
  have r33 : (0 : Int) ≤ ρ 33 ∧ ρ 33 ≤ 4 := r33
  have r34 : (3 : Int) ≤ ρ 34 ∧ ρ 34 ≤ 2000 := r34
  have r35 : (2 : Int) ≤ ρ 35 ∧ ρ 35 ≤ 2 := r35
  have r36 : (0 : Int) ≤ ρ 36 ∧ ρ 36 ≤ 19 := r36
  have r37 : (1 : Int) ≤ ρ 37 ∧ ρ 37 ≤ 20 := r37
  have r38 : ((-2147483648) : Int) ≤ ρ 38 ∧ ρ 38 ≤ 2147483647 := r38
  have r39 : ((-2147483648) : Int) ≤ ρ 39 ∧ ρ 39 ≤ 2147483647 := r39
  have r40 : (0 : Int) ≤ ρ 40 ∧ ρ 40 ≤ 8 := r40
  have r41 : (0 : Int) ≤ ρ 41 ∧ ρ 41 ≤ 32 := r41
  have r42 : (0 : Int) ≤ ρ 42 ∧ ρ 42 ≤ 5120 := r42
  have r43 : (1 : Int) ≤ ρ 43 ∧ ρ 43 ≤ 4 := r43
  have r44 : (0 : Int) ≤ ρ 44 ∧ ρ 44 ≤ 1999 := r44
  have r45 : ((-1) : Int) ≤ ρ 45 ∧ ρ 45 ≤ 3 := r45
  have r46 : (0 : Int) ≤ ρ 46 ∧ ρ 46 ≤ 0 := r46
  have r47 : (46 : Int) ≤ ρ 47 ∧ ρ 47 ≤ 46 := r47
  have r48 : (0 : Int) ≤ ρ 48 ∧ ρ 48 ≤ 2000 := r48
  have r49 : (0 : Int) ≤ ρ 49 ∧ ρ 49 ≤ 4 := r49
  obtain ⟨f0, f1, f2, f3, f4, f5, f6, f7, f8, f9, f10, f11, f12, f13, f14, f15, f16, f17, f18, f19, f20, f21, f22, f23, f24, f25, f26, -⟩ := hf
  have f0 : (0 : Int) ≤ ρ 48 + -ρ 34 := f0
  have f1 : (0 : Int) ≤ -ρ 48 + ρ 4 + (-1) := f1
  have f2 : (0 : Int) ≤ -ρ 34 + ρ 4 + (-1) := f2
  have f3 : (0 : Int) ≤ -ρ 43 + ρ 34 + (-1) := f3
  have f4 : (0 : Int) ≤ -ρ 44 + ρ 34 + (-1) := f4
  have f5 : (0 : Int) ≤ -ρ 45 + ρ 34 + (-1) := f5
  have f6 : (0 : Int) ≤ ρ 34 + -ρ 19 + (-1) := f6
  have f7 : (0 : Int) ≤ ρ 37 + -ρ 36 + (-1) := f7
  have f8 : (0 : Int) ≤ ρ 37 + -ρ 21 := f8
  have f9 : (0 : Int) ≤ ρ 40 + -ρ 24 := f9
  have f10 : (0 : Int) ≤ ρ 41 + -ρ 25 := f10
  have f11 : (0 : Int) ≤ ρ 42 + -ρ 26 := f11
  have f12 : (0 : Int) ≤ ρ 44 + -ρ 19 := f12
  have f13 : (0 : Int) ≤ -ρ 34 + ρ 4 := f13
  have f14 : (0 : Int) ≤ -ρ 35 + ρ 4 + (-1) := f14
  have f15 : (0 : Int) ≤ -ρ 19 + ρ 4 + (-1) := f15
  have f16 : (0 : Int) ≤ -ρ 5 + ρ 4 + (-1) := f16
  have f17 : (0 : Int) ≤ -ρ 32 + ρ 4 := f17
  have f18 : (0 : Int) ≤ -ρ 36 + ρ 21 := f18
  have f19 : (0 : Int) ≤ -ρ 18 + ρ 4 := f19
  have f20 : (0 : Int) ≤ ρ 26 + -ρ 16 := f20
  have f21 : (0 : Int) ≤ ρ 25 + -ρ 15 := f21
  have f22 : (0 : Int) ≤ ρ 24 + -ρ 14 := f22
  have f23 : (0 : Int) ≤ ρ 21 + -ρ 10 := f23
  have f24 : (0 : Int) ≤ ρ 19 + -ρ 3 := f24
  have f25 : (0 : Int) ≤ ρ 19 + -ρ 18 := f25
  have f26 : (0 : Int) ≤ -ρ 20 + ρ 18 := f26
  obtain ⟨m0, m1, m2, m3, m4, m5, m6, m7, m8, m9, m10, m11, m12, m13, m14, m15, m16, m17, m18, m19, m20, m21, m22, m23, m24, m25, m26, m27, m28, m29, m30, m31, m32, m33, m34, m35, m36, m37, m38, m39, m40, m41, m42, m43, m44, m45, m46, m47, m48, m49, m50, m51, m52, m53, m54, m55, m56, m57, -⟩ := hm
  have m0 : γ 0 1 0 10 = ρ 0 := m0
  have m1 : γ 0 40 0 (ρ 0) = ρ 1 := m1
  have m2 : γ 0 9 (ρ 1) 2 = ρ 2 := m2
  have m3 : γ 0 2 0 6 = ρ 3 := m3
  have m4 : γ 0 2 0 3 = ρ 4 := m4
  have m5 : γ 0 2 0 7 = ρ 5 := m5
  have m6 : γ 0 10 (9 * ρ 1) 8 = ρ 6 := m6
  have m7 : γ 0 10 (9 * ρ 1) 12 = ρ 7 := m7
  have m8 : γ 0 10 (9 * ρ 1) 14 = ρ 8 := m8
  have m9 : γ 0 9 (ρ 1) 3 = ρ 9 := m9
  have m10 : γ 0 1 0 7 = ρ 10 := m10
  have m11 : γ 0 2 0 4 = ρ 11 := m11
  have m12 : γ 0 2 0 5 = ρ 12 := m12
  have m13 : γ 0 2 0 9 = ρ 13 := m13
  have m14 : γ 0 2 0 13 = ρ 14 := m14
  have m15 : γ 0 2 0 16 = ρ 15 := m15
  have m16 : γ 0 3 0 1 = ρ 16 := m16
  have m17 : γ 0 10 (9 * ρ 1) 15 = ρ 17 := m17
  have m18 : γ 1 9 (ρ 1) 2 = ρ 18 := m18
  have m19 : γ 1 2 0 6 = ρ 19 := m19
  have m20 : γ 1 10 (9 * ρ 1) 8 = ρ 6 := m20
  have m21 : γ 1 10 (9 * ρ 1) 12 = ρ 7 := m21
  have m22 : γ 1 9 (ρ 1) 3 = ρ 20 := m22
  have m23 : γ 1 1 0 7 = ρ 21 := m23
  have m24 : γ 1 2 0 4 = ρ 11 := m24
  have m25 : γ 1 2 0 5 = ρ 22 := m25
  have m26 : γ 1 2 0 9 = ρ 23 := m26
  have m27 : γ 1 2 0 13 = ρ 24 := m27
  have m28 : γ 1 2 0 16 = ρ 25 := m28
  have m29 : γ 1 3 0 1 = ρ 26 := m29
  have m30 : γ 1 10 (ρ 18 + 9 * ρ 1 + 1) 4 = ρ 27 := m30
  have m31 : γ 1 10 (ρ 18 + 9 * ρ 1 + 1) 11 = ρ 28 := m31
  have m32 : γ 1 10 (ρ 18 + 9 * ρ 1 + 1) 8 = ρ 29 := m32
  have m33 : γ 1 10 (ρ 18 + 9 * ρ 1 + 1) 5 = ρ 30 := m33
  have m34 : γ 1 10 (ρ 18 + 9 * ρ 1 + 1) 7 = ρ 31 := m34
  have m35 : γ 1 10 (ρ 18 + 9 * ρ 1 + 1) 9 = ρ 32 := m35
  have m36 : γ 1 10 (ρ 18 + 9 * ρ 1 + 1) 12 = ρ 33 := m36
  have m37 : γ 3 2 0 6 = ρ 34 := m37
  have m38 : γ 3 10 (ρ 18 + 9 * ρ 1 + 1) 4 = ρ 35 := m38
  have m39 : γ 3 10 (ρ 18 + 9 * ρ 1 + 1) 11 = ρ 28 := m39
  have m40 : γ 3 10 (ρ 18 + 9 * ρ 1 + 1) 8 = ρ 36 := m40
  have m41 : γ 3 10 (9 * ρ 1) 8 = ρ 6 := m41
  have m42 : γ 3 10 (9 * ρ 1) 12 = ρ 7 := m42
  have m43 : γ 3 1 0 7 = ρ 37 := m43
  have m44 : γ 3 2 0 4 = ρ 11 := m44
  have m45 : γ 3 2 0 5 = ρ 38 := m45
  have m46 : γ 3 2 0 9 = ρ 39 := m46
  have m47 : γ 3 2 0 13 = ρ 40 := m47
  have m48 : γ 3 2 0 16 = ρ 41 := m48
  have m49 : γ 3 3 0 1 = ρ 42 := m49
  have m50 : γ 3 10 (ρ 18 + 9 * ρ 1 + 1) 5 = ρ 43 := m50
  have m51 : γ 3 10 (ρ 18 + 9 * ρ 1 + 1) 7 = ρ 44 := m51
  have m52 : γ 3 10 (ρ 18 + 9 * ρ 1 + 1) 9 = ρ 45 := m52
  have m53 : γ 3 10 (ρ 18 + 9 * ρ 1 + 1) 12 = ρ 46 := m53
  have m54 : γ 5 2 0 6 = ρ 48 := m54
  have m55 : γ 3 10 (9 * ρ 1) 5 = ρ 49 := m55
  have m56 : γ 7 2 0 4 = ρ 11 := m56
  have m57 : γ 8 2 0 4 = ρ 11 := m57
  obtain ⟨⟨⟨⟨⟨⟨⟨⟨-, c1⟩, c2⟩, c3⟩, c4⟩, c5⟩, c6⟩, c7⟩, c8⟩ := hc
  have c1 : ∀ (G : Nat) (k j : Int), ¬ rMdP m107_ G j → γ 1 G k j = γ 0 G k j := c1
  have c2 : ∀ (G : Nat) (k j : Int), ¬ rMdP m0_ G j → γ 2 G k j = γ 1 G k j := c2
  have c3 : ∀ (G : Nat) (k j : Int), ¬ rMdP m106_ G j → γ 3 G k j = γ 2 G k j := c3
  have c4 : γ 4 = rUp (γ 3) 9 (ρ 1) 2 (ρ 18 + 1) := c4
  have c5 : ∀ (G : Nat) (k j : Int), ¬ rMdP m77_ G j → γ 5 G k j = γ 4 G k j := c5
  have c6 : γ 6 = rUp (γ 5) 2 0 6 (ρ 48 + 1) := c6
  have c7 : ∀ (G : Nat) (k j : Int), ¬ rMdP m72_ G j → γ 7 G k j = γ 6 G k j := c7
  have c8 : ∀ (G : Nat) (k j : Int), ¬ rMdP m72_ G j → γ 8 G k j = γ 7 G k j := c8
  obtain ⟨l0, l1, l2, l3, l4, -⟩ := hl
  have l0 : sn132 [ρ 1, ρ 18] (γ 1) 0 (ρ 18 + 9 * ρ 1 + 1) (γ 2) := hS132 _ _ _ _ _ l0
  have l1 : sn157 [ρ 0, ρ 1, ρ 18, ρ 19, ρ 4, ρ 27, ρ 28, ρ 29, ρ 5, ρ 6, ρ 7, ρ 21, ρ 11, ρ 22, ρ 23, ρ 24, ρ 25, ρ 26, ρ 30, ρ 31, ρ 32, ρ 33] (γ 2) 0 1 (γ 3) := hS157 _ _ _ _ _ l1
  have l2 : sn114 [ρ 34, ρ 4] (γ 4) 0 (ρ 47) (γ 5) := hS114 _ _ _ _ _ l2
  have l3 : sn153 [9 * ρ 1, ρ 11, ρ 38, ρ 49, ρ 7, ρ 8, ρ 17] (γ 6) 0 1 (γ 7) := hS153 _ _ _ _ _ l3
  have l4 : sn152 [ρ 11, ρ 41] (γ 7) 0 1 (γ 8) := hS152 _ _ _ _ _ l4
  show sn158 [ρ 0, ρ 1, ρ 2, ρ 3, ρ 4, ρ 5, ρ 6, ρ 7, ρ 8, ρ 9, ρ 10, ρ 11, ρ 12, ρ 13, ρ 14, ρ 15, ρ 16, ρ 17] (γ 0) 0 1 (γ 8)
  have hD : en158 (γ 0) (0, [], γ 1) = .inr (0, 1, γ 8) := by
    unfold en158
    refine (if_pos (show (0 : Nat) = 0 by decide)).trans ?_
    refine (zLet_eq (show _ = γ 1 from rfl)).trans ?_
    refine (zLet_eq m0).trans ?_
    refine (zLet_eq m1).trans ?_
    refine (zLet_eq m18).trans ?_
    refine (zLet_eq m22).trans ?_
    refine (if_neg (show ¬ (ρ 18 ≥ 8) by omega)).trans ?_
    refine (zLet_eq (show fn132 [ρ 1, ρ 18] (γ 1) = (0, ρ 18 + 9 * ρ 1 + 1, γ 2) from l0.symm)).trans ?_
    refine (zLet_eq (show _ = γ 2 from rfl)).trans ?_
    refine (zLet_eq (show fn157 [] (γ 2) = (0, 1, γ 3) from l1.symm)).trans ?_
    refine (zLet_eq (show _ = γ 3 from rfl)).trans ?_
    refine (if_pos (show (1 : Int) ≤ 1 by omega)).trans ?_
    refine (if_neg (show ¬ (3 ≤ γ 3 10 (ρ 18 + 9 * ρ 1 + 1) 4) by omega)).trans ?_
    refine (zLet_eq m38).trans ?_
    refine (zLet_eq c4.symm).trans ?_
    refine (if_pos (show ρ 35 ≠ 1 by omega)).trans ?_
    refine (zLet_eq (show fn114 [] (γ 4) = (0, ρ 47, γ 5) from l2.symm)).trans ?_
    refine (zLet_eq (show _ = γ 5 from rfl)).trans ?_
    refine (if_pos (show (0 : Int) ≤ ρ 47 by omega)).trans ?_
    refine (zLet_eq (show _ = ρ 47 from rfl)).trans ?_
    refine (zLet_eq m54).trans ?_
    refine (if_neg (show ¬ (ρ 47 ≠ 46) by omega)).trans ?_
    refine (zLet_eq c6.symm).trans ?_
    refine (zLet_eq (show fn153 [9 * ρ 1] (γ 6) = (0, 1, γ 7) from l3.symm)).trans ?_
    refine (zLet_eq (show _ = γ 7 from rfl)).trans ?_
    refine (if_pos (show (1 : Int) ≤ 1 by omega)).trans ?_
    refine (zLet_eq (show fn152 [] (γ 7) = (0, 1, γ 8) from l4.symm)).trans ?_
    refine (zLet_eq (show _ = γ 8 from rfl)).trans ?_
    refine (if_pos (show (1 : Int) ≤ 1 by omega)).trans ?_
    rfl
  exact zGoo_aend hJ hD
theorem vn158a0_21 {S : Nat → zSpc} (hS109 : ∀ x g o v gz, S 109 x g o v gz → sn109 x g o v gz) (hS114 : ∀ x g o v gz, S 114 x g o v gz → sn114 x g o v gz) (hS132 : ∀ x g o v gz, S 132 x g o v gz → sn132 x g o v gz) (hS152 : ∀ x g o v gz, S 152 x g o v gz → sn152 x g o v gz) (hS153 : ∀ x g o v gz, S 153 x g o v gz → sn153 x g o v gz) (hS157 : ∀ x g o v gz, S 157 x g o v gz → sn157 x g o v gz) {a : List Int} {g : rHp} : ∀ (ρ : Nat → Int) (γ : Nat → rHp), jn158 a g 0 (zAg (zNA a158_ 0) ρ) (γ 1) → zO 18 S a g q158a0_21 ρ γ → zGl (fun i vs g1 => jn158 a g i vs g1) (sn158 a g) q158a0_21 ρ γ := by
  intro ρ γ hJ h
  obtain ⟨ha, hg, hr, hf, hm, hc, hl⟩ := h
  have ha : a = [ρ 0, ρ 1, ρ 2, ρ 3, ρ 4, ρ 5, ρ 6, ρ 7, ρ 8, ρ 9, ρ 10, ρ 11, ρ 12, ρ 13, ρ 14, ρ 15, ρ 16, ρ 17] := ha
  subst ha
  subst hg
  have hJ : jn158 [ρ 0, ρ 1, ρ 2, ρ 3, ρ 4, ρ 5, ρ 6, ρ 7, ρ 8, ρ 9, ρ 10, ρ 11, ρ 12, ρ 13, ρ 14, ρ 15, ρ 16, ρ 17] (γ 0) 0 [ρ 0, ρ 1, ρ 2, ρ 3, ρ 4, ρ 5, ρ 6, ρ 7, ρ 8, ρ 9, ρ 10, ρ 11, ρ 12, ρ 13, ρ 14, ρ 15, ρ 16, ρ 17, ρ 18, ρ 19, ρ 20, ρ 21, ρ 22, ρ 23, ρ 24, ρ 25, ρ 26] (γ 1) := hJ
  obtain ⟨r0, r1, r2, r3, r4, r5, r6, r7, r8, r9, r10, r11, r12, r13, r14, r15, r16, r17, r18, r19, r20, r21, r22, r23, r24, r25, r26, r27, r28, r29, r30, r31, r32, r33, r34, r35, r36, r37, r38, r39, r40, r41, r42, r43, r44, r45, r46, r47, -⟩ := hr
  have r0 : (0 : Int) ≤ ρ 0 ∧ ρ 0 ≤ 60 := r0
  have r1 : (0 : Int) ≤ ρ 1 ∧ ρ 1 ≤ 60 := r1
  have r2 : (0 : Int) ≤ ρ 2 ∧ ρ 2 ≤ 8 := r2
  have r3 : (0 : Int) ≤ ρ 3 ∧ ρ 3 ≤ 2000 := r3
  have r4 : (2 : Int) ≤ ρ 4 ∧ ρ 4 ≤ 2000 := r4
  have r5 : (0 : Int) ≤ ρ 5 ∧ ρ 5 ≤ 0 := r5
  have r6 : ((-1) : Int) ≤ ρ 6 ∧ ρ 6 ≤ 19 := r6
  have r7 : (0 : Int) ≤ ρ 7 ∧ ρ 7 ≤ 4 := r7
  have r8 : ((-1) : Int) ≤ ρ 8 ∧ ρ 8 ≤ 7 := r8
  have r9 : (0 : Int) ≤ ρ 9 ∧ ρ 9 ≤ 8 := r9
  have r10 : (0 : Int) ≤ ρ 10 ∧ ρ 10 ≤ 20 := r10
  have r11 : ((-2147483648) : Int) ≤ ρ 11 ∧ ρ 11 ≤ 2147483647 := r11
  have r12 : ((-2147483648) : Int) ≤ ρ 12 ∧ ρ 12 ≤ 2147483647 := r12
  have r13 : ((-2147483648) : Int) ≤ ρ 13 ∧ ρ 13 ≤ 2147483647 := r13
  have r14 : (0 : Int) ≤ ρ 14 ∧ ρ 14 ≤ 8 := r14
  have r15 : (0 : Int) ≤ ρ 15 ∧ ρ 15 ≤ 32 := r15
  have r16 : (0 : Int) ≤ ρ 16 ∧ ρ 16 ≤ 5120 := r16
  have r17 : ((-2147483648) : Int) ≤ ρ 17 ∧ ρ 17 ≤ 2147483647 := r17
  have r18 : (0 : Int) ≤ ρ 18 ∧ ρ 18 ≤ 7 := r18
  have r19 : (0 : Int) ≤ ρ 19 ∧ ρ 19 ≤ 2000 := r19
  have r20 : (0 : Int) ≤ ρ 20 ∧ ρ 20 ≤ 8 := r20
  have r21 : (0 : Int) ≤ ρ 21 ∧ ρ 21 ≤ 20 := r21
  have r22 : ((-2147483648) : Int) ≤ ρ 22 ∧ ρ 22 ≤ 2147483647 := r22
  have r23 : ((-2147483648) : Int) ≤ ρ 23 ∧ ρ 23 ≤ 2147483647 := r23
  have r24 : (0 : Int) ≤ ρ 24 ∧ ρ 24 ≤ 8 := r24
  have r25 : (0 : Int) ≤ ρ 25 ∧ ρ 25 ≤ 32 := r25
  have r26 : (0 : Int) ≤ ρ 26 ∧ ρ 26 ≤ 5120 := r26
  have r27 : (0 : Int) ≤ ρ 27 ∧ ρ 27 ≤ 8 := r27
  have r28 : ((-1) : Int) ≤ ρ 28 ∧ ρ 28 ≤ 7 := r28
  have r29 : ((-1) : Int) ≤ ρ 29 ∧ ρ 29 ≤ 19 := r29
  have r30 : (0 : Int) ≤ ρ 30 ∧ ρ 30 ≤ 4 := r30
  have r31 : ((-2147483648) : Int) ≤ ρ 31 ∧ ρ 31 ≤ 2147483647 := r31
  have r32 : ((-1) : Int) ≤ ρ 32 ∧ ρ 32 ≤ 3 := r32
  have r33 : (0 : Int) ≤ ρ 33 ∧ ρ 33 ≤ 4 := r33
  have r34 : (3 : Int) ≤ ρ 34 ∧ ρ 34 ≤ 2000 := r34
  have r35 : (1 : Int) ≤ ρ 35 ∧ ρ 35 ≤ 1 := r35
  have r36 : (0 : Int) ≤ ρ 36 ∧ ρ 36 ≤ 19 := r36
  have r37 : (1 : Int) ≤ ρ 37 ∧ ρ 37 ≤ 20 := r37
  have r38 : ((-2147483648) : Int) ≤ ρ 38 ∧ ρ 38 ≤ 2147483647 := r38
  have r39 : ((-2147483648) : Int) ≤ ρ 39 ∧ ρ 39 ≤ 2147483647 := r39
  have r40 : (0 : Int) ≤ ρ 40 ∧ ρ 40 ≤ 8 := r40
  have r41 : (0 : Int) ≤ ρ 41 ∧ ρ 41 ≤ 32 := r41
  have r42 : (0 : Int) ≤ ρ 42 ∧ ρ 42 ≤ 5120 := r42
  have r43 : (1 : Int) ≤ ρ 43 ∧ ρ 43 ≤ 4 := r43
  have r44 : (0 : Int) ≤ ρ 44 ∧ ρ 44 ≤ 1999 := r44
  have r45 : ((-1) : Int) ≤ ρ 45 ∧ ρ 45 ≤ 3 := r45
  have r46 : (0 : Int) ≤ ρ 46 ∧ ρ 46 ≤ 0 := r46
  have r47 : (0 : Int) ≤ ρ 47 ∧ ρ 47 ≤ 2000 := r47
  obtain ⟨f0, f1, f2, f3, f4, f5, f6, f7, f8, f9, f10, f11, f12, f13, f14, f15, f16, f17, f18, f19, f20, f21, f22, f23, f24, f25, -⟩ := hf
  have f0 : (0 : Int) ≤ ρ 47 + -ρ 34 := f0
  have f1 : (0 : Int) ≤ ρ 47 + -ρ 4 := f1
  have f2 : (0 : Int) ≤ -ρ 43 + ρ 34 + (-1) := f2
  have f3 : (0 : Int) ≤ -ρ 44 + ρ 34 + (-1) := f3
  have f4 : (0 : Int) ≤ -ρ 45 + ρ 34 + (-1) := f4
  have f5 : (0 : Int) ≤ ρ 34 + -ρ 19 + (-1) := f5
  have f6 : (0 : Int) ≤ ρ 37 + -ρ 36 + (-1) := f6
  have f7 : (0 : Int) ≤ ρ 37 + -ρ 21 := f7
  have f8 : (0 : Int) ≤ ρ 40 + -ρ 24 := f8
  have f9 : (0 : Int) ≤ ρ 41 + -ρ 25 := f9
  have f10 : (0 : Int) ≤ ρ 42 + -ρ 26 := f10
  have f11 : (0 : Int) ≤ ρ 44 + -ρ 19 := f11
  have f12 : (0 : Int) ≤ -ρ 34 + ρ 4 := f12
  have f13 : (0 : Int) ≤ -ρ 35 + ρ 4 + (-1) := f13
  have f14 : (0 : Int) ≤ -ρ 19 + ρ 4 + (-1) := f14
  have f15 : (0 : Int) ≤ -ρ 5 + ρ 4 + (-1) := f15
  have f16 : (0 : Int) ≤ -ρ 32 + ρ 4 := f16
  have f17 : (0 : Int) ≤ -ρ 36 + ρ 21 := f17
  have f18 : (0 : Int) ≤ -ρ 18 + ρ 4 := f18
  have f19 : (0 : Int) ≤ ρ 26 + -ρ 16 := f19
  have f20 : (0 : Int) ≤ ρ 25 + -ρ 15 := f20
  have f21 : (0 : Int) ≤ ρ 24 + -ρ 14 := f21
  have f22 : (0 : Int) ≤ ρ 21 + -ρ 10 := f22
  have f23 : (0 : Int) ≤ ρ 19 + -ρ 3 := f23
  have f24 : (0 : Int) ≤ ρ 19 + -ρ 18 := f24
  have f25 : (0 : Int) ≤ -ρ 20 + ρ 18 := f25
  obtain ⟨m0, m1, m2, m3, m4, m5, m6, m7, m8, m9, m10, m11, m12, m13, m14, m15, m16, m17, m18, m19, m20, m21, m22, m23, m24, m25, m26, m27, m28, m29, m30, m31, m32, m33, m34, m35, m36, m37, m38, m39, m40, m41, m42, m43, m44, m45, m46, m47, m48, m49, m50, m51, m52, m53, m54, m55, -⟩ := hm
  have m0 : γ 0 1 0 10 = ρ 0 := m0
  have m1 : γ 0 40 0 (ρ 0) = ρ 1 := m1
  have m2 : γ 0 9 (ρ 1) 2 = ρ 2 := m2
  have m3 : γ 0 2 0 6 = ρ 3 := m3
  have m4 : γ 0 2 0 3 = ρ 4 := m4
  have m5 : γ 0 2 0 7 = ρ 5 := m5
  have m6 : γ 0 10 (9 * ρ 1) 8 = ρ 6 := m6
  have m7 : γ 0 10 (9 * ρ 1) 12 = ρ 7 := m7
  have m8 : γ 0 10 (9 * ρ 1) 14 = ρ 8 := m8
  have m9 : γ 0 9 (ρ 1) 3 = ρ 9 := m9
  have m10 : γ 0 1 0 7 = ρ 10 := m10
  have m11 : γ 0 2 0 4 = ρ 11 := m11
  have m12 : γ 0 2 0 5 = ρ 12 := m12
  have m13 : γ 0 2 0 9 = ρ 13 := m13
  have m14 : γ 0 2 0 13 = ρ 14 := m14
  have m15 : γ 0 2 0 16 = ρ 15 := m15
  have m16 : γ 0 3 0 1 = ρ 16 := m16
  have m17 : γ 0 10 (9 * ρ 1) 15 = ρ 17 := m17
  have m18 : γ 1 9 (ρ 1) 2 = ρ 18 := m18
  have m19 : γ 1 2 0 6 = ρ 19 := m19
  have m20 : γ 1 10 (9 * ρ 1) 8 = ρ 6 := m20
  have m21 : γ 1 10 (9 * ρ 1) 12 = ρ 7 := m21
  have m22 : γ 1 9 (ρ 1) 3 = ρ 20 := m22
  have m23 : γ 1 1 0 7 = ρ 21 := m23
  have m24 : γ 1 2 0 4 = ρ 11 := m24
  have m25 : γ 1 2 0 5 = ρ 22 := m25
  have m26 : γ 1 2 0 9 = ρ 23 := m26
  have m27 : γ 1 2 0 13 = ρ 24 := m27
  have m28 : γ 1 2 0 16 = ρ 25 := m28
  have m29 : γ 1 3 0 1 = ρ 26 := m29
  have m30 : γ 1 10 (ρ 18 + 9 * ρ 1 + 1) 4 = ρ 27 := m30
  have m31 : γ 1 10 (ρ 18 + 9 * ρ 1 + 1) 11 = ρ 28 := m31
  have m32 : γ 1 10 (ρ 18 + 9 * ρ 1 + 1) 8 = ρ 29 := m32
  have m33 : γ 1 10 (ρ 18 + 9 * ρ 1 + 1) 5 = ρ 30 := m33
  have m34 : γ 1 10 (ρ 18 + 9 * ρ 1 + 1) 7 = ρ 31 := m34
  have m35 : γ 1 10 (ρ 18 + 9 * ρ 1 + 1) 9 = ρ 32 := m35
  have m36 : γ 1 10 (ρ 18 + 9 * ρ 1 + 1) 12 = ρ 33 := m36
  have m37 : γ 3 2 0 6 = ρ 34 := m37
  have m38 : γ 3 10 (ρ 18 + 9 * ρ 1 + 1) 4 = ρ 35 := m38
  have m39 : γ 3 10 (ρ 18 + 9 * ρ 1 + 1) 11 = ρ 28 := m39
  have m40 : γ 3 10 (ρ 18 + 9 * ρ 1 + 1) 8 = ρ 36 := m40
  have m41 : γ 3 10 (9 * ρ 1) 8 = ρ 6 := m41
  have m42 : γ 3 10 (9 * ρ 1) 12 = ρ 7 := m42
  have m43 : γ 3 1 0 7 = ρ 37 := m43
  have m44 : γ 3 2 0 4 = ρ 11 := m44
  have m45 : γ 3 2 0 5 = ρ 38 := m45
  have m46 : γ 3 2 0 9 = ρ 39 := m46
  have m47 : γ 3 2 0 13 = ρ 40 := m47
  have m48 : γ 3 2 0 16 = ρ 41 := m48
  have m49 : γ 3 3 0 1 = ρ 42 := m49
  have m50 : γ 3 10 (ρ 18 + 9 * ρ 1 + 1) 5 = ρ 43 := m50
  have m51 : γ 3 10 (ρ 18 + 9 * ρ 1 + 1) 7 = ρ 44 := m51
  have m52 : γ 3 10 (ρ 18 + 9 * ρ 1 + 1) 9 = ρ 45 := m52
  have m53 : γ 3 10 (ρ 18 + 9 * ρ 1 + 1) 12 = ρ 46 := m53
  have m54 : γ 7 2 0 6 = ρ 47 := m54
  have m55 : γ 8 2 0 4 = ρ 47 := m55
  obtain ⟨⟨⟨⟨⟨⟨⟨⟨-, c1⟩, c2⟩, c3⟩, c4⟩, c5⟩, c6⟩, c7⟩, c8⟩ := hc
  have c1 : ∀ (G : Nat) (k j : Int), ¬ rMdP m107_ G j → γ 1 G k j = γ 0 G k j := c1
  have c2 : ∀ (G : Nat) (k j : Int), ¬ rMdP m0_ G j → γ 2 G k j = γ 1 G k j := c2
  have c3 : ∀ (G : Nat) (k j : Int), ¬ rMdP m106_ G j → γ 3 G k j = γ 2 G k j := c3
  have c4 : γ 4 = rUp (γ 3) 9 (ρ 1) 2 (ρ 18 + 1) := c4
  have c5 : γ 5 = rUp (γ 4) 10 (ρ 18 + 9 * ρ 1 + 1) 10 (ρ 20) := c5
  have c6 : γ 6 = rUp (γ 5) 9 (ρ 1) 3 (ρ 20 + 1) := c6
  have c7 : ∀ (G : Nat) (k j : Int), ¬ rMdP m77_ G j → γ 7 G k j = γ 6 G k j := c7
  have c8 : ∀ (G : Nat) (k j : Int), ¬ rMdP m72_ G j → γ 8 G k j = γ 7 G k j := c8
  obtain ⟨l0, l1, l2, l3, -⟩ := hl
  have l0 : sn132 [ρ 1, ρ 18] (γ 1) 0 (ρ 18 + 9 * ρ 1 + 1) (γ 2) := hS132 _ _ _ _ _ l0
  have l1 : sn157 [ρ 0, ρ 1, ρ 18, ρ 19, ρ 4, ρ 27, ρ 28, ρ 29, ρ 5, ρ 6, ρ 7, ρ 21, ρ 11, ρ 22, ρ 23, ρ 24, ρ 25, ρ 26, ρ 30, ρ 31, ρ 32, ρ 33] (γ 2) 0 1 (γ 3) := hS157 _ _ _ _ _ l1
  have l2 : sn114 [ρ 34, ρ 4] (γ 6) 0 (-1) (γ 7) := hS114 _ _ _ _ _ l2
  have l3 : sn109 [ρ 47, ρ 11] (γ 7) 0 0 (γ 8) := hS109 _ _ _ _ _ l3
  show sn158 [ρ 0, ρ 1, ρ 2, ρ 3, ρ 4, ρ 5, ρ 6, ρ 7, ρ 8, ρ 9, ρ 10, ρ 11, ρ 12, ρ 13, ρ 14, ρ 15, ρ 16, ρ 17] (γ 0) 0 0 (γ 8)
  have hD : en158 (γ 0) (0, [], γ 1) = .inr (0, 0, γ 8) := by
    unfold en158
    refine (if_pos (show (0 : Nat) = 0 by decide)).trans ?_
    refine (zLet_eq (show _ = γ 1 from rfl)).trans ?_
    refine (zLet_eq m0).trans ?_
    refine (zLet_eq m1).trans ?_
    refine (zLet_eq m18).trans ?_
    refine (zLet_eq m22).trans ?_
    refine (if_neg (show ¬ (ρ 18 ≥ 8) by omega)).trans ?_
    refine (zLet_eq (show fn132 [ρ 1, ρ 18] (γ 1) = (0, ρ 18 + 9 * ρ 1 + 1, γ 2) from l0.symm)).trans ?_
    refine (zLet_eq (show _ = γ 2 from rfl)).trans ?_
    refine (zLet_eq (show fn157 [] (γ 2) = (0, 1, γ 3) from l1.symm)).trans ?_
    refine (zLet_eq (show _ = γ 3 from rfl)).trans ?_
    refine (if_pos (show (1 : Int) ≤ 1 by omega)).trans ?_
    refine (if_neg (show ¬ (3 ≤ γ 3 10 (ρ 18 + 9 * ρ 1 + 1) 4) by omega)).trans ?_
    refine (zLet_eq m38).trans ?_
    refine (zLet_eq c4.symm).trans ?_
    refine (if_neg (show ¬ (ρ 35 ≠ 1) by omega)).trans ?_
    refine (zLet_eq c5.symm).trans ?_
    refine (zLet_eq c6.symm).trans ?_
    refine (zLet_eq (show fn114 [] (γ 6) = (0, (-1), γ 7) from l2.symm)).trans ?_
    refine (zLet_eq (show _ = γ 7 from rfl)).trans ?_
    refine (if_neg (show ¬ ((0 : Int) ≤ (-1)) by omega)).trans ?_
    refine (zLet_eq m54).trans ?_
    refine (zLet_eq (show fn109 [ρ 47] (γ 7) = (0, 0, γ 8) from l3.symm)).trans ?_
    refine (zLet_eq (show _ = γ 8 from rfl)).trans ?_
    rfl
  exact zGoo_aend hJ hD
theorem vn158a0_22 {S : Nat → zSpc} (hS109 : ∀ x g o v gz, S 109 x g o v gz → sn109 x g o v gz) (hS114 : ∀ x g o v gz, S 114 x g o v gz → sn114 x g o v gz) (hS132 : ∀ x g o v gz, S 132 x g o v gz → sn132 x g o v gz) (hS152 : ∀ x g o v gz, S 152 x g o v gz → sn152 x g o v gz) (hS153 : ∀ x g o v gz, S 153 x g o v gz → sn153 x g o v gz) (hS157 : ∀ x g o v gz, S 157 x g o v gz → sn157 x g o v gz) {a : List Int} {g : rHp} : ∀ (ρ : Nat → Int) (γ : Nat → rHp), jn158 a g 0 (zAg (zNA a158_ 0) ρ) (γ 1) → zO 18 S a g q158a0_22 ρ γ → zGl (fun i vs g1 => jn158 a g i vs g1) (sn158 a g) q158a0_22 ρ γ := by
  intro ρ γ hJ h
  obtain ⟨ha, hg, hr, hf, hm, hc, hl⟩ := h
  have ha : a = [ρ 0, ρ 1, ρ 2, ρ 3, ρ 4, ρ 5, ρ 6, ρ 7, ρ 8, ρ 9, ρ 10, ρ 11, ρ 12, ρ 13, ρ 14, ρ 15, ρ 16, ρ 17] := ha
  subst ha
  subst hg
  have hJ : jn158 [ρ 0, ρ 1, ρ 2, ρ 3, ρ 4, ρ 5, ρ 6, ρ 7, ρ 8, ρ 9, ρ 10, ρ 11, ρ 12, ρ 13, ρ 14, ρ 15, ρ 16, ρ 17] (γ 0) 0 [ρ 0, ρ 1, ρ 2, ρ 3, ρ 4, ρ 5, ρ 6, ρ 7, ρ 8, ρ 9, ρ 10, ρ 11, ρ 12, ρ 13, ρ 14, ρ 15, ρ 16, ρ 17, ρ 18, ρ 19, ρ 20, ρ 21, ρ 22, ρ 23, ρ 24, ρ 25, ρ 26] (γ 1) := hJ
  obtain ⟨r0, r1, r2, r3, r4, r5, r6, r7, r8, r9, r10, r11, r12, r13, r14, r15, r16, r17, r18, r19, r20, r21, r22, r23, r24, r25, r26, r27, r28, r29, r30, r31, r32, r33, r34, r35, r36, r37, r38, r39, r40, r41, r42, r43, r44, r45, r46, r47, r48, -⟩ := hr
  have r0 : (0 : Int) ≤ ρ 0 ∧ ρ 0 ≤ 60 := r0
  have r1 : (0 : Int) ≤ ρ 1 ∧ ρ 1 ≤ 60 := r1
  have r2 : (0 : Int) ≤ ρ 2 ∧ ρ 2 ≤ 8 := r2
  have r3 : (0 : Int) ≤ ρ 3 ∧ ρ 3 ≤ 2000 := r3
  have r4 : (2 : Int) ≤ ρ 4 ∧ ρ 4 ≤ 2000 := r4
  have r5 : (0 : Int) ≤ ρ 5 ∧ ρ 5 ≤ 0 := r5
  have r6 : ((-1) : Int) ≤ ρ 6 ∧ ρ 6 ≤ 19 := r6
  have r7 : (0 : Int) ≤ ρ 7 ∧ ρ 7 ≤ 4 := r7
  have r8 : ((-1) : Int) ≤ ρ 8 ∧ ρ 8 ≤ 7 := r8
  have r9 : (0 : Int) ≤ ρ 9 ∧ ρ 9 ≤ 8 := r9
  have r10 : (0 : Int) ≤ ρ 10 ∧ ρ 10 ≤ 20 := r10
  have r11 : ((-2147483648) : Int) ≤ ρ 11 ∧ ρ 11 ≤ 2147483647 := r11
  have r12 : ((-2147483648) : Int) ≤ ρ 12 ∧ ρ 12 ≤ 2147483647 := r12
  have r13 : ((-2147483648) : Int) ≤ ρ 13 ∧ ρ 13 ≤ 2147483647 := r13
  have r14 : (0 : Int) ≤ ρ 14 ∧ ρ 14 ≤ 8 := r14
  have r15 : (0 : Int) ≤ ρ 15 ∧ ρ 15 ≤ 32 := r15
  have r16 : (0 : Int) ≤ ρ 16 ∧ ρ 16 ≤ 5120 := r16
  have r17 : ((-2147483648) : Int) ≤ ρ 17 ∧ ρ 17 ≤ 2147483647 := r17
  have r18 : (0 : Int) ≤ ρ 18 ∧ ρ 18 ≤ 7 := r18
  have r19 : (0 : Int) ≤ ρ 19 ∧ ρ 19 ≤ 2000 := r19
  have r20 : (0 : Int) ≤ ρ 20 ∧ ρ 20 ≤ 8 := r20
  have r21 : (0 : Int) ≤ ρ 21 ∧ ρ 21 ≤ 20 := r21
  have r22 : ((-2147483648) : Int) ≤ ρ 22 ∧ ρ 22 ≤ 2147483647 := r22
  have r23 : ((-2147483648) : Int) ≤ ρ 23 ∧ ρ 23 ≤ 2147483647 := r23
  have r24 : (0 : Int) ≤ ρ 24 ∧ ρ 24 ≤ 8 := r24
  have r25 : (0 : Int) ≤ ρ 25 ∧ ρ 25 ≤ 32 := r25
  have r26 : (0 : Int) ≤ ρ 26 ∧ ρ 26 ≤ 5120 := r26
  have r27 : (0 : Int) ≤ ρ 27 ∧ ρ 27 ≤ 8 := r27
  have r28 : ((-1) : Int) ≤ ρ 28 ∧ ρ 28 ≤ 7 := r28
  have r29 : ((-1) : Int) ≤ ρ 29 ∧ ρ 29 ≤ 19 := r29
  have r30 : (0 : Int) ≤ ρ 30 ∧ ρ 30 ≤ 4 := r30
  have r31 : ((-2147483648) : Int) ≤ ρ 31 ∧ ρ 31 ≤ 2147483647 := r31
  have r32 : ((-1) : Int) ≤ ρ 32 ∧ ρ 32 ≤ 3 := r32
  have r33 : (0 : Int) ≤ ρ 33 ∧ ρ 33 ≤ 4 := r33
  have r34 : (3 : Int) ≤ ρ 34 ∧ ρ 34 ≤ 2000 := r34
  have r35 : (1 : Int) ≤ ρ 35 ∧ ρ 35 ≤ 1 := r35
  have r36 : (0 : Int) ≤ ρ 36 ∧ ρ 36 ≤ 19 := r36
  have r37 : (1 : Int) ≤ ρ 37 ∧ ρ 37 ≤ 20 := r37
  have r38 : ((-2147483648) : Int) ≤ ρ 38 ∧ ρ 38 ≤ 2147483647 := r38
  have r39 : ((-2147483648) : Int) ≤ ρ 39 ∧ ρ 39 ≤ 2147483647 := r39
  have r40 : (0 : Int) ≤ ρ 40 ∧ ρ 40 ≤ 8 := r40
  have r41 : (0 : Int) ≤ ρ 41 ∧ ρ 41 ≤ 32 := r41
  have r42 : (0 : Int) ≤ ρ 42 ∧ ρ 42 ≤ 5120 := r42
  have r43 : (1 : Int) ≤ ρ 43 ∧ ρ 43 ≤ 4 := r43
  have r44 : (0 : Int) ≤ ρ 44 ∧ ρ 44 ≤ 1999 := r44
  have r45 : ((-1) : Int) ≤ ρ 45 ∧ ρ 45 ≤ 3 := r45
  have r46 : (0 : Int) ≤ ρ 46 ∧ ρ 46 ≤ 0 := r46
  have r47 : (44 : Int) ≤ ρ 47 ∧ ρ 47 ≤ 44 := r47
  have r48 : (0 : Int) ≤ ρ 48 ∧ ρ 48 ≤ 2000 := r48
  obtain ⟨f0, f1, f2, f3, f4, f5, f6, f7, f8, f9, f10, f11, f12, f13, f14, f15, f16, f17, f18, f19, f20, f21, f22, f23, f24, f25, f26, -⟩ := hf
  have f0 : (0 : Int) ≤ ρ 48 + -ρ 34 := f0
  have f1 : (0 : Int) ≤ -ρ 48 + ρ 4 + (-1) := f1
  have f2 : (0 : Int) ≤ -ρ 34 + ρ 4 + (-1) := f2
  have f3 : (0 : Int) ≤ -ρ 43 + ρ 34 + (-1) := f3
  have f4 : (0 : Int) ≤ -ρ 44 + ρ 34 + (-1) := f4
  have f5 : (0 : Int) ≤ -ρ 45 + ρ 34 + (-1) := f5
  have f6 : (0 : Int) ≤ ρ 34 + -ρ 19 + (-1) := f6
  have f7 : (0 : Int) ≤ ρ 37 + -ρ 36 + (-1) := f7
  have f8 : (0 : Int) ≤ ρ 37 + -ρ 21 := f8
  have f9 : (0 : Int) ≤ ρ 40 + -ρ 24 := f9
  have f10 : (0 : Int) ≤ ρ 41 + -ρ 25 := f10
  have f11 : (0 : Int) ≤ ρ 42 + -ρ 26 := f11
  have f12 : (0 : Int) ≤ ρ 44 + -ρ 19 := f12
  have f13 : (0 : Int) ≤ -ρ 34 + ρ 4 := f13
  have f14 : (0 : Int) ≤ -ρ 35 + ρ 4 + (-1) := f14
  have f15 : (0 : Int) ≤ -ρ 19 + ρ 4 + (-1) := f15
  have f16 : (0 : Int) ≤ -ρ 5 + ρ 4 + (-1) := f16
  have f17 : (0 : Int) ≤ -ρ 32 + ρ 4 := f17
  have f18 : (0 : Int) ≤ -ρ 36 + ρ 21 := f18
  have f19 : (0 : Int) ≤ -ρ 18 + ρ 4 := f19
  have f20 : (0 : Int) ≤ ρ 26 + -ρ 16 := f20
  have f21 : (0 : Int) ≤ ρ 25 + -ρ 15 := f21
  have f22 : (0 : Int) ≤ ρ 24 + -ρ 14 := f22
  have f23 : (0 : Int) ≤ ρ 21 + -ρ 10 := f23
  have f24 : (0 : Int) ≤ ρ 19 + -ρ 3 := f24
  have f25 : (0 : Int) ≤ ρ 19 + -ρ 18 := f25
  have f26 : (0 : Int) ≤ -ρ 20 + ρ 18 := f26
  obtain ⟨m0, m1, m2, m3, m4, m5, m6, m7, m8, m9, m10, m11, m12, m13, m14, m15, m16, m17, m18, m19, m20, m21, m22, m23, m24, m25, m26, m27, m28, m29, m30, m31, m32, m33, m34, m35, m36, m37, m38, m39, m40, m41, m42, m43, m44, m45, m46, m47, m48, m49, m50, m51, m52, m53, m54, -⟩ := hm
  have m0 : γ 0 1 0 10 = ρ 0 := m0
  have m1 : γ 0 40 0 (ρ 0) = ρ 1 := m1
  have m2 : γ 0 9 (ρ 1) 2 = ρ 2 := m2
  have m3 : γ 0 2 0 6 = ρ 3 := m3
  have m4 : γ 0 2 0 3 = ρ 4 := m4
  have m5 : γ 0 2 0 7 = ρ 5 := m5
  have m6 : γ 0 10 (9 * ρ 1) 8 = ρ 6 := m6
  have m7 : γ 0 10 (9 * ρ 1) 12 = ρ 7 := m7
  have m8 : γ 0 10 (9 * ρ 1) 14 = ρ 8 := m8
  have m9 : γ 0 9 (ρ 1) 3 = ρ 9 := m9
  have m10 : γ 0 1 0 7 = ρ 10 := m10
  have m11 : γ 0 2 0 4 = ρ 11 := m11
  have m12 : γ 0 2 0 5 = ρ 12 := m12
  have m13 : γ 0 2 0 9 = ρ 13 := m13
  have m14 : γ 0 2 0 13 = ρ 14 := m14
  have m15 : γ 0 2 0 16 = ρ 15 := m15
  have m16 : γ 0 3 0 1 = ρ 16 := m16
  have m17 : γ 0 10 (9 * ρ 1) 15 = ρ 17 := m17
  have m18 : γ 1 9 (ρ 1) 2 = ρ 18 := m18
  have m19 : γ 1 2 0 6 = ρ 19 := m19
  have m20 : γ 1 10 (9 * ρ 1) 8 = ρ 6 := m20
  have m21 : γ 1 10 (9 * ρ 1) 12 = ρ 7 := m21
  have m22 : γ 1 9 (ρ 1) 3 = ρ 20 := m22
  have m23 : γ 1 1 0 7 = ρ 21 := m23
  have m24 : γ 1 2 0 4 = ρ 11 := m24
  have m25 : γ 1 2 0 5 = ρ 22 := m25
  have m26 : γ 1 2 0 9 = ρ 23 := m26
  have m27 : γ 1 2 0 13 = ρ 24 := m27
  have m28 : γ 1 2 0 16 = ρ 25 := m28
  have m29 : γ 1 3 0 1 = ρ 26 := m29
  have m30 : γ 1 10 (ρ 18 + 9 * ρ 1 + 1) 4 = ρ 27 := m30
  have m31 : γ 1 10 (ρ 18 + 9 * ρ 1 + 1) 11 = ρ 28 := m31
  have m32 : γ 1 10 (ρ 18 + 9 * ρ 1 + 1) 8 = ρ 29 := m32
  have m33 : γ 1 10 (ρ 18 + 9 * ρ 1 + 1) 5 = ρ 30 := m33
  have m34 : γ 1 10 (ρ 18 + 9 * ρ 1 + 1) 7 = ρ 31 := m34
  have m35 : γ 1 10 (ρ 18 + 9 * ρ 1 + 1) 9 = ρ 32 := m35
  have m36 : γ 1 10 (ρ 18 + 9 * ρ 1 + 1) 12 = ρ 33 := m36
  have m37 : γ 3 2 0 6 = ρ 34 := m37
  have m38 : γ 3 10 (ρ 18 + 9 * ρ 1 + 1) 4 = ρ 35 := m38
  have m39 : γ 3 10 (ρ 18 + 9 * ρ 1 + 1) 11 = ρ 28 := m39
  have m40 : γ 3 10 (ρ 18 + 9 * ρ 1 + 1) 8 = ρ 36 := m40
  have m41 : γ 3 10 (9 * ρ 1) 8 = ρ 6 := m41
  have m42 : γ 3 10 (9 * ρ 1) 12 = ρ 7 := m42
  have m43 : γ 3 1 0 7 = ρ 37 := m43
  have m44 : γ 3 2 0 4 = ρ 11 := m44
  have m45 : γ 3 2 0 5 = ρ 38 := m45
  have m46 : γ 3 2 0 9 = ρ 39 := m46
  have m47 : γ 3 2 0 13 = ρ 40 := m47
  have m48 : γ 3 2 0 16 = ρ 41 := m48
  have m49 : γ 3 3 0 1 = ρ 42 := m49
  have m50 : γ 3 10 (ρ 18 + 9 * ρ 1 + 1) 5 = ρ 43 := m50
  have m51 : γ 3 10 (ρ 18 + 9 * ρ 1 + 1) 7 = ρ 44 := m51
  have m52 : γ 3 10 (ρ 18 + 9 * ρ 1 + 1) 9 = ρ 45 := m52
  have m53 : γ 3 10 (ρ 18 + 9 * ρ 1 + 1) 12 = ρ 46 := m53
  have m54 : γ 7 2 0 6 = ρ 48 := m54
  obtain ⟨⟨⟨⟨⟨⟨⟨⟨-, c1⟩, c2⟩, c3⟩, c4⟩, c5⟩, c6⟩, c7⟩, c8⟩ := hc
  have c1 : ∀ (G : Nat) (k j : Int), ¬ rMdP m107_ G j → γ 1 G k j = γ 0 G k j := c1
  have c2 : ∀ (G : Nat) (k j : Int), ¬ rMdP m0_ G j → γ 2 G k j = γ 1 G k j := c2
  have c3 : ∀ (G : Nat) (k j : Int), ¬ rMdP m106_ G j → γ 3 G k j = γ 2 G k j := c3
  have c4 : γ 4 = rUp (γ 3) 9 (ρ 1) 2 (ρ 18 + 1) := c4
  have c5 : γ 5 = rUp (γ 4) 10 (ρ 18 + 9 * ρ 1 + 1) 10 (ρ 20) := c5
  have c6 : γ 6 = rUp (γ 5) 9 (ρ 1) 3 (ρ 20 + 1) := c6
  have c7 : ∀ (G : Nat) (k j : Int), ¬ rMdP m77_ G j → γ 7 G k j = γ 6 G k j := c7
  have c8 : γ 8 = rUp (γ 7) 2 0 6 (ρ 48 + 1) := c8
  obtain ⟨l0, l1, l2, l3, -⟩ := hl
  have l0 : sn132 [ρ 1, ρ 18] (γ 1) 0 (ρ 18 + 9 * ρ 1 + 1) (γ 2) := hS132 _ _ _ _ _ l0
  have l1 : sn157 [ρ 0, ρ 1, ρ 18, ρ 19, ρ 4, ρ 27, ρ 28, ρ 29, ρ 5, ρ 6, ρ 7, ρ 21, ρ 11, ρ 22, ρ 23, ρ 24, ρ 25, ρ 26, ρ 30, ρ 31, ρ 32, ρ 33] (γ 2) 0 1 (γ 3) := hS157 _ _ _ _ _ l1
  have l2 : sn114 [ρ 34, ρ 4] (γ 6) 0 (ρ 47) (γ 7) := hS114 _ _ _ _ _ l2
  have l3 : ρ 47 ≠ 46 := l3
  show jn158 [ρ 0, ρ 1, ρ 2, ρ 3, ρ 4, ρ 5, ρ 6, ρ 7, ρ 8, ρ 9, ρ 10, ρ 11, ρ 12, ρ 13, ρ 14, ρ 15, ρ 16, ρ 17] (γ 0) 0 [ρ 0, ρ 1, ρ 2, ρ 3, ρ 4, ρ 5, ρ 6, ρ 7, ρ 8, ρ 9, ρ 10, ρ 11, ρ 12, ρ 13, ρ 14, ρ 15, ρ 16, ρ 17, ρ 18 + 1, ρ 48 + 1, ρ 20 + 1, ρ 37, ρ 38, ρ 39, ρ 40, ρ 41, ρ 42] (γ 8)
  have hD : en158 (γ 0) (0, [], γ 1) = .inl (0, [], γ 8) := by
    unfold en158
    refine (if_pos (show (0 : Nat) = 0 by decide)).trans ?_
    refine (zLet_eq (show _ = γ 1 from rfl)).trans ?_
    refine (zLet_eq m0).trans ?_
    refine (zLet_eq m1).trans ?_
    refine (zLet_eq m18).trans ?_
    refine (zLet_eq m22).trans ?_
    refine (if_neg (show ¬ (ρ 18 ≥ 8) by omega)).trans ?_
    refine (zLet_eq (show fn132 [ρ 1, ρ 18] (γ 1) = (0, ρ 18 + 9 * ρ 1 + 1, γ 2) from l0.symm)).trans ?_
    refine (zLet_eq (show _ = γ 2 from rfl)).trans ?_
    refine (zLet_eq (show fn157 [] (γ 2) = (0, 1, γ 3) from l1.symm)).trans ?_
    refine (zLet_eq (show _ = γ 3 from rfl)).trans ?_
    refine (if_pos (show (1 : Int) ≤ 1 by omega)).trans ?_
    refine (if_neg (show ¬ (3 ≤ γ 3 10 (ρ 18 + 9 * ρ 1 + 1) 4) by omega)).trans ?_
    refine (zLet_eq m38).trans ?_
    refine (zLet_eq c4.symm).trans ?_
    refine (if_neg (show ¬ (ρ 35 ≠ 1) by omega)).trans ?_
    refine (zLet_eq c5.symm).trans ?_
    refine (zLet_eq c6.symm).trans ?_
    refine (zLet_eq (show fn114 [] (γ 6) = (0, ρ 47, γ 7) from l2.symm)).trans ?_
    refine (zLet_eq (show _ = γ 7 from rfl)).trans ?_
    refine (if_pos (show (0 : Int) ≤ ρ 47 by omega)).trans ?_
    refine (zLet_eq (show _ = ρ 47 from rfl)).trans ?_
    refine (zLet_eq m54).trans ?_
    refine (if_pos (show ρ 47 ≠ 46 by omega)).trans ?_
    refine (if_pos (show ρ 47 = 44 by omega)).trans ?_
    refine (zLet_eq c8.symm).trans ?_
    rfl
  exact zGoo_ato hJ hD
theorem vn158a0_23 {S : Nat → zSpc} (hS109 : ∀ x g o v gz, S 109 x g o v gz → sn109 x g o v gz) (hS114 : ∀ x g o v gz, S 114 x g o v gz → sn114 x g o v gz) (hS132 : ∀ x g o v gz, S 132 x g o v gz → sn132 x g o v gz) (hS152 : ∀ x g o v gz, S 152 x g o v gz → sn152 x g o v gz) (hS153 : ∀ x g o v gz, S 153 x g o v gz → sn153 x g o v gz) (hS157 : ∀ x g o v gz, S 157 x g o v gz → sn157 x g o v gz) {a : List Int} {g : rHp} : ∀ (ρ : Nat → Int) (γ : Nat → rHp), jn158 a g 0 (zAg (zNA a158_ 0) ρ) (γ 1) → zO 18 S a g q158a0_23 ρ γ → zGl (fun i vs g1 => jn158 a g i vs g1) (sn158 a g) q158a0_23 ρ γ := by
  intro ρ γ hJ h
  obtain ⟨ha, hg, hr, hf, hm, hc, hl⟩ := h
  have ha : a = [ρ 0, ρ 1, ρ 2, ρ 3, ρ 4, ρ 5, ρ 6, ρ 7, ρ 8, ρ 9, ρ 10, ρ 11, ρ 12, ρ 13, ρ 14, ρ 15, ρ 16, ρ 17] := ha
  subst ha
  subst hg
  have hJ : jn158 [ρ 0, ρ 1, ρ 2, ρ 3, ρ 4, ρ 5, ρ 6, ρ 7, ρ 8, ρ 9, ρ 10, ρ 11, ρ 12, ρ 13, ρ 14, ρ 15, ρ 16, ρ 17] (γ 0) 0 [ρ 0, ρ 1, ρ 2, ρ 3, ρ 4, ρ 5, ρ 6, ρ 7, ρ 8, ρ 9, ρ 10, ρ 11, ρ 12, ρ 13, ρ 14, ρ 15, ρ 16, ρ 17, ρ 18, ρ 19, ρ 20, ρ 21, ρ 22, ρ 23, ρ 24, ρ 25, ρ 26] (γ 1) := hJ
  obtain ⟨r0, r1, r2, r3, r4, r5, r6, r7, r8, r9, r10, r11, r12, r13, r14, r15, r16, r17, r18, r19, r20, r21, r22, r23, r24, r25, r26, r27, r28, r29, r30, r31, r32, r33, r34, r35, r36, r37, r38, r39, r40, r41, r42, r43, r44, r45, r46, r47, r48, -⟩ := hr
  have r0 : (0 : Int) ≤ ρ 0 ∧ ρ 0 ≤ 60 := r0
  have r1 : (0 : Int) ≤ ρ 1 ∧ ρ 1 ≤ 60 := r1
  have r2 : (0 : Int) ≤ ρ 2 ∧ ρ 2 ≤ 8 := r2
  have r3 : (0 : Int) ≤ ρ 3 ∧ ρ 3 ≤ 2000 := r3
  have r4 : (2 : Int) ≤ ρ 4 ∧ ρ 4 ≤ 2000 := r4
  have r5 : (0 : Int) ≤ ρ 5 ∧ ρ 5 ≤ 0 := r5
  have r6 : ((-1) : Int) ≤ ρ 6 ∧ ρ 6 ≤ 19 := r6
  have r7 : (0 : Int) ≤ ρ 7 ∧ ρ 7 ≤ 4 := r7
  have r8 : ((-1) : Int) ≤ ρ 8 ∧ ρ 8 ≤ 7 := r8
  have r9 : (0 : Int) ≤ ρ 9 ∧ ρ 9 ≤ 8 := r9
  have r10 : (0 : Int) ≤ ρ 10 ∧ ρ 10 ≤ 20 := r10
  have r11 : ((-2147483648) : Int) ≤ ρ 11 ∧ ρ 11 ≤ 2147483647 := r11
  have r12 : ((-2147483648) : Int) ≤ ρ 12 ∧ ρ 12 ≤ 2147483647 := r12
  have r13 : ((-2147483648) : Int) ≤ ρ 13 ∧ ρ 13 ≤ 2147483647 := r13
  have r14 : (0 : Int) ≤ ρ 14 ∧ ρ 14 ≤ 8 := r14
  have r15 : (0 : Int) ≤ ρ 15 ∧ ρ 15 ≤ 32 := r15
  have r16 : (0 : Int) ≤ ρ 16 ∧ ρ 16 ≤ 5120 := r16
  have r17 : ((-2147483648) : Int) ≤ ρ 17 ∧ ρ 17 ≤ 2147483647 := r17
  have r18 : (0 : Int) ≤ ρ 18 ∧ ρ 18 ≤ 7 := r18
  have r19 : (0 : Int) ≤ ρ 19 ∧ ρ 19 ≤ 2000 := r19
  have r20 : (0 : Int) ≤ ρ 20 ∧ ρ 20 ≤ 8 := r20
  have r21 : (0 : Int) ≤ ρ 21 ∧ ρ 21 ≤ 20 := r21
  have r22 : ((-2147483648) : Int) ≤ ρ 22 ∧ ρ 22 ≤ 2147483647 := r22
  have r23 : ((-2147483648) : Int) ≤ ρ 23 ∧ ρ 23 ≤ 2147483647 := r23
  have r24 : (0 : Int) ≤ ρ 24 ∧ ρ 24 ≤ 8 := r24
  have r25 : (0 : Int) ≤ ρ 25 ∧ ρ 25 ≤ 32 := r25
  have r26 : (0 : Int) ≤ ρ 26 ∧ ρ 26 ≤ 5120 := r26
  have r27 : (0 : Int) ≤ ρ 27 ∧ ρ 27 ≤ 8 := r27
  have r28 : ((-1) : Int) ≤ ρ 28 ∧ ρ 28 ≤ 7 := r28
  have r29 : ((-1) : Int) ≤ ρ 29 ∧ ρ 29 ≤ 19 := r29
  have r30 : (0 : Int) ≤ ρ 30 ∧ ρ 30 ≤ 4 := r30
  have r31 : ((-2147483648) : Int) ≤ ρ 31 ∧ ρ 31 ≤ 2147483647 := r31
  have r32 : ((-1) : Int) ≤ ρ 32 ∧ ρ 32 ≤ 3 := r32
  have r33 : (0 : Int) ≤ ρ 33 ∧ ρ 33 ≤ 4 := r33
  have r34 : (3 : Int) ≤ ρ 34 ∧ ρ 34 ≤ 2000 := r34
  have r35 : (1 : Int) ≤ ρ 35 ∧ ρ 35 ≤ 1 := r35
  have r36 : (0 : Int) ≤ ρ 36 ∧ ρ 36 ≤ 19 := r36
  have r37 : (1 : Int) ≤ ρ 37 ∧ ρ 37 ≤ 20 := r37
  have r38 : ((-2147483648) : Int) ≤ ρ 38 ∧ ρ 38 ≤ 2147483647 := r38
  have r39 : ((-2147483648) : Int) ≤ ρ 39 ∧ ρ 39 ≤ 2147483647 := r39
  have r40 : (0 : Int) ≤ ρ 40 ∧ ρ 40 ≤ 8 := r40
  have r41 : (0 : Int) ≤ ρ 41 ∧ ρ 41 ≤ 32 := r41
  have r42 : (0 : Int) ≤ ρ 42 ∧ ρ 42 ≤ 5120 := r42
  have r43 : (1 : Int) ≤ ρ 43 ∧ ρ 43 ≤ 4 := r43
  have r44 : (0 : Int) ≤ ρ 44 ∧ ρ 44 ≤ 1999 := r44
  have r45 : ((-1) : Int) ≤ ρ 45 ∧ ρ 45 ≤ 3 := r45
  have r46 : (0 : Int) ≤ ρ 46 ∧ ρ 46 ≤ 0 := r46
  have r47 : (0 : Int) ≤ ρ 47 ∧ ρ 47 ≤ 255 := r47
  have r48 : (0 : Int) ≤ ρ 48 ∧ ρ 48 ≤ 2000 := r48
  obtain ⟨f0, f1, f2, f3, f4, f5, f6, f7, f8, f9, f10, f11, f12, f13, f14, f15, f16, f17, f18, f19, f20, f21, f22, f23, f24, f25, f26, -⟩ := hf
  have f0 : (0 : Int) ≤ ρ 48 + -ρ 34 := f0
  have f1 : (0 : Int) ≤ -ρ 48 + ρ 4 + (-1) := f1
  have f2 : (0 : Int) ≤ -ρ 34 + ρ 4 + (-1) := f2
  have f3 : (0 : Int) ≤ -ρ 43 + ρ 34 + (-1) := f3
  have f4 : (0 : Int) ≤ -ρ 44 + ρ 34 + (-1) := f4
  have f5 : (0 : Int) ≤ -ρ 45 + ρ 34 + (-1) := f5
  have f6 : (0 : Int) ≤ ρ 34 + -ρ 19 + (-1) := f6
  have f7 : (0 : Int) ≤ ρ 37 + -ρ 36 + (-1) := f7
  have f8 : (0 : Int) ≤ ρ 37 + -ρ 21 := f8
  have f9 : (0 : Int) ≤ ρ 40 + -ρ 24 := f9
  have f10 : (0 : Int) ≤ ρ 41 + -ρ 25 := f10
  have f11 : (0 : Int) ≤ ρ 42 + -ρ 26 := f11
  have f12 : (0 : Int) ≤ ρ 44 + -ρ 19 := f12
  have f13 : (0 : Int) ≤ -ρ 34 + ρ 4 := f13
  have f14 : (0 : Int) ≤ -ρ 35 + ρ 4 + (-1) := f14
  have f15 : (0 : Int) ≤ -ρ 19 + ρ 4 + (-1) := f15
  have f16 : (0 : Int) ≤ -ρ 5 + ρ 4 + (-1) := f16
  have f17 : (0 : Int) ≤ -ρ 32 + ρ 4 := f17
  have f18 : (0 : Int) ≤ -ρ 36 + ρ 21 := f18
  have f19 : (0 : Int) ≤ -ρ 18 + ρ 4 := f19
  have f20 : (0 : Int) ≤ ρ 26 + -ρ 16 := f20
  have f21 : (0 : Int) ≤ ρ 25 + -ρ 15 := f21
  have f22 : (0 : Int) ≤ ρ 24 + -ρ 14 := f22
  have f23 : (0 : Int) ≤ ρ 21 + -ρ 10 := f23
  have f24 : (0 : Int) ≤ ρ 19 + -ρ 3 := f24
  have f25 : (0 : Int) ≤ ρ 19 + -ρ 18 := f25
  have f26 : (0 : Int) ≤ -ρ 20 + ρ 18 := f26
  obtain ⟨m0, m1, m2, m3, m4, m5, m6, m7, m8, m9, m10, m11, m12, m13, m14, m15, m16, m17, m18, m19, m20, m21, m22, m23, m24, m25, m26, m27, m28, m29, m30, m31, m32, m33, m34, m35, m36, m37, m38, m39, m40, m41, m42, m43, m44, m45, m46, m47, m48, m49, m50, m51, m52, m53, m54, m55, -⟩ := hm
  have m0 : γ 0 1 0 10 = ρ 0 := m0
  have m1 : γ 0 40 0 (ρ 0) = ρ 1 := m1
  have m2 : γ 0 9 (ρ 1) 2 = ρ 2 := m2
  have m3 : γ 0 2 0 6 = ρ 3 := m3
  have m4 : γ 0 2 0 3 = ρ 4 := m4
  have m5 : γ 0 2 0 7 = ρ 5 := m5
  have m6 : γ 0 10 (9 * ρ 1) 8 = ρ 6 := m6
  have m7 : γ 0 10 (9 * ρ 1) 12 = ρ 7 := m7
  have m8 : γ 0 10 (9 * ρ 1) 14 = ρ 8 := m8
  have m9 : γ 0 9 (ρ 1) 3 = ρ 9 := m9
  have m10 : γ 0 1 0 7 = ρ 10 := m10
  have m11 : γ 0 2 0 4 = ρ 11 := m11
  have m12 : γ 0 2 0 5 = ρ 12 := m12
  have m13 : γ 0 2 0 9 = ρ 13 := m13
  have m14 : γ 0 2 0 13 = ρ 14 := m14
  have m15 : γ 0 2 0 16 = ρ 15 := m15
  have m16 : γ 0 3 0 1 = ρ 16 := m16
  have m17 : γ 0 10 (9 * ρ 1) 15 = ρ 17 := m17
  have m18 : γ 1 9 (ρ 1) 2 = ρ 18 := m18
  have m19 : γ 1 2 0 6 = ρ 19 := m19
  have m20 : γ 1 10 (9 * ρ 1) 8 = ρ 6 := m20
  have m21 : γ 1 10 (9 * ρ 1) 12 = ρ 7 := m21
  have m22 : γ 1 9 (ρ 1) 3 = ρ 20 := m22
  have m23 : γ 1 1 0 7 = ρ 21 := m23
  have m24 : γ 1 2 0 4 = ρ 11 := m24
  have m25 : γ 1 2 0 5 = ρ 22 := m25
  have m26 : γ 1 2 0 9 = ρ 23 := m26
  have m27 : γ 1 2 0 13 = ρ 24 := m27
  have m28 : γ 1 2 0 16 = ρ 25 := m28
  have m29 : γ 1 3 0 1 = ρ 26 := m29
  have m30 : γ 1 10 (ρ 18 + 9 * ρ 1 + 1) 4 = ρ 27 := m30
  have m31 : γ 1 10 (ρ 18 + 9 * ρ 1 + 1) 11 = ρ 28 := m31
  have m32 : γ 1 10 (ρ 18 + 9 * ρ 1 + 1) 8 = ρ 29 := m32
  have m33 : γ 1 10 (ρ 18 + 9 * ρ 1 + 1) 5 = ρ 30 := m33
  have m34 : γ 1 10 (ρ 18 + 9 * ρ 1 + 1) 7 = ρ 31 := m34
  have m35 : γ 1 10 (ρ 18 + 9 * ρ 1 + 1) 9 = ρ 32 := m35
  have m36 : γ 1 10 (ρ 18 + 9 * ρ 1 + 1) 12 = ρ 33 := m36
  have m37 : γ 3 2 0 6 = ρ 34 := m37
  have m38 : γ 3 10 (ρ 18 + 9 * ρ 1 + 1) 4 = ρ 35 := m38
  have m39 : γ 3 10 (ρ 18 + 9 * ρ 1 + 1) 11 = ρ 28 := m39
  have m40 : γ 3 10 (ρ 18 + 9 * ρ 1 + 1) 8 = ρ 36 := m40
  have m41 : γ 3 10 (9 * ρ 1) 8 = ρ 6 := m41
  have m42 : γ 3 10 (9 * ρ 1) 12 = ρ 7 := m42
  have m43 : γ 3 1 0 7 = ρ 37 := m43
  have m44 : γ 3 2 0 4 = ρ 11 := m44
  have m45 : γ 3 2 0 5 = ρ 38 := m45
  have m46 : γ 3 2 0 9 = ρ 39 := m46
  have m47 : γ 3 2 0 13 = ρ 40 := m47
  have m48 : γ 3 2 0 16 = ρ 41 := m48
  have m49 : γ 3 3 0 1 = ρ 42 := m49
  have m50 : γ 3 10 (ρ 18 + 9 * ρ 1 + 1) 5 = ρ 43 := m50
  have m51 : γ 3 10 (ρ 18 + 9 * ρ 1 + 1) 7 = ρ 44 := m51
  have m52 : γ 3 10 (ρ 18 + 9 * ρ 1 + 1) 9 = ρ 45 := m52
  have m53 : γ 3 10 (ρ 18 + 9 * ρ 1 + 1) 12 = ρ 46 := m53
  have m54 : γ 7 2 0 6 = ρ 48 := m54
  have m55 : γ 8 2 0 4 = ρ 48 := m55
  obtain ⟨⟨⟨⟨⟨⟨⟨⟨-, c1⟩, c2⟩, c3⟩, c4⟩, c5⟩, c6⟩, c7⟩, c8⟩ := hc
  have c1 : ∀ (G : Nat) (k j : Int), ¬ rMdP m107_ G j → γ 1 G k j = γ 0 G k j := c1
  have c2 : ∀ (G : Nat) (k j : Int), ¬ rMdP m0_ G j → γ 2 G k j = γ 1 G k j := c2
  have c3 : ∀ (G : Nat) (k j : Int), ¬ rMdP m106_ G j → γ 3 G k j = γ 2 G k j := c3
  have c4 : γ 4 = rUp (γ 3) 9 (ρ 1) 2 (ρ 18 + 1) := c4
  have c5 : γ 5 = rUp (γ 4) 10 (ρ 18 + 9 * ρ 1 + 1) 10 (ρ 20) := c5
  have c6 : γ 6 = rUp (γ 5) 9 (ρ 1) 3 (ρ 20 + 1) := c6
  have c7 : ∀ (G : Nat) (k j : Int), ¬ rMdP m77_ G j → γ 7 G k j = γ 6 G k j := c7
  have c8 : ∀ (G : Nat) (k j : Int), ¬ rMdP m72_ G j → γ 8 G k j = γ 7 G k j := c8
  obtain ⟨l0, l1, l2, l3, l4, l5, -⟩ := hl
  have l0 : sn132 [ρ 1, ρ 18] (γ 1) 0 (ρ 18 + 9 * ρ 1 + 1) (γ 2) := hS132 _ _ _ _ _ l0
  have l1 : sn157 [ρ 0, ρ 1, ρ 18, ρ 19, ρ 4, ρ 27, ρ 28, ρ 29, ρ 5, ρ 6, ρ 7, ρ 21, ρ 11, ρ 22, ρ 23, ρ 24, ρ 25, ρ 26, ρ 30, ρ 31, ρ 32, ρ 33] (γ 2) 0 1 (γ 3) := hS157 _ _ _ _ _ l1
  have l2 : sn114 [ρ 34, ρ 4] (γ 6) 0 (ρ 47) (γ 7) := hS114 _ _ _ _ _ l2
  have l3 : ρ 47 ≠ 46 := l3
  have l4 : ρ 47 ≠ 44 := l4
  have l5 : sn109 [ρ 48, ρ 11] (γ 7) 0 0 (γ 8) := hS109 _ _ _ _ _ l5
  show sn158 [ρ 0, ρ 1, ρ 2, ρ 3, ρ 4, ρ 5, ρ 6, ρ 7, ρ 8, ρ 9, ρ 10, ρ 11, ρ 12, ρ 13, ρ 14, ρ 15, ρ 16, ρ 17] (γ 0) 0 0 (γ 8)
  have hD : en158 (γ 0) (0, [], γ 1) = .inr (0, 0, γ 8) := by
    unfold en158
    refine (if_pos (show (0 : Nat) = 0 by decide)).trans ?_
    refine (zLet_eq (show _ = γ 1 from rfl)).trans ?_
    refine (zLet_eq m0).trans ?_
    refine (zLet_eq m1).trans ?_
    refine (zLet_eq m18).trans ?_
    refine (zLet_eq m22).trans ?_
    refine (if_neg (show ¬ (ρ 18 ≥ 8) by omega)).trans ?_
    refine (zLet_eq (show fn132 [ρ 1, ρ 18] (γ 1) = (0, ρ 18 + 9 * ρ 1 + 1, γ 2) from l0.symm)).trans ?_
    refine (zLet_eq (show _ = γ 2 from rfl)).trans ?_
    refine (zLet_eq (show fn157 [] (γ 2) = (0, 1, γ 3) from l1.symm)).trans ?_
    refine (zLet_eq (show _ = γ 3 from rfl)).trans ?_
    refine (if_pos (show (1 : Int) ≤ 1 by omega)).trans ?_
    refine (if_neg (show ¬ (3 ≤ γ 3 10 (ρ 18 + 9 * ρ 1 + 1) 4) by omega)).trans ?_
    refine (zLet_eq m38).trans ?_
    refine (zLet_eq c4.symm).trans ?_
    refine (if_neg (show ¬ (ρ 35 ≠ 1) by omega)).trans ?_
    refine (zLet_eq c5.symm).trans ?_
    refine (zLet_eq c6.symm).trans ?_
    refine (zLet_eq (show fn114 [] (γ 6) = (0, ρ 47, γ 7) from l2.symm)).trans ?_
    refine (zLet_eq (show _ = γ 7 from rfl)).trans ?_
    refine (if_pos (show (0 : Int) ≤ ρ 47 by omega)).trans ?_
    refine (zLet_eq (show _ = ρ 47 from rfl)).trans ?_
    refine (zLet_eq m54).trans ?_
    refine (if_pos (show ρ 47 ≠ 46 by omega)).trans ?_
    refine (if_neg (show ¬ (ρ 47 = 44) by omega)).trans ?_
    refine (zLet_eq (show fn109 [ρ 48] (γ 7) = (0, 0, γ 8) from l5.symm)).trans ?_
    refine (zLet_eq (show _ = γ 8 from rfl)).trans ?_
    rfl
  exact zGoo_aend hJ hD
theorem vn158a0_24 {S : Nat → zSpc} (hS109 : ∀ x g o v gz, S 109 x g o v gz → sn109 x g o v gz) (hS114 : ∀ x g o v gz, S 114 x g o v gz → sn114 x g o v gz) (hS132 : ∀ x g o v gz, S 132 x g o v gz → sn132 x g o v gz) (hS152 : ∀ x g o v gz, S 152 x g o v gz → sn152 x g o v gz) (hS153 : ∀ x g o v gz, S 153 x g o v gz → sn153 x g o v gz) (hS157 : ∀ x g o v gz, S 157 x g o v gz → sn157 x g o v gz) {a : List Int} {g : rHp} : ∀ (ρ : Nat → Int) (γ : Nat → rHp), jn158 a g 0 (zAg (zNA a158_ 0) ρ) (γ 1) → zO 18 S a g q158a0_24 ρ γ → zGl (fun i vs g1 => jn158 a g i vs g1) (sn158 a g) q158a0_24 ρ γ := by
  intro ρ γ hJ h
  obtain ⟨ha, hg, hr, hf, hm, hc, hl⟩ := h
  have ha : a = [ρ 0, ρ 1, ρ 2, ρ 3, ρ 4, ρ 5, ρ 6, ρ 7, ρ 8, ρ 9, ρ 10, ρ 11, ρ 12, ρ 13, ρ 14, ρ 15, ρ 16, ρ 17] := ha
  subst ha
  subst hg
  have hJ : jn158 [ρ 0, ρ 1, ρ 2, ρ 3, ρ 4, ρ 5, ρ 6, ρ 7, ρ 8, ρ 9, ρ 10, ρ 11, ρ 12, ρ 13, ρ 14, ρ 15, ρ 16, ρ 17] (γ 0) 0 [ρ 0, ρ 1, ρ 2, ρ 3, ρ 4, ρ 5, ρ 6, ρ 7, ρ 8, ρ 9, ρ 10, ρ 11, ρ 12, ρ 13, ρ 14, ρ 15, ρ 16, ρ 17, ρ 18, ρ 19, ρ 20, ρ 21, ρ 22, ρ 23, ρ 24, ρ 25, ρ 26] (γ 1) := hJ
  obtain ⟨r0, r1, r2, r3, r4, r5, r6, r7, r8, r9, r10, r11, r12, r13, r14, r15, r16, r17, r18, r19, r20, r21, r22, r23, r24, r25, r26, r27, r28, r29, r30, r31, r32, r33, r34, r35, r36, r37, r38, r39, r40, r41, r42, r43, r44, r45, r46, r47, r48, r49, r50, -⟩ := hr
  have r0 : (0 : Int) ≤ ρ 0 ∧ ρ 0 ≤ 60 := r0
  have r1 : (0 : Int) ≤ ρ 1 ∧ ρ 1 ≤ 60 := r1
  have r2 : (0 : Int) ≤ ρ 2 ∧ ρ 2 ≤ 8 := r2
  have r3 : (0 : Int) ≤ ρ 3 ∧ ρ 3 ≤ 2000 := r3
  have r4 : (2 : Int) ≤ ρ 4 ∧ ρ 4 ≤ 2000 := r4
  have r5 : (0 : Int) ≤ ρ 5 ∧ ρ 5 ≤ 0 := r5
  have r6 : ((-1) : Int) ≤ ρ 6 ∧ ρ 6 ≤ 19 := r6
  have r7 : (0 : Int) ≤ ρ 7 ∧ ρ 7 ≤ 4 := r7
  have r8 : ((-1) : Int) ≤ ρ 8 ∧ ρ 8 ≤ 7 := r8
  have r9 : (0 : Int) ≤ ρ 9 ∧ ρ 9 ≤ 8 := r9
  have r10 : (0 : Int) ≤ ρ 10 ∧ ρ 10 ≤ 20 := r10
  have r11 : ((-2147483648) : Int) ≤ ρ 11 ∧ ρ 11 ≤ 2147483647 := r11
  have r12 : ((-2147483648) : Int) ≤ ρ 12 ∧ ρ 12 ≤ 2147483647 := r12
  have r13 : ((-2147483648) : Int) ≤ ρ 13 ∧ ρ 13 ≤ 2147483647 := r13
  have r14 : (0 : Int) ≤ ρ 14 ∧ ρ 14 ≤ 8 := r14
  have r15 : (0 : Int) ≤ ρ 15 ∧ ρ 15 ≤ 32 := r15
  have r16 : (0 : Int) ≤ ρ 16 ∧ ρ 16 ≤ 5120 := r16
  have r17 : ((-2147483648) : Int) ≤ ρ 17 ∧ ρ 17 ≤ 2147483647 := r17
  have r18 : (0 : Int) ≤ ρ 18 ∧ ρ 18 ≤ 7 := r18
  have r19 : (0 : Int) ≤ ρ 19 ∧ ρ 19 ≤ 2000 := r19
  have r20 : (0 : Int) ≤ ρ 20 ∧ ρ 20 ≤ 8 := r20
  have r21 : (0 : Int) ≤ ρ 21 ∧ ρ 21 ≤ 20 := r21
  have r22 : ((-2147483648) : Int) ≤ ρ 22 ∧ ρ 22 ≤ 2147483647 := r22
  have r23 : ((-2147483648) : Int) ≤ ρ 23 ∧ ρ 23 ≤ 2147483647 := r23
  have r24 : (0 : Int) ≤ ρ 24 ∧ ρ 24 ≤ 8 := r24
  have r25 : (0 : Int) ≤ ρ 25 ∧ ρ 25 ≤ 32 := r25
  have r26 : (0 : Int) ≤ ρ 26 ∧ ρ 26 ≤ 5120 := r26
  have r27 : (0 : Int) ≤ ρ 27 ∧ ρ 27 ≤ 8 := r27
  have r28 : ((-1) : Int) ≤ ρ 28 ∧ ρ 28 ≤ 7 := r28
  have r29 : ((-1) : Int) ≤ ρ 29 ∧ ρ 29 ≤ 19 := r29
  have r30 : (0 : Int) ≤ ρ 30 ∧ ρ 30 ≤ 4 := r30
  have r31 : ((-2147483648) : Int) ≤ ρ 31 ∧ ρ 31 ≤ 2147483647 := r31
  have r32 : ((-1) : Int) ≤ ρ 32 ∧ ρ 32 ≤ 3 := r32
  have r33 : (0 : Int) ≤ ρ 33 ∧ ρ 33 ≤ 4 := r33
  have r34 : (3 : Int) ≤ ρ 34 ∧ ρ 34 ≤ 2000 := r34
  have r35 : (1 : Int) ≤ ρ 35 ∧ ρ 35 ≤ 1 := r35
  have r36 : (0 : Int) ≤ ρ 36 ∧ ρ 36 ≤ 19 := r36
  have r37 : (1 : Int) ≤ ρ 37 ∧ ρ 37 ≤ 20 := r37
  have r38 : ((-2147483648) : Int) ≤ ρ 38 ∧ ρ 38 ≤ 2147483647 := r38
  have r39 : ((-2147483648) : Int) ≤ ρ 39 ∧ ρ 39 ≤ 2147483647 := r39
  have r40 : (0 : Int) ≤ ρ 40 ∧ ρ 40 ≤ 8 := r40
  have r41 : (0 : Int) ≤ ρ 41 ∧ ρ 41 ≤ 32 := r41
  have r42 : (0 : Int) ≤ ρ 42 ∧ ρ 42 ≤ 5120 := r42
  have r43 : (1 : Int) ≤ ρ 43 ∧ ρ 43 ≤ 4 := r43
  have r44 : (0 : Int) ≤ ρ 44 ∧ ρ 44 ≤ 1999 := r44
  have r45 : ((-1) : Int) ≤ ρ 45 ∧ ρ 45 ≤ 3 := r45
  have r46 : (0 : Int) ≤ ρ 46 ∧ ρ 46 ≤ 0 := r46
  have r47 : (46 : Int) ≤ ρ 47 ∧ ρ 47 ≤ 46 := r47
  have r48 : (0 : Int) ≤ ρ 48 ∧ ρ 48 ≤ 2000 := r48
  have r49 : (0 : Int) ≤ ρ 49 ∧ ρ 49 ≤ 4 := r49
  have r50 : ((-2147483648) : Int) ≤ ρ 50 ∧ ρ 50 ≤ 2147483647 := r50
  obtain ⟨f0, f1, f2, f3, f4, f5, f6, f7, f8, f9, f10, f11, f12, f13, f14, f15, f16, f17, f18, f19, f20, f21, f22, f23, f24, f25, f26, -⟩ := hf
  have f0 : (0 : Int) ≤ ρ 48 + -ρ 34 := f0
  have f1 : (0 : Int) ≤ -ρ 48 + ρ 4 + (-1) := f1
  have f2 : (0 : Int) ≤ -ρ 34 + ρ 4 + (-1) := f2
  have f3 : (0 : Int) ≤ -ρ 43 + ρ 34 + (-1) := f3
  have f4 : (0 : Int) ≤ -ρ 44 + ρ 34 + (-1) := f4
  have f5 : (0 : Int) ≤ -ρ 45 + ρ 34 + (-1) := f5
  have f6 : (0 : Int) ≤ ρ 34 + -ρ 19 + (-1) := f6
  have f7 : (0 : Int) ≤ ρ 37 + -ρ 36 + (-1) := f7
  have f8 : (0 : Int) ≤ ρ 37 + -ρ 21 := f8
  have f9 : (0 : Int) ≤ ρ 40 + -ρ 24 := f9
  have f10 : (0 : Int) ≤ ρ 41 + -ρ 25 := f10
  have f11 : (0 : Int) ≤ ρ 42 + -ρ 26 := f11
  have f12 : (0 : Int) ≤ ρ 44 + -ρ 19 := f12
  have f13 : (0 : Int) ≤ -ρ 34 + ρ 4 := f13
  have f14 : (0 : Int) ≤ -ρ 35 + ρ 4 + (-1) := f14
  have f15 : (0 : Int) ≤ -ρ 19 + ρ 4 + (-1) := f15
  have f16 : (0 : Int) ≤ -ρ 5 + ρ 4 + (-1) := f16
  have f17 : (0 : Int) ≤ -ρ 32 + ρ 4 := f17
  have f18 : (0 : Int) ≤ -ρ 36 + ρ 21 := f18
  have f19 : (0 : Int) ≤ -ρ 18 + ρ 4 := f19
  have f20 : (0 : Int) ≤ ρ 26 + -ρ 16 := f20
  have f21 : (0 : Int) ≤ ρ 25 + -ρ 15 := f21
  have f22 : (0 : Int) ≤ ρ 24 + -ρ 14 := f22
  have f23 : (0 : Int) ≤ ρ 21 + -ρ 10 := f23
  have f24 : (0 : Int) ≤ ρ 19 + -ρ 3 := f24
  have f25 : (0 : Int) ≤ ρ 19 + -ρ 18 := f25
  have f26 : (0 : Int) ≤ -ρ 20 + ρ 18 := f26
  obtain ⟨m0, m1, m2, m3, m4, m5, m6, m7, m8, m9, m10, m11, m12, m13, m14, m15, m16, m17, m18, m19, m20, m21, m22, m23, m24, m25, m26, m27, m28, m29, m30, m31, m32, m33, m34, m35, m36, m37, m38, m39, m40, m41, m42, m43, m44, m45, m46, m47, m48, m49, m50, m51, m52, m53, m54, m55, m56, -⟩ := hm
  have m0 : γ 0 1 0 10 = ρ 0 := m0
  have m1 : γ 0 40 0 (ρ 0) = ρ 1 := m1
  have m2 : γ 0 9 (ρ 1) 2 = ρ 2 := m2
  have m3 : γ 0 2 0 6 = ρ 3 := m3
  have m4 : γ 0 2 0 3 = ρ 4 := m4
  have m5 : γ 0 2 0 7 = ρ 5 := m5
  have m6 : γ 0 10 (9 * ρ 1) 8 = ρ 6 := m6
  have m7 : γ 0 10 (9 * ρ 1) 12 = ρ 7 := m7
  have m8 : γ 0 10 (9 * ρ 1) 14 = ρ 8 := m8
  have m9 : γ 0 9 (ρ 1) 3 = ρ 9 := m9
  have m10 : γ 0 1 0 7 = ρ 10 := m10
  have m11 : γ 0 2 0 4 = ρ 11 := m11
  have m12 : γ 0 2 0 5 = ρ 12 := m12
  have m13 : γ 0 2 0 9 = ρ 13 := m13
  have m14 : γ 0 2 0 13 = ρ 14 := m14
  have m15 : γ 0 2 0 16 = ρ 15 := m15
  have m16 : γ 0 3 0 1 = ρ 16 := m16
  have m17 : γ 0 10 (9 * ρ 1) 15 = ρ 17 := m17
  have m18 : γ 1 9 (ρ 1) 2 = ρ 18 := m18
  have m19 : γ 1 2 0 6 = ρ 19 := m19
  have m20 : γ 1 10 (9 * ρ 1) 8 = ρ 6 := m20
  have m21 : γ 1 10 (9 * ρ 1) 12 = ρ 7 := m21
  have m22 : γ 1 9 (ρ 1) 3 = ρ 20 := m22
  have m23 : γ 1 1 0 7 = ρ 21 := m23
  have m24 : γ 1 2 0 4 = ρ 11 := m24
  have m25 : γ 1 2 0 5 = ρ 22 := m25
  have m26 : γ 1 2 0 9 = ρ 23 := m26
  have m27 : γ 1 2 0 13 = ρ 24 := m27
  have m28 : γ 1 2 0 16 = ρ 25 := m28
  have m29 : γ 1 3 0 1 = ρ 26 := m29
  have m30 : γ 1 10 (ρ 18 + 9 * ρ 1 + 1) 4 = ρ 27 := m30
  have m31 : γ 1 10 (ρ 18 + 9 * ρ 1 + 1) 11 = ρ 28 := m31
  have m32 : γ 1 10 (ρ 18 + 9 * ρ 1 + 1) 8 = ρ 29 := m32
  have m33 : γ 1 10 (ρ 18 + 9 * ρ 1 + 1) 5 = ρ 30 := m33
  have m34 : γ 1 10 (ρ 18 + 9 * ρ 1 + 1) 7 = ρ 31 := m34
  have m35 : γ 1 10 (ρ 18 + 9 * ρ 1 + 1) 9 = ρ 32 := m35
  have m36 : γ 1 10 (ρ 18 + 9 * ρ 1 + 1) 12 = ρ 33 := m36
  have m37 : γ 3 2 0 6 = ρ 34 := m37
  have m38 : γ 3 10 (ρ 18 + 9 * ρ 1 + 1) 4 = ρ 35 := m38
  have m39 : γ 3 10 (ρ 18 + 9 * ρ 1 + 1) 11 = ρ 28 := m39
  have m40 : γ 3 10 (ρ 18 + 9 * ρ 1 + 1) 8 = ρ 36 := m40
  have m41 : γ 3 10 (9 * ρ 1) 8 = ρ 6 := m41
  have m42 : γ 3 10 (9 * ρ 1) 12 = ρ 7 := m42
  have m43 : γ 3 1 0 7 = ρ 37 := m43
  have m44 : γ 3 2 0 4 = ρ 11 := m44
  have m45 : γ 3 2 0 5 = ρ 38 := m45
  have m46 : γ 3 2 0 9 = ρ 39 := m46
  have m47 : γ 3 2 0 13 = ρ 40 := m47
  have m48 : γ 3 2 0 16 = ρ 41 := m48
  have m49 : γ 3 3 0 1 = ρ 42 := m49
  have m50 : γ 3 10 (ρ 18 + 9 * ρ 1 + 1) 5 = ρ 43 := m50
  have m51 : γ 3 10 (ρ 18 + 9 * ρ 1 + 1) 7 = ρ 44 := m51
  have m52 : γ 3 10 (ρ 18 + 9 * ρ 1 + 1) 9 = ρ 45 := m52
  have m53 : γ 3 10 (ρ 18 + 9 * ρ 1 + 1) 12 = ρ 46 := m53
  have m54 : γ 7 2 0 6 = ρ 48 := m54
  have m55 : γ 3 10 (9 * ρ 1) 5 = ρ 49 := m55
  have m56 : γ 9 2 0 4 = ρ 50 := m56
  obtain ⟨⟨⟨⟨⟨⟨⟨⟨⟨-, c1⟩, c2⟩, c3⟩, c4⟩, c5⟩, c6⟩, c7⟩, c8⟩, c9⟩ := hc
  have c1 : ∀ (G : Nat) (k j : Int), ¬ rMdP m107_ G j → γ 1 G k j = γ 0 G k j := c1
  have c2 : ∀ (G : Nat) (k j : Int), ¬ rMdP m0_ G j → γ 2 G k j = γ 1 G k j := c2
  have c3 : ∀ (G : Nat) (k j : Int), ¬ rMdP m106_ G j → γ 3 G k j = γ 2 G k j := c3
  have c4 : γ 4 = rUp (γ 3) 9 (ρ 1) 2 (ρ 18 + 1) := c4
  have c5 : γ 5 = rUp (γ 4) 10 (ρ 18 + 9 * ρ 1 + 1) 10 (ρ 20) := c5
  have c6 : γ 6 = rUp (γ 5) 9 (ρ 1) 3 (ρ 20 + 1) := c6
  have c7 : ∀ (G : Nat) (k j : Int), ¬ rMdP m77_ G j → γ 7 G k j = γ 6 G k j := c7
  have c8 : γ 8 = rUp (γ 7) 2 0 6 (ρ 48 + 1) := c8
  have c9 : ∀ (G : Nat) (k j : Int), ¬ rMdP m72_ G j → γ 9 G k j = γ 8 G k j := c9
  obtain ⟨l0, l1, l2, l3, -⟩ := hl
  have l0 : sn132 [ρ 1, ρ 18] (γ 1) 0 (ρ 18 + 9 * ρ 1 + 1) (γ 2) := hS132 _ _ _ _ _ l0
  have l1 : sn157 [ρ 0, ρ 1, ρ 18, ρ 19, ρ 4, ρ 27, ρ 28, ρ 29, ρ 5, ρ 6, ρ 7, ρ 21, ρ 11, ρ 22, ρ 23, ρ 24, ρ 25, ρ 26, ρ 30, ρ 31, ρ 32, ρ 33] (γ 2) 0 1 (γ 3) := hS157 _ _ _ _ _ l1
  have l2 : sn114 [ρ 34, ρ 4] (γ 6) 0 (ρ 47) (γ 7) := hS114 _ _ _ _ _ l2
  have l3 : sn153 [9 * ρ 1, ρ 11, ρ 38, ρ 49, ρ 7, ρ 8, ρ 17] (γ 8) 0 0 (γ 9) := hS153 _ _ _ _ _ l3
  show sn158 [ρ 0, ρ 1, ρ 2, ρ 3, ρ 4, ρ 5, ρ 6, ρ 7, ρ 8, ρ 9, ρ 10, ρ 11, ρ 12, ρ 13, ρ 14, ρ 15, ρ 16, ρ 17] (γ 0) 0 0 (γ 9)
  have hD : en158 (γ 0) (0, [], γ 1) = .inr (0, 0, γ 9) := by
    unfold en158
    refine (if_pos (show (0 : Nat) = 0 by decide)).trans ?_
    refine (zLet_eq (show _ = γ 1 from rfl)).trans ?_
    refine (zLet_eq m0).trans ?_
    refine (zLet_eq m1).trans ?_
    refine (zLet_eq m18).trans ?_
    refine (zLet_eq m22).trans ?_
    refine (if_neg (show ¬ (ρ 18 ≥ 8) by omega)).trans ?_
    refine (zLet_eq (show fn132 [ρ 1, ρ 18] (γ 1) = (0, ρ 18 + 9 * ρ 1 + 1, γ 2) from l0.symm)).trans ?_
    refine (zLet_eq (show _ = γ 2 from rfl)).trans ?_
    refine (zLet_eq (show fn157 [] (γ 2) = (0, 1, γ 3) from l1.symm)).trans ?_
    refine (zLet_eq (show _ = γ 3 from rfl)).trans ?_
    refine (if_pos (show (1 : Int) ≤ 1 by omega)).trans ?_
    refine (if_neg (show ¬ (3 ≤ γ 3 10 (ρ 18 + 9 * ρ 1 + 1) 4) by omega)).trans ?_
    refine (zLet_eq m38).trans ?_
    refine (zLet_eq c4.symm).trans ?_
    refine (if_neg (show ¬ (ρ 35 ≠ 1) by omega)).trans ?_
    refine (zLet_eq c5.symm).trans ?_
    refine (zLet_eq c6.symm).trans ?_
    refine (zLet_eq (show fn114 [] (γ 6) = (0, ρ 47, γ 7) from l2.symm)).trans ?_
    refine (zLet_eq (show _ = γ 7 from rfl)).trans ?_
    refine (if_pos (show (0 : Int) ≤ ρ 47 by omega)).trans ?_
    refine (zLet_eq (show _ = ρ 47 from rfl)).trans ?_
    refine (zLet_eq m54).trans ?_
    refine (if_neg (show ¬ (ρ 47 ≠ 46) by omega)).trans ?_
    refine (zLet_eq c8.symm).trans ?_
    refine (zLet_eq (show fn153 [9 * ρ 1] (γ 8) = (0, 0, γ 9) from l3.symm)).trans ?_
    refine (zLet_eq (show _ = γ 9 from rfl)).trans ?_
    refine (if_neg (show ¬ ((1 : Int) ≤ 0) by omega)).trans ?_
    rfl
  exact zGoo_aend hJ hD
theorem vn158a0_25 {S : Nat → zSpc} (hS109 : ∀ x g o v gz, S 109 x g o v gz → sn109 x g o v gz) (hS114 : ∀ x g o v gz, S 114 x g o v gz → sn114 x g o v gz) (hS132 : ∀ x g o v gz, S 132 x g o v gz → sn132 x g o v gz) (hS152 : ∀ x g o v gz, S 152 x g o v gz → sn152 x g o v gz) (hS153 : ∀ x g o v gz, S 153 x g o v gz → sn153 x g o v gz) (hS157 : ∀ x g o v gz, S 157 x g o v gz → sn157 x g o v gz) {a : List Int} {g : rHp} : ∀ (ρ : Nat → Int) (γ : Nat → rHp), jn158 a g 0 (zAg (zNA a158_ 0) ρ) (γ 1) → zO 18 S a g q158a0_25 ρ γ → zGl (fun i vs g1 => jn158 a g i vs g1) (sn158 a g) q158a0_25 ρ γ := by
  intro ρ γ hJ h
  obtain ⟨ha, hg, hr, hf, hm, hc, hl⟩ := h
  have ha : a = [ρ 0, ρ 1, ρ 2, ρ 3, ρ 4, ρ 5, ρ 6, ρ 7, ρ 8, ρ 9, ρ 10, ρ 11, ρ 12, ρ 13, ρ 14, ρ 15, ρ 16, ρ 17] := ha
  subst ha
  subst hg
  have hJ : jn158 [ρ 0, ρ 1, ρ 2, ρ 3, ρ 4, ρ 5, ρ 6, ρ 7, ρ 8, ρ 9, ρ 10, ρ 11, ρ 12, ρ 13, ρ 14, ρ 15, ρ 16, ρ 17] (γ 0) 0 [ρ 0, ρ 1, ρ 2, ρ 3, ρ 4, ρ 5, ρ 6, ρ 7, ρ 8, ρ 9, ρ 10, ρ 11, ρ 12, ρ 13, ρ 14, ρ 15, ρ 16, ρ 17, ρ 18, ρ 19, ρ 20, ρ 21, ρ 22, ρ 23, ρ 24, ρ 25, ρ 26] (γ 1) := hJ
  obtain ⟨r0, r1, r2, r3, r4, r5, r6, r7, r8, r9, r10, r11, r12, r13, r14, r15, r16, r17, r18, r19, r20, r21, r22, r23, r24, r25, r26, r27, r28, r29, r30, r31, r32, r33, r34, r35, r36, r37, r38, r39, r40, r41, r42, r43, r44, r45, r46, r47, r48, r49, r50, -⟩ := hr
  have r0 : (0 : Int) ≤ ρ 0 ∧ ρ 0 ≤ 60 := r0
  have r1 : (0 : Int) ≤ ρ 1 ∧ ρ 1 ≤ 60 := r1
  have r2 : (0 : Int) ≤ ρ 2 ∧ ρ 2 ≤ 8 := r2
  have r3 : (0 : Int) ≤ ρ 3 ∧ ρ 3 ≤ 2000 := r3
  have r4 : (2 : Int) ≤ ρ 4 ∧ ρ 4 ≤ 2000 := r4
  have r5 : (0 : Int) ≤ ρ 5 ∧ ρ 5 ≤ 0 := r5
  have r6 : ((-1) : Int) ≤ ρ 6 ∧ ρ 6 ≤ 19 := r6
  have r7 : (0 : Int) ≤ ρ 7 ∧ ρ 7 ≤ 4 := r7
  have r8 : ((-1) : Int) ≤ ρ 8 ∧ ρ 8 ≤ 7 := r8
  have r9 : (0 : Int) ≤ ρ 9 ∧ ρ 9 ≤ 8 := r9
  have r10 : (0 : Int) ≤ ρ 10 ∧ ρ 10 ≤ 20 := r10
  have r11 : ((-2147483648) : Int) ≤ ρ 11 ∧ ρ 11 ≤ 2147483647 := r11
  have r12 : ((-2147483648) : Int) ≤ ρ 12 ∧ ρ 12 ≤ 2147483647 := r12
  have r13 : ((-2147483648) : Int) ≤ ρ 13 ∧ ρ 13 ≤ 2147483647 := r13
  have r14 : (0 : Int) ≤ ρ 14 ∧ ρ 14 ≤ 8 := r14
  have r15 : (0 : Int) ≤ ρ 15 ∧ ρ 15 ≤ 32 := r15
  have r16 : (0 : Int) ≤ ρ 16 ∧ ρ 16 ≤ 5120 := r16
  have r17 : ((-2147483648) : Int) ≤ ρ 17 ∧ ρ 17 ≤ 2147483647 := r17
  have r18 : (0 : Int) ≤ ρ 18 ∧ ρ 18 ≤ 7 := r18
  have r19 : (0 : Int) ≤ ρ 19 ∧ ρ 19 ≤ 2000 := r19
  have r20 : (0 : Int) ≤ ρ 20 ∧ ρ 20 ≤ 8 := r20
  have r21 : (0 : Int) ≤ ρ 21 ∧ ρ 21 ≤ 20 := r21
  have r22 : ((-2147483648) : Int) ≤ ρ 22 ∧ ρ 22 ≤ 2147483647 := r22
  have r23 : ((-2147483648) : Int) ≤ ρ 23 ∧ ρ 23 ≤ 2147483647 := r23
  have r24 : (0 : Int) ≤ ρ 24 ∧ ρ 24 ≤ 8 := r24
  have r25 : (0 : Int) ≤ ρ 25 ∧ ρ 25 ≤ 32 := r25
  have r26 : (0 : Int) ≤ ρ 26 ∧ ρ 26 ≤ 5120 := r26
  have r27 : (0 : Int) ≤ ρ 27 ∧ ρ 27 ≤ 8 := r27
  have r28 : ((-1) : Int) ≤ ρ 28 ∧ ρ 28 ≤ 7 := r28
  have r29 : ((-1) : Int) ≤ ρ 29 ∧ ρ 29 ≤ 19 := r29
  have r30 : (0 : Int) ≤ ρ 30 ∧ ρ 30 ≤ 4 := r30
  have r31 : ((-2147483648) : Int) ≤ ρ 31 ∧ ρ 31 ≤ 2147483647 := r31
  have r32 : ((-1) : Int) ≤ ρ 32 ∧ ρ 32 ≤ 3 := r32
  have r33 : (0 : Int) ≤ ρ 33 ∧ ρ 33 ≤ 4 := r33
  have r34 : (3 : Int) ≤ ρ 34 ∧ ρ 34 ≤ 2000 := r34
  have r35 : (1 : Int) ≤ ρ 35 ∧ ρ 35 ≤ 1 := r35
  have r36 : (0 : Int) ≤ ρ 36 ∧ ρ 36 ≤ 19 := r36
  have r37 : (1 : Int) ≤ ρ 37 ∧ ρ 37 ≤ 20 := r37
  have r38 : ((-2147483648) : Int) ≤ ρ 38 ∧ ρ 38 ≤ 2147483647 := r38
  have r39 : ((-2147483648) : Int) ≤ ρ 39 ∧ ρ 39 ≤ 2147483647 := r39
  have r40 : (0 : Int) ≤ ρ 40 ∧ ρ 40 ≤ 8 := r40
  have r41 : (0 : Int) ≤ ρ 41 ∧ ρ 41 ≤ 32 := r41
  have r42 : (0 : Int) ≤ ρ 42 ∧ ρ 42 ≤ 5120 := r42
  have r43 : (1 : Int) ≤ ρ 43 ∧ ρ 43 ≤ 4 := r43
  have r44 : (0 : Int) ≤ ρ 44 ∧ ρ 44 ≤ 1999 := r44
  have r45 : ((-1) : Int) ≤ ρ 45 ∧ ρ 45 ≤ 3 := r45
  have r46 : (0 : Int) ≤ ρ 46 ∧ ρ 46 ≤ 0 := r46
  have r47 : (46 : Int) ≤ ρ 47 ∧ ρ 47 ≤ 46 := r47
  have r48 : (0 : Int) ≤ ρ 48 ∧ ρ 48 ≤ 2000 := r48
  have r49 : (0 : Int) ≤ ρ 49 ∧ ρ 49 ≤ 4 := r49
  have r50 : ((-2147483648) : Int) ≤ ρ 50 ∧ ρ 50 ≤ 2147483647 := r50
  obtain ⟨f0, f1, f2, f3, f4, f5, f6, f7, f8, f9, f10, f11, f12, f13, f14, f15, f16, f17, f18, f19, f20, f21, f22, f23, f24, f25, f26, -⟩ := hf
  have f0 : (0 : Int) ≤ ρ 48 + -ρ 34 := f0
  have f1 : (0 : Int) ≤ -ρ 48 + ρ 4 + (-1) := f1
  have f2 : (0 : Int) ≤ -ρ 34 + ρ 4 + (-1) := f2
  have f3 : (0 : Int) ≤ -ρ 43 + ρ 34 + (-1) := f3
  have f4 : (0 : Int) ≤ -ρ 44 + ρ 34 + (-1) := f4
  have f5 : (0 : Int) ≤ -ρ 45 + ρ 34 + (-1) := f5
  have f6 : (0 : Int) ≤ ρ 34 + -ρ 19 + (-1) := f6
  have f7 : (0 : Int) ≤ ρ 37 + -ρ 36 + (-1) := f7
  have f8 : (0 : Int) ≤ ρ 37 + -ρ 21 := f8
  have f9 : (0 : Int) ≤ ρ 40 + -ρ 24 := f9
  have f10 : (0 : Int) ≤ ρ 41 + -ρ 25 := f10
  have f11 : (0 : Int) ≤ ρ 42 + -ρ 26 := f11
  have f12 : (0 : Int) ≤ ρ 44 + -ρ 19 := f12
  have f13 : (0 : Int) ≤ -ρ 34 + ρ 4 := f13
  have f14 : (0 : Int) ≤ -ρ 35 + ρ 4 + (-1) := f14
  have f15 : (0 : Int) ≤ -ρ 19 + ρ 4 + (-1) := f15
  have f16 : (0 : Int) ≤ -ρ 5 + ρ 4 + (-1) := f16
  have f17 : (0 : Int) ≤ -ρ 32 + ρ 4 := f17
  have f18 : (0 : Int) ≤ -ρ 36 + ρ 21 := f18
  have f19 : (0 : Int) ≤ -ρ 18 + ρ 4 := f19
  have f20 : (0 : Int) ≤ ρ 26 + -ρ 16 := f20
  have f21 : (0 : Int) ≤ ρ 25 + -ρ 15 := f21
  have f22 : (0 : Int) ≤ ρ 24 + -ρ 14 := f22
  have f23 : (0 : Int) ≤ ρ 21 + -ρ 10 := f23
  have f24 : (0 : Int) ≤ ρ 19 + -ρ 3 := f24
  have f25 : (0 : Int) ≤ ρ 19 + -ρ 18 := f25
  have f26 : (0 : Int) ≤ -ρ 20 + ρ 18 := f26
  obtain ⟨m0, m1, m2, m3, m4, m5, m6, m7, m8, m9, m10, m11, m12, m13, m14, m15, m16, m17, m18, m19, m20, m21, m22, m23, m24, m25, m26, m27, m28, m29, m30, m31, m32, m33, m34, m35, m36, m37, m38, m39, m40, m41, m42, m43, m44, m45, m46, m47, m48, m49, m50, m51, m52, m53, m54, m55, m56, m57, -⟩ := hm
  have m0 : γ 0 1 0 10 = ρ 0 := m0
  have m1 : γ 0 40 0 (ρ 0) = ρ 1 := m1
  have m2 : γ 0 9 (ρ 1) 2 = ρ 2 := m2
  have m3 : γ 0 2 0 6 = ρ 3 := m3
  have m4 : γ 0 2 0 3 = ρ 4 := m4
  have m5 : γ 0 2 0 7 = ρ 5 := m5
  have m6 : γ 0 10 (9 * ρ 1) 8 = ρ 6 := m6
  have m7 : γ 0 10 (9 * ρ 1) 12 = ρ 7 := m7
  have m8 : γ 0 10 (9 * ρ 1) 14 = ρ 8 := m8
  have m9 : γ 0 9 (ρ 1) 3 = ρ 9 := m9
  have m10 : γ 0 1 0 7 = ρ 10 := m10
  have m11 : γ 0 2 0 4 = ρ 11 := m11
  have m12 : γ 0 2 0 5 = ρ 12 := m12
  have m13 : γ 0 2 0 9 = ρ 13 := m13
  have m14 : γ 0 2 0 13 = ρ 14 := m14
  have m15 : γ 0 2 0 16 = ρ 15 := m15
  have m16 : γ 0 3 0 1 = ρ 16 := m16
  have m17 : γ 0 10 (9 * ρ 1) 15 = ρ 17 := m17
  have m18 : γ 1 9 (ρ 1) 2 = ρ 18 := m18
  have m19 : γ 1 2 0 6 = ρ 19 := m19
  have m20 : γ 1 10 (9 * ρ 1) 8 = ρ 6 := m20
  have m21 : γ 1 10 (9 * ρ 1) 12 = ρ 7 := m21
  have m22 : γ 1 9 (ρ 1) 3 = ρ 20 := m22
  have m23 : γ 1 1 0 7 = ρ 21 := m23
  have m24 : γ 1 2 0 4 = ρ 11 := m24
  have m25 : γ 1 2 0 5 = ρ 22 := m25
  have m26 : γ 1 2 0 9 = ρ 23 := m26
  have m27 : γ 1 2 0 13 = ρ 24 := m27
  have m28 : γ 1 2 0 16 = ρ 25 := m28
  have m29 : γ 1 3 0 1 = ρ 26 := m29
  have m30 : γ 1 10 (ρ 18 + 9 * ρ 1 + 1) 4 = ρ 27 := m30
  have m31 : γ 1 10 (ρ 18 + 9 * ρ 1 + 1) 11 = ρ 28 := m31
  have m32 : γ 1 10 (ρ 18 + 9 * ρ 1 + 1) 8 = ρ 29 := m32
  have m33 : γ 1 10 (ρ 18 + 9 * ρ 1 + 1) 5 = ρ 30 := m33
  have m34 : γ 1 10 (ρ 18 + 9 * ρ 1 + 1) 7 = ρ 31 := m34
  have m35 : γ 1 10 (ρ 18 + 9 * ρ 1 + 1) 9 = ρ 32 := m35
  have m36 : γ 1 10 (ρ 18 + 9 * ρ 1 + 1) 12 = ρ 33 := m36
  have m37 : γ 3 2 0 6 = ρ 34 := m37
  have m38 : γ 3 10 (ρ 18 + 9 * ρ 1 + 1) 4 = ρ 35 := m38
  have m39 : γ 3 10 (ρ 18 + 9 * ρ 1 + 1) 11 = ρ 28 := m39
  have m40 : γ 3 10 (ρ 18 + 9 * ρ 1 + 1) 8 = ρ 36 := m40
  have m41 : γ 3 10 (9 * ρ 1) 8 = ρ 6 := m41
  have m42 : γ 3 10 (9 * ρ 1) 12 = ρ 7 := m42
  have m43 : γ 3 1 0 7 = ρ 37 := m43
  have m44 : γ 3 2 0 4 = ρ 11 := m44
  have m45 : γ 3 2 0 5 = ρ 38 := m45
  have m46 : γ 3 2 0 9 = ρ 39 := m46
  have m47 : γ 3 2 0 13 = ρ 40 := m47
  have m48 : γ 3 2 0 16 = ρ 41 := m48
  have m49 : γ 3 3 0 1 = ρ 42 := m49
  have m50 : γ 3 10 (ρ 18 + 9 * ρ 1 + 1) 5 = ρ 43 := m50
  have m51 : γ 3 10 (ρ 18 + 9 * ρ 1 + 1) 7 = ρ 44 := m51
  have m52 : γ 3 10 (ρ 18 + 9 * ρ 1 + 1) 9 = ρ 45 := m52
  have m53 : γ 3 10 (ρ 18 + 9 * ρ 1 + 1) 12 = ρ 46 := m53
  have m54 : γ 7 2 0 6 = ρ 48 := m54
  have m55 : γ 3 10 (9 * ρ 1) 5 = ρ 49 := m55
  have m56 : γ 9 2 0 4 = ρ 11 := m56
  have m57 : γ 10 2 0 4 = ρ 50 := m57
  obtain ⟨⟨⟨⟨⟨⟨⟨⟨⟨⟨-, c1⟩, c2⟩, c3⟩, c4⟩, c5⟩, c6⟩, c7⟩, c8⟩, c9⟩, c10⟩ := hc
  have c1 : ∀ (G : Nat) (k j : Int), ¬ rMdP m107_ G j → γ 1 G k j = γ 0 G k j := c1
  have c2 : ∀ (G : Nat) (k j : Int), ¬ rMdP m0_ G j → γ 2 G k j = γ 1 G k j := c2
  have c3 : ∀ (G : Nat) (k j : Int), ¬ rMdP m106_ G j → γ 3 G k j = γ 2 G k j := c3
  have c4 : γ 4 = rUp (γ 3) 9 (ρ 1) 2 (ρ 18 + 1) := c4
  have c5 : γ 5 = rUp (γ 4) 10 (ρ 18 + 9 * ρ 1 + 1) 10 (ρ 20) := c5
  have c6 : γ 6 = rUp (γ 5) 9 (ρ 1) 3 (ρ 20 + 1) := c6
  have c7 : ∀ (G : Nat) (k j : Int), ¬ rMdP m77_ G j → γ 7 G k j = γ 6 G k j := c7
  have c8 : γ 8 = rUp (γ 7) 2 0 6 (ρ 48 + 1) := c8
  have c9 : ∀ (G : Nat) (k j : Int), ¬ rMdP m72_ G j → γ 9 G k j = γ 8 G k j := c9
  have c10 : ∀ (G : Nat) (k j : Int), ¬ rMdP m72_ G j → γ 10 G k j = γ 9 G k j := c10
  obtain ⟨l0, l1, l2, l3, l4, -⟩ := hl
  have l0 : sn132 [ρ 1, ρ 18] (γ 1) 0 (ρ 18 + 9 * ρ 1 + 1) (γ 2) := hS132 _ _ _ _ _ l0
  have l1 : sn157 [ρ 0, ρ 1, ρ 18, ρ 19, ρ 4, ρ 27, ρ 28, ρ 29, ρ 5, ρ 6, ρ 7, ρ 21, ρ 11, ρ 22, ρ 23, ρ 24, ρ 25, ρ 26, ρ 30, ρ 31, ρ 32, ρ 33] (γ 2) 0 1 (γ 3) := hS157 _ _ _ _ _ l1
  have l2 : sn114 [ρ 34, ρ 4] (γ 6) 0 (ρ 47) (γ 7) := hS114 _ _ _ _ _ l2
  have l3 : sn153 [9 * ρ 1, ρ 11, ρ 38, ρ 49, ρ 7, ρ 8, ρ 17] (γ 8) 0 1 (γ 9) := hS153 _ _ _ _ _ l3
  have l4 : sn152 [ρ 11, ρ 41] (γ 9) 0 0 (γ 10) := hS152 _ _ _ _ _ l4
  show sn158 [ρ 0, ρ 1, ρ 2, ρ 3, ρ 4, ρ 5, ρ 6, ρ 7, ρ 8, ρ 9, ρ 10, ρ 11, ρ 12, ρ 13, ρ 14, ρ 15, ρ 16, ρ 17] (γ 0) 0 0 (γ 10)
  have hD : en158 (γ 0) (0, [], γ 1) = .inr (0, 0, γ 10) := by
    unfold en158
    refine (if_pos (show (0 : Nat) = 0 by decide)).trans ?_
    refine (zLet_eq (show _ = γ 1 from rfl)).trans ?_
    refine (zLet_eq m0).trans ?_
    refine (zLet_eq m1).trans ?_
    refine (zLet_eq m18).trans ?_
    refine (zLet_eq m22).trans ?_
    refine (if_neg (show ¬ (ρ 18 ≥ 8) by omega)).trans ?_
    refine (zLet_eq (show fn132 [ρ 1, ρ 18] (γ 1) = (0, ρ 18 + 9 * ρ 1 + 1, γ 2) from l0.symm)).trans ?_
    refine (zLet_eq (show _ = γ 2 from rfl)).trans ?_
    refine (zLet_eq (show fn157 [] (γ 2) = (0, 1, γ 3) from l1.symm)).trans ?_
    refine (zLet_eq (show _ = γ 3 from rfl)).trans ?_
    refine (if_pos (show (1 : Int) ≤ 1 by omega)).trans ?_
    refine (if_neg (show ¬ (3 ≤ γ 3 10 (ρ 18 + 9 * ρ 1 + 1) 4) by omega)).trans ?_
    refine (zLet_eq m38).trans ?_
    refine (zLet_eq c4.symm).trans ?_
    refine (if_neg (show ¬ (ρ 35 ≠ 1) by omega)).trans ?_
    refine (zLet_eq c5.symm).trans ?_
    refine (zLet_eq c6.symm).trans ?_
    refine (zLet_eq (show fn114 [] (γ 6) = (0, ρ 47, γ 7) from l2.symm)).trans ?_
    refine (zLet_eq (show _ = γ 7 from rfl)).trans ?_
    refine (if_pos (show (0 : Int) ≤ ρ 47 by omega)).trans ?_
    refine (zLet_eq (show _ = ρ 47 from rfl)).trans ?_
    refine (zLet_eq m54).trans ?_
    refine (if_neg (show ¬ (ρ 47 ≠ 46) by omega)).trans ?_
    refine (zLet_eq c8.symm).trans ?_
    refine (zLet_eq (show fn153 [9 * ρ 1] (γ 8) = (0, 1, γ 9) from l3.symm)).trans ?_
    refine (zLet_eq (show _ = γ 9 from rfl)).trans ?_
    refine (if_pos (show (1 : Int) ≤ 1 by omega)).trans ?_
    refine (zLet_eq (show fn152 [] (γ 9) = (0, 0, γ 10) from l4.symm)).trans ?_
    refine (zLet_eq (show _ = γ 10 from rfl)).trans ?_
    refine (if_neg (show ¬ ((1 : Int) ≤ 0) by omega)).trans ?_
    rfl
  exact zGoo_aend hJ hD
theorem vn158a0_26 {S : Nat → zSpc} (hS109 : ∀ x g o v gz, S 109 x g o v gz → sn109 x g o v gz) (hS114 : ∀ x g o v gz, S 114 x g o v gz → sn114 x g o v gz) (hS132 : ∀ x g o v gz, S 132 x g o v gz → sn132 x g o v gz) (hS152 : ∀ x g o v gz, S 152 x g o v gz → sn152 x g o v gz) (hS153 : ∀ x g o v gz, S 153 x g o v gz → sn153 x g o v gz) (hS157 : ∀ x g o v gz, S 157 x g o v gz → sn157 x g o v gz) {a : List Int} {g : rHp} : ∀ (ρ : Nat → Int) (γ : Nat → rHp), jn158 a g 0 (zAg (zNA a158_ 0) ρ) (γ 1) → zO 18 S a g q158a0_26 ρ γ → zGl (fun i vs g1 => jn158 a g i vs g1) (sn158 a g) q158a0_26 ρ γ := by
  intro ρ γ hJ h
  obtain ⟨ha, hg, hr, hf, hm, hc, hl⟩ := h
  have ha : a = [ρ 0, ρ 1, ρ 2, ρ 3, ρ 4, ρ 5, ρ 6, ρ 7, ρ 8, ρ 9, ρ 10, ρ 11, ρ 12, ρ 13, ρ 14, ρ 15, ρ 16, ρ 17] := ha
  subst ha
  subst hg
  have hJ : jn158 [ρ 0, ρ 1, ρ 2, ρ 3, ρ 4, ρ 5, ρ 6, ρ 7, ρ 8, ρ 9, ρ 10, ρ 11, ρ 12, ρ 13, ρ 14, ρ 15, ρ 16, ρ 17] (γ 0) 0 [ρ 0, ρ 1, ρ 2, ρ 3, ρ 4, ρ 5, ρ 6, ρ 7, ρ 8, ρ 9, ρ 10, ρ 11, ρ 12, ρ 13, ρ 14, ρ 15, ρ 16, ρ 17, ρ 18, ρ 19, ρ 20, ρ 21, ρ 22, ρ 23, ρ 24, ρ 25, ρ 26] (γ 1) := hJ
  obtain ⟨r0, r1, r2, r3, r4, r5, r6, r7, r8, r9, r10, r11, r12, r13, r14, r15, r16, r17, r18, r19, r20, r21, r22, r23, r24, r25, r26, r27, r28, r29, r30, r31, r32, r33, r34, r35, r36, r37, r38, r39, r40, r41, r42, r43, r44, r45, r46, r47, r48, r49, -⟩ := hr
  have r0 : (0 : Int) ≤ ρ 0 ∧ ρ 0 ≤ 60 := r0
  have r1 : (0 : Int) ≤ ρ 1 ∧ ρ 1 ≤ 60 := r1
  have r2 : (0 : Int) ≤ ρ 2 ∧ ρ 2 ≤ 8 := r2
  have r3 : (0 : Int) ≤ ρ 3 ∧ ρ 3 ≤ 2000 := r3
  have r4 : (2 : Int) ≤ ρ 4 ∧ ρ 4 ≤ 2000 := r4
  have r5 : (0 : Int) ≤ ρ 5 ∧ ρ 5 ≤ 0 := r5
  have r6 : ((-1) : Int) ≤ ρ 6 ∧ ρ 6 ≤ 19 := r6
  have r7 : (0 : Int) ≤ ρ 7 ∧ ρ 7 ≤ 4 := r7
  have r8 : ((-1) : Int) ≤ ρ 8 ∧ ρ 8 ≤ 7 := r8
  have r9 : (0 : Int) ≤ ρ 9 ∧ ρ 9 ≤ 8 := r9
  have r10 : (0 : Int) ≤ ρ 10 ∧ ρ 10 ≤ 20 := r10
  have r11 : ((-2147483648) : Int) ≤ ρ 11 ∧ ρ 11 ≤ 2147483647 := r11
  have r12 : ((-2147483648) : Int) ≤ ρ 12 ∧ ρ 12 ≤ 2147483647 := r12
  have r13 : ((-2147483648) : Int) ≤ ρ 13 ∧ ρ 13 ≤ 2147483647 := r13
  have r14 : (0 : Int) ≤ ρ 14 ∧ ρ 14 ≤ 8 := r14
  have r15 : (0 : Int) ≤ ρ 15 ∧ ρ 15 ≤ 32 := r15
  have r16 : (0 : Int) ≤ ρ 16 ∧ ρ 16 ≤ 5120 := r16
  have r17 : ((-2147483648) : Int) ≤ ρ 17 ∧ ρ 17 ≤ 2147483647 := r17
  have r18 : (0 : Int) ≤ ρ 18 ∧ ρ 18 ≤ 7 := r18
  have r19 : (0 : Int) ≤ ρ 19 ∧ ρ 19 ≤ 2000 := r19
  have r20 : (0 : Int) ≤ ρ 20 ∧ ρ 20 ≤ 8 := r20
  have r21 : (0 : Int) ≤ ρ 21 ∧ ρ 21 ≤ 20 := r21
  have r22 : ((-2147483648) : Int) ≤ ρ 22 ∧ ρ 22 ≤ 2147483647 := r22
  have r23 : ((-2147483648) : Int) ≤ ρ 23 ∧ ρ 23 ≤ 2147483647 := r23
  have r24 : (0 : Int) ≤ ρ 24 ∧ ρ 24 ≤ 8 := r24
  have r25 : (0 : Int) ≤ ρ 25 ∧ ρ 25 ≤ 32 := r25
  have r26 : (0 : Int) ≤ ρ 26 ∧ ρ 26 ≤ 5120 := r26
  have r27 : (0 : Int) ≤ ρ 27 ∧ ρ 27 ≤ 8 := r27
  have r28 : ((-1) : Int) ≤ ρ 28 ∧ ρ 28 ≤ 7 := r28
  have r29 : ((-1) : Int) ≤ ρ 29 ∧ ρ 29 ≤ 19 := r29
  have r30 : (0 : Int) ≤ ρ 30 ∧ ρ 30 ≤ 4 := r30
  have r31 : ((-2147483648) : Int) ≤ ρ 31 ∧ ρ 31 ≤ 2147483647 := r31
  have r32 : ((-1) : Int) ≤ ρ 32 ∧ ρ 32 ≤ 3 := r32
  have r33 : (0 : Int) ≤ ρ 33 ∧ ρ 33 ≤ 4 := r33
  have r34 : (3 : Int) ≤ ρ 34 ∧ ρ 34 ≤ 2000 := r34
  have r35 : (1 : Int) ≤ ρ 35 ∧ ρ 35 ≤ 1 := r35
  have r36 : (0 : Int) ≤ ρ 36 ∧ ρ 36 ≤ 19 := r36
  have r37 : (1 : Int) ≤ ρ 37 ∧ ρ 37 ≤ 20 := r37
  have r38 : ((-2147483648) : Int) ≤ ρ 38 ∧ ρ 38 ≤ 2147483647 := r38
  have r39 : ((-2147483648) : Int) ≤ ρ 39 ∧ ρ 39 ≤ 2147483647 := r39
  have r40 : (0 : Int) ≤ ρ 40 ∧ ρ 40 ≤ 8 := r40
  have r41 : (0 : Int) ≤ ρ 41 ∧ ρ 41 ≤ 32 := r41
  have r42 : (0 : Int) ≤ ρ 42 ∧ ρ 42 ≤ 5120 := r42
  have r43 : (1 : Int) ≤ ρ 43 ∧ ρ 43 ≤ 4 := r43
  have r44 : (0 : Int) ≤ ρ 44 ∧ ρ 44 ≤ 1999 := r44
  have r45 : ((-1) : Int) ≤ ρ 45 ∧ ρ 45 ≤ 3 := r45
  have r46 : (0 : Int) ≤ ρ 46 ∧ ρ 46 ≤ 0 := r46
  have r47 : (46 : Int) ≤ ρ 47 ∧ ρ 47 ≤ 46 := r47
  have r48 : (0 : Int) ≤ ρ 48 ∧ ρ 48 ≤ 2000 := r48
  have r49 : (0 : Int) ≤ ρ 49 ∧ ρ 49 ≤ 4 := r49
  obtain ⟨f0, f1, f2, f3, f4, f5, f6, f7, f8, f9, f10, f11, f12, f13, f14, f15, f16, f17, f18, f19, f20, f21, f22, f23, f24, f25, f26, -⟩ := hf
  have f0 : (0 : Int) ≤ ρ 48 + -ρ 34 := f0
  have f1 : (0 : Int) ≤ -ρ 48 + ρ 4 + (-1) := f1
  have f2 : (0 : Int) ≤ -ρ 34 + ρ 4 + (-1) := f2
  have f3 : (0 : Int) ≤ -ρ 43 + ρ 34 + (-1) := f3
  have f4 : (0 : Int) ≤ -ρ 44 + ρ 34 + (-1) := f4
  have f5 : (0 : Int) ≤ -ρ 45 + ρ 34 + (-1) := f5
  have f6 : (0 : Int) ≤ ρ 34 + -ρ 19 + (-1) := f6
  have f7 : (0 : Int) ≤ ρ 37 + -ρ 36 + (-1) := f7
  have f8 : (0 : Int) ≤ ρ 37 + -ρ 21 := f8
  have f9 : (0 : Int) ≤ ρ 40 + -ρ 24 := f9
  have f10 : (0 : Int) ≤ ρ 41 + -ρ 25 := f10
  have f11 : (0 : Int) ≤ ρ 42 + -ρ 26 := f11
  have f12 : (0 : Int) ≤ ρ 44 + -ρ 19 := f12
  have f13 : (0 : Int) ≤ -ρ 34 + ρ 4 := f13
  have f14 : (0 : Int) ≤ -ρ 35 + ρ 4 + (-1) := f14
  have f15 : (0 : Int) ≤ -ρ 19 + ρ 4 + (-1) := f15
  have f16 : (0 : Int) ≤ -ρ 5 + ρ 4 + (-1) := f16
  have f17 : (0 : Int) ≤ -ρ 32 + ρ 4 := f17
  have f18 : (0 : Int) ≤ -ρ 36 + ρ 21 := f18
  have f19 : (0 : Int) ≤ -ρ 18 + ρ 4 := f19
  have f20 : (0 : Int) ≤ ρ 26 + -ρ 16 := f20
  have f21 : (0 : Int) ≤ ρ 25 + -ρ 15 := f21
  have f22 : (0 : Int) ≤ ρ 24 + -ρ 14 := f22
  have f23 : (0 : Int) ≤ ρ 21 + -ρ 10 := f23
  have f24 : (0 : Int) ≤ ρ 19 + -ρ 3 := f24
  have f25 : (0 : Int) ≤ ρ 19 + -ρ 18 := f25
  have f26 : (0 : Int) ≤ -ρ 20 + ρ 18 := f26
  obtain ⟨m0, m1, m2, m3, m4, m5, m6, m7, m8, m9, m10, m11, m12, m13, m14, m15, m16, m17, m18, m19, m20, m21, m22, m23, m24, m25, m26, m27, m28, m29, m30, m31, m32, m33, m34, m35, m36, m37, m38, m39, m40, m41, m42, m43, m44, m45, m46, m47, m48, m49, m50, m51, m52, m53, m54, m55, m56, m57, -⟩ := hm
  have m0 : γ 0 1 0 10 = ρ 0 := m0
  have m1 : γ 0 40 0 (ρ 0) = ρ 1 := m1
  have m2 : γ 0 9 (ρ 1) 2 = ρ 2 := m2
  have m3 : γ 0 2 0 6 = ρ 3 := m3
  have m4 : γ 0 2 0 3 = ρ 4 := m4
  have m5 : γ 0 2 0 7 = ρ 5 := m5
  have m6 : γ 0 10 (9 * ρ 1) 8 = ρ 6 := m6
  have m7 : γ 0 10 (9 * ρ 1) 12 = ρ 7 := m7
  have m8 : γ 0 10 (9 * ρ 1) 14 = ρ 8 := m8
  have m9 : γ 0 9 (ρ 1) 3 = ρ 9 := m9
  have m10 : γ 0 1 0 7 = ρ 10 := m10
  have m11 : γ 0 2 0 4 = ρ 11 := m11
  have m12 : γ 0 2 0 5 = ρ 12 := m12
  have m13 : γ 0 2 0 9 = ρ 13 := m13
  have m14 : γ 0 2 0 13 = ρ 14 := m14
  have m15 : γ 0 2 0 16 = ρ 15 := m15
  have m16 : γ 0 3 0 1 = ρ 16 := m16
  have m17 : γ 0 10 (9 * ρ 1) 15 = ρ 17 := m17
  have m18 : γ 1 9 (ρ 1) 2 = ρ 18 := m18
  have m19 : γ 1 2 0 6 = ρ 19 := m19
  have m20 : γ 1 10 (9 * ρ 1) 8 = ρ 6 := m20
  have m21 : γ 1 10 (9 * ρ 1) 12 = ρ 7 := m21
  have m22 : γ 1 9 (ρ 1) 3 = ρ 20 := m22
  have m23 : γ 1 1 0 7 = ρ 21 := m23
  have m24 : γ 1 2 0 4 = ρ 11 := m24
  have m25 : γ 1 2 0 5 = ρ 22 := m25
  have m26 : γ 1 2 0 9 = ρ 23 := m26
  have m27 : γ 1 2 0 13 = ρ 24 := m27
  have m28 : γ 1 2 0 16 = ρ 25 := m28
  have m29 : γ 1 3 0 1 = ρ 26 := m29
  have m30 : γ 1 10 (ρ 18 + 9 * ρ 1 + 1) 4 = ρ 27 := m30
  have m31 : γ 1 10 (ρ 18 + 9 * ρ 1 + 1) 11 = ρ 28 := m31
  have m32 : γ 1 10 (ρ 18 + 9 * ρ 1 + 1) 8 = ρ 29 := m32
  have m33 : γ 1 10 (ρ 18 + 9 * ρ 1 + 1) 5 = ρ 30 := m33
  have m34 : γ 1 10 (ρ 18 + 9 * ρ 1 + 1) 7 = ρ 31 := m34
  have m35 : γ 1 10 (ρ 18 + 9 * ρ 1 + 1) 9 = ρ 32 := m35
  have m36 : γ 1 10 (ρ 18 + 9 * ρ 1 + 1) 12 = ρ 33 := m36
  have m37 : γ 3 2 0 6 = ρ 34 := m37
  have m38 : γ 3 10 (ρ 18 + 9 * ρ 1 + 1) 4 = ρ 35 := m38
  have m39 : γ 3 10 (ρ 18 + 9 * ρ 1 + 1) 11 = ρ 28 := m39
  have m40 : γ 3 10 (ρ 18 + 9 * ρ 1 + 1) 8 = ρ 36 := m40
  have m41 : γ 3 10 (9 * ρ 1) 8 = ρ 6 := m41
  have m42 : γ 3 10 (9 * ρ 1) 12 = ρ 7 := m42
  have m43 : γ 3 1 0 7 = ρ 37 := m43
  have m44 : γ 3 2 0 4 = ρ 11 := m44
  have m45 : γ 3 2 0 5 = ρ 38 := m45
  have m46 : γ 3 2 0 9 = ρ 39 := m46
  have m47 : γ 3 2 0 13 = ρ 40 := m47
  have m48 : γ 3 2 0 16 = ρ 41 := m48
  have m49 : γ 3 3 0 1 = ρ 42 := m49
  have m50 : γ 3 10 (ρ 18 + 9 * ρ 1 + 1) 5 = ρ 43 := m50
  have m51 : γ 3 10 (ρ 18 + 9 * ρ 1 + 1) 7 = ρ 44 := m51
  have m52 : γ 3 10 (ρ 18 + 9 * ρ 1 + 1) 9 = ρ 45 := m52
  have m53 : γ 3 10 (ρ 18 + 9 * ρ 1 + 1) 12 = ρ 46 := m53
  have m54 : γ 7 2 0 6 = ρ 48 := m54
  have m55 : γ 3 10 (9 * ρ 1) 5 = ρ 49 := m55
  have m56 : γ 9 2 0 4 = ρ 11 := m56
  have m57 : γ 10 2 0 4 = ρ 11 := m57
  obtain ⟨⟨⟨⟨⟨⟨⟨⟨⟨⟨-, c1⟩, c2⟩, c3⟩, c4⟩, c5⟩, c6⟩, c7⟩, c8⟩, c9⟩, c10⟩ := hc
  have c1 : ∀ (G : Nat) (k j : Int), ¬ rMdP m107_ G j → γ 1 G k j = γ 0 G k j := c1
  have c2 : ∀ (G : Nat) (k j : Int), ¬ rMdP m0_ G j → γ 2 G k j = γ 1 G k j := c2
  have c3 : ∀ (G : Nat) (k j : Int), ¬ rMdP m106_ G j → γ 3 G k j = γ 2 G k j := c3
  have c4 : γ 4 = rUp (γ 3) 9 (ρ 1) 2 (ρ 18 + 1) := c4
  have c5 : γ 5 = rUp (γ 4) 10 (ρ 18 + 9 * ρ 1 + 1) 10 (ρ 20) := c5
  have c6 : γ 6 = rUp (γ 5) 9 (ρ 1) 3 (ρ 20 + 1) := c6
  have c7 : ∀ (G : Nat) (k j : Int), ¬ rMdP m77_ G j → γ 7 G k j = γ 6 G k j := c7
  have c8 : γ 8 = rUp (γ 7) 2 0 6 (ρ 48 + 1) := c8
  have c9 : ∀ (G : Nat) (k j : Int), ¬ rMdP m72_ G j → γ 9 G k j = γ 8 G k j := c9
  have c10 : ∀ (G : Nat) (k j : Int), ¬ rMdP m72_ G j → γ 10 G k j = γ 9 G k j := c10
  obtain ⟨l0, l1, l2, l3, l4, -⟩ := hl
  have l0 : sn132 [ρ 1, ρ 18] (γ 1) 0 (ρ 18 + 9 * ρ 1 + 1) (γ 2) := hS132 _ _ _ _ _ l0
  have l1 : sn157 [ρ 0, ρ 1, ρ 18, ρ 19, ρ 4, ρ 27, ρ 28, ρ 29, ρ 5, ρ 6, ρ 7, ρ 21, ρ 11, ρ 22, ρ 23, ρ 24, ρ 25, ρ 26, ρ 30, ρ 31, ρ 32, ρ 33] (γ 2) 0 1 (γ 3) := hS157 _ _ _ _ _ l1
  have l2 : sn114 [ρ 34, ρ 4] (γ 6) 0 (ρ 47) (γ 7) := hS114 _ _ _ _ _ l2
  have l3 : sn153 [9 * ρ 1, ρ 11, ρ 38, ρ 49, ρ 7, ρ 8, ρ 17] (γ 8) 0 1 (γ 9) := hS153 _ _ _ _ _ l3
  have l4 : sn152 [ρ 11, ρ 41] (γ 9) 0 1 (γ 10) := hS152 _ _ _ _ _ l4
  show sn158 [ρ 0, ρ 1, ρ 2, ρ 3, ρ 4, ρ 5, ρ 6, ρ 7, ρ 8, ρ 9, ρ 10, ρ 11, ρ 12, ρ 13, ρ 14, ρ 15, ρ 16, ρ 17] (γ 0) 0 1 (γ 10)
  have hD : en158 (γ 0) (0, [], γ 1) = .inr (0, 1, γ 10) := by
    unfold en158
    refine (if_pos (show (0 : Nat) = 0 by decide)).trans ?_
    refine (zLet_eq (show _ = γ 1 from rfl)).trans ?_
    refine (zLet_eq m0).trans ?_
    refine (zLet_eq m1).trans ?_
    refine (zLet_eq m18).trans ?_
    refine (zLet_eq m22).trans ?_
    refine (if_neg (show ¬ (ρ 18 ≥ 8) by omega)).trans ?_
    refine (zLet_eq (show fn132 [ρ 1, ρ 18] (γ 1) = (0, ρ 18 + 9 * ρ 1 + 1, γ 2) from l0.symm)).trans ?_
    refine (zLet_eq (show _ = γ 2 from rfl)).trans ?_
    refine (zLet_eq (show fn157 [] (γ 2) = (0, 1, γ 3) from l1.symm)).trans ?_
    refine (zLet_eq (show _ = γ 3 from rfl)).trans ?_
    refine (if_pos (show (1 : Int) ≤ 1 by omega)).trans ?_
    refine (if_neg (show ¬ (3 ≤ γ 3 10 (ρ 18 + 9 * ρ 1 + 1) 4) by omega)).trans ?_
    refine (zLet_eq m38).trans ?_
    refine (zLet_eq c4.symm).trans ?_
    refine (if_neg (show ¬ (ρ 35 ≠ 1) by omega)).trans ?_
    refine (zLet_eq c5.symm).trans ?_
    refine (zLet_eq c6.symm).trans ?_
    refine (zLet_eq (show fn114 [] (γ 6) = (0, ρ 47, γ 7) from l2.symm)).trans ?_
    refine (zLet_eq (show _ = γ 7 from rfl)).trans ?_
    refine (if_pos (show (0 : Int) ≤ ρ 47 by omega)).trans ?_
    refine (zLet_eq (show _ = ρ 47 from rfl)).trans ?_
    refine (zLet_eq m54).trans ?_
    refine (if_neg (show ¬ (ρ 47 ≠ 46) by omega)).trans ?_
    refine (zLet_eq c8.symm).trans ?_
    refine (zLet_eq (show fn153 [9 * ρ 1] (γ 8) = (0, 1, γ 9) from l3.symm)).trans ?_
    refine (zLet_eq (show _ = γ 9 from rfl)).trans ?_
    refine (if_pos (show (1 : Int) ≤ 1 by omega)).trans ?_
    refine (zLet_eq (show fn152 [] (γ 9) = (0, 1, γ 10) from l4.symm)).trans ?_
    refine (zLet_eq (show _ = γ 10 from rfl)).trans ?_
    refine (if_pos (show (1 : Int) ≤ 1 by omega)).trans ?_
    rfl
  exact zGoo_aend hJ hD
theorem yn158 {S : Nat → zSpc} (hS109 : ∀ x g o v gz, S 109 x g o v gz → sn109 x g o v gz) (hS114 : ∀ x g o v gz, S 114 x g o v gz → sn114 x g o v gz) (hS132 : ∀ x g o v gz, S 132 x g o v gz → sn132 x g o v gz) (hS152 : ∀ x g o v gz, S 152 x g o v gz → sn152 x g o v gz) (hS153 : ∀ x g o v gz, S 153 x g o v gz → sn153 x g o v gz) (hS157 : ∀ x g o v gz, S 157 x g o v gz → sn157 x g o v gz) : ∀ x g o v gz, zSem uW uT w158_.2.2.2.1 w158_.2.2.1.1.length S q158 (fun i => q158a.getD i []) (zNA a158_) x g o v gz → sn158 x g o v gz := by
  intro a g o v gz h
  exact zSem_all (l0 := q158) (las := q158a) (S := S) (J := (fun i vs g1 => jn158 a g i vs g1)) (P := sn158 a g) (fun _ => (show zAll _ [q158_0] from (zAll_c (vn158_0 hS109 hS114 hS132 hS152 hS153 hS157) zAll_n))) (fun _ => (show zAllI _ 0 [q158a0] from ⟨(show zAll _ [q158a0_0, q158a0_1, q158a0_2, q158a0_3, q158a0_4, q158a0_5, q158a0_6, q158a0_7, q158a0_8, q158a0_9, q158a0_10, q158a0_11, q158a0_12, q158a0_13, q158a0_14, q158a0_15, q158a0_16, q158a0_17, q158a0_18, q158a0_19, q158a0_20, q158a0_21, q158a0_22, q158a0_23, q158a0_24, q158a0_25, q158a0_26] from (zAll_c (vn158a0_0 hS109 hS114 hS132 hS152 hS153 hS157) (zAll_c (vn158a0_1 hS109 hS114 hS132 hS152 hS153 hS157) (zAll_c (vn158a0_2 hS109 hS114 hS132 hS152 hS153 hS157) (zAll_c (vn158a0_3 hS109 hS114 hS132 hS152 hS153 hS157) (zAll_c (vn158a0_4 hS109 hS114 hS132 hS152 hS153 hS157) (zAll_c (vn158a0_5 hS109 hS114 hS132 hS152 hS153 hS157) (zAll_c (vn158a0_6 hS109 hS114 hS132 hS152 hS153 hS157) (zAll_c (vn158a0_7 hS109 hS114 hS132 hS152 hS153 hS157) (zAll_c (vn158a0_8 hS109 hS114 hS132 hS152 hS153 hS157) (zAll_c (vn158a0_9 hS109 hS114 hS132 hS152 hS153 hS157) (zAll_c (vn158a0_10 hS109 hS114 hS132 hS152 hS153 hS157) (zAll_c (vn158a0_11 hS109 hS114 hS132 hS152 hS153 hS157) (zAll_c (vn158a0_12 hS109 hS114 hS132 hS152 hS153 hS157) (zAll_c (vn158a0_13 hS109 hS114 hS132 hS152 hS153 hS157) (zAll_c (vn158a0_14 hS109 hS114 hS132 hS152 hS153 hS157) (zAll_c (vn158a0_15 hS109 hS114 hS132 hS152 hS153 hS157) (zAll_c (vn158a0_16 hS109 hS114 hS132 hS152 hS153 hS157) (zAll_c (vn158a0_17 hS109 hS114 hS132 hS152 hS153 hS157) (zAll_c (vn158a0_18 hS109 hS114 hS132 hS152 hS153 hS157) (zAll_c (vn158a0_19 hS109 hS114 hS132 hS152 hS153 hS157) (zAll_c (vn158a0_20 hS109 hS114 hS132 hS152 hS153 hS157) (zAll_c (vn158a0_21 hS109 hS114 hS132 hS152 hS153 hS157) (zAll_c (vn158a0_22 hS109 hS114 hS132 hS152 hS153 hS157) (zAll_c (vn158a0_23 hS109 hS114 hS132 hS152 hS153 hS157) (zAll_c (vn158a0_24 hS109 hS114 hS132 hS152 hS153 hS157) (zAll_c (vn158a0_25 hS109 hS114 hS132 hS152 hS153 hS157) (zAll_c (vn158a0_26 hS109 hS114 hS132 hS152 hS153 hS157) zAll_n)))))))))))))))))))))))))))), trivial⟩)) h
