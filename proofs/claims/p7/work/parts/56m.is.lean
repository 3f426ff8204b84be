/-! ===== the runs are the functions ===== -/
theorem vn144_0 {S : Nat → zSpc} (hS102 : ∀ x g o v gz, S 102 x g o v gz → sn102 x g o v gz) (hS109 : ∀ x g o v gz, S 109 x g o v gz → sn109 x g o v gz) (hS114 : ∀ x g o v gz, S 114 x g o v gz → sn114 x g o v gz) (hS133 : ∀ x g o v gz, S 133 x g o v gz → sn133 x g o v gz) (hS141 : ∀ x g o v gz, S 141 x g o v gz → sn141 x g o v gz) (hS143 : ∀ x g o v gz, S 143 x g o v gz → sn143 x g o v gz) {a : List Int} {g : rHp} : ∀ (ρ : Nat → Int) (γ : Nat → rHp), zO 22 S a g q144_0 ρ γ → zGl (fun i vs g1 => jn144 a g i vs g1) (sn144 a g) q144_0 ρ γ := by
  intro ρ γ h
  obtain ⟨ha, hg, hr, hf, hm, hc, hl⟩ := h
  have ha : a = [ρ 0, ρ 1, ρ 2, ρ 3, ρ 4, ρ 5, ρ 6, ρ 7, ρ 8, ρ 9, ρ 10, ρ 11, ρ 12, ρ 13, ρ 14, ρ 15, ρ 16, ρ 17, ρ 18, ρ 19, ρ 20, ρ 21] := ha
  subst ha
  subst hg
  obtain ⟨r0, r1, r2, r3, r4, r5, r6, r7, r8, r9, r10, r11, r12, r13, r14, r15, r16, r17, r18, r19, r20, r21, r22, r23, -⟩ := hr
  have r0 : (0 : Int) ≤ ρ 0 ∧ ρ 0 ≤ 60 := r0
  have r1 : (0 : Int) ≤ ρ 1 ∧ ρ 1 ≤ 60 := r1
  have r2 : (0 : Int) ≤ ρ 2 ∧ ρ 2 ≤ 8 := r2
  have r3 : (0 : Int) ≤ ρ 3 ∧ ρ 3 ≤ 2000 := r3
  have r4 : (0 : Int) ≤ ρ 4 ∧ ρ 4 ≤ 2000 := r4
  have r5 : (0 : Int) ≤ ρ 5 ∧ ρ 5 ≤ 4 := r5
  have r6 : (0 : Int) ≤ ρ 6 ∧ ρ 6 ≤ 4 := r6
  have r7 : ((-1) : Int) ≤ ρ 7 ∧ ρ 7 ≤ 7 := r7
  have r8 : (0 : Int) ≤ ρ 8 ∧ ρ 8 ≤ 8 := r8
  have r9 : (0 : Int) ≤ ρ 9 ∧ ρ 9 ≤ 2 := r9
  have r10 : ((-1) : Int) ≤ ρ 10 ∧ ρ 10 ≤ 19 := r10
  have r11 : (0 : Int) ≤ ρ 11 ∧ ρ 11 ≤ 20 := r11
  have r12 : ((-2147483648) : Int) ≤ ρ 12 ∧ ρ 12 ≤ 2147483647 := r12
  have r13 : ((-2147483648) : Int) ≤ ρ 13 ∧ ρ 13 ≤ 2147483647 := r13
  have r14 : ((-2147483648) : Int) ≤ ρ 14 ∧ ρ 14 ≤ 2147483647 := r14
  have r15 : (0 : Int) ≤ ρ 15 ∧ ρ 15 ≤ 8 := r15
  have r16 : (0 : Int) ≤ ρ 16 ∧ ρ 16 ≤ 32 := r16
  have r17 : (0 : Int) ≤ ρ 17 ∧ ρ 17 ≤ 5120 := r17
  have r18 : ((-2147483648) : Int) ≤ ρ 18 ∧ ρ 18 ≤ 2147483647 := r18
  have r19 : ((-1) : Int) ≤ ρ 19 ∧ ρ 19 ≤ 3 := r19
  have r20 : (0 : Int) ≤ ρ 20 ∧ ρ 20 ≤ 3 := r20
  have r21 : ((-2147483648) : Int) ≤ ρ 21 ∧ ρ 21 ≤ 2147483647 := r21
  have r22 : ((-9223372036854775808) : Int) ≤ ρ 22 ∧ ρ 22 ≤ 9223372036854775807 := r22
  have r23 : (0 : Int) ≤ ρ 23 ∧ ρ 23 ≤ 2000 := r23
  obtain ⟨f0, f1, -⟩ := hf
  have f0 : (0 : Int) ≤ ρ 23 + -ρ 3 := f0
  have f1 : (0 : Int) ≤ ρ 23 + -ρ 4 := f1
  obtain ⟨m0, m1, m2, m3, m4, m5, m6, m7, m8, m9, m10, m11, m12, m13, m14, m15, m16, m17, m18, m19, m20, m21, m22, m23, m24, m25, m26, m27, m28, m29, m30, -⟩ := hm
  have m0 : γ 0 1 0 10 = ρ 0 := m0
  have m1 : γ 0 40 0 (ρ 0) = ρ 1 := m1
  have m2 : γ 0 9 (ρ 1) 2 = ρ 2 := m2
  have m3 : γ 0 2 0 6 = ρ 3 := m3
  have m4 : γ 0 2 0 3 = ρ 4 := m4
  have m5 : γ 0 10 (9 * ρ 1) 5 = ρ 5 := m5
  have m6 : γ 0 10 (9 * ρ 1) 12 = ρ 6 := m6
  have m7 : γ 0 10 (9 * ρ 1) 14 = ρ 7 := m7
  have m8 : γ 0 10 (9 * ρ 1) 4 = ρ 8 := m8
  have m9 : γ 0 2 0 7 = ρ 9 := m9
  have m10 : γ 0 10 (9 * ρ 1) 8 = ρ 10 := m10
  have m11 : γ 0 1 0 7 = ρ 11 := m11
  have m12 : γ 0 2 0 4 = ρ 12 := m12
  have m13 : γ 0 2 0 5 = ρ 13 := m13
  have m14 : γ 0 2 0 9 = ρ 14 := m14
  have m15 : γ 0 2 0 13 = ρ 15 := m15
  have m16 : γ 0 2 0 16 = ρ 16 := m16
  have m17 : γ 0 3 0 1 = ρ 17 := m17
  have m18 : γ 0 10 (9 * ρ 1) 7 = ρ 18 := m18
  have m19 : γ 0 10 (9 * ρ 1) 9 = ρ 19 := m19
  have m20 : γ 0 10 (9 * ρ 1) 13 = ρ 20 := m20
  have m21 : γ 0 10 (9 * ρ 1) 15 = ρ 21 := m21
  have m22 : γ 0 2 0 8 = ρ 22 := m22
  have m23 : γ 1 10 (9 * ρ 1) 4 = 0 := m23
  have m24 : γ 1 10 (9 * ρ 1) 5 = 0 := m24
  have m25 : γ 1 10 (9 * ρ 1) 7 = ρ 14 := m25
  have m26 : γ 1 10 (9 * ρ 1) 8 = (-1) := m26
  have m27 : γ 1 10 (9 * ρ 1) 9 = (-1) := m27
  have m28 : γ 1 10 (9 * ρ 1) 12 = 0 := m28
  have m29 : γ 2 2 0 6 = ρ 23 := m29
  have m30 : γ 3 2 0 4 = ρ 23 := m30
  obtain ⟨⟨⟨-, c1⟩, c2⟩, c3⟩ := hc
  have c1 : ∀ (G : Nat) (k j : Int), ¬ rMdP m70_ G j → γ 1 G k j = γ 0 G k j := c1
  have c2 : ∀ (G : Nat) (k j : Int), ¬ rMdP m77_ G j → γ 2 G k j = γ 1 G k j := c2
  have c3 : ∀ (G : Nat) (k j : Int), ¬ rMdP m72_ G j → γ 3 G k j = γ 2 G k j := c3
  obtain ⟨l0, l1, l2, -⟩ := hl
  have l0 : sn102 [ρ 22, ρ 14, ρ 0, ρ 1, ρ 2, ρ 8, ρ 5, ρ 18, ρ 10, ρ 19, ρ 6] (γ 0) 0 0 (γ 1) := hS102 _ _ _ _ _ l0
  have l1 : sn114 [ρ 3, ρ 4] (γ 1) 0 (-1) (γ 2) := hS114 _ _ _ _ _ l1
  have l2 : sn109 [ρ 23, ρ 12] (γ 2) 0 0 (γ 3) := hS109 _ _ _ _ _ l2
  show sn144 [ρ 0, ρ 1, ρ 2, ρ 3, ρ 4, ρ 5, ρ 6, ρ 7, ρ 8, ρ 9, ρ 10, ρ 11, ρ 12, ρ 13, ρ 14, ρ 15, ρ 16, ρ 17, ρ 18, ρ 19, ρ 20, ρ 21] (γ 0) 0 0 (γ 3)
  have hD : dn144 [] (γ 0) = .inr (0, 0, γ 3) := by
    unfold dn144
    refine (zLet_eq m14).trans ?_
    refine (zLet_eq m22).trans ?_
    refine (zLet_eq (show fn102 [ρ 22, ρ 14] (γ 0) = (0, 0, γ 1) from l0.symm)).trans ?_
    refine (zLet_eq (show _ = γ 1 from rfl)).trans ?_
    refine (zLet_eq (show fn114 [] (γ 1) = (0, (-1), γ 2) from l1.symm)).trans ?_
    refine (zLet_eq (show _ = γ 2 from rfl)).trans ?_
    refine (if_neg (show ¬ ((0 : Int) ≤ (-1)) by omega)).trans ?_
    refine (zLet_eq m29).trans ?_
    refine (zLet_eq (show fn109 [ρ 23] (γ 2) = (0, 0, γ 3) from l2.symm)).trans ?_
    refine (zLet_eq (show _ = γ 3 from rfl)).trans ?_
    rfl
  exact zGoo_end hD
theorem vn144_1 {S : Nat → zSpc} (hS102 : ∀ x g o v gz, S 102 x g o v gz → sn102 x g o v gz) (hS109 : ∀ x g o v gz, S 109 x g o v gz → sn109 x g o v gz) (hS114 : ∀ x g o v gz, S 114 x g o v gz → sn114 x g o v gz) (hS133 : ∀ x g o v gz, S 133 x g o v gz → sn133 x g o v gz) (hS141 : ∀ x g o v gz, S 141 x g o v gz → sn141 x g o v gz) (hS143 : ∀ x g o v gz, S 143 x g o v gz → sn143 x g o v gz) {a : List Int} {g : rHp} : ∀ (ρ : Nat → Int) (γ : Nat → rHp), zO 22 S a g q144_1 ρ γ → zGl (fun i vs g1 => jn144 a g i vs g1) (sn144 a g) q144_1 ρ γ := by
  intro ρ γ h
  obtain ⟨ha, hg, hr, hf, hm, hc, hl⟩ := h
  have ha : a = [ρ 0, ρ 1, ρ 2, ρ 3, ρ 4, ρ 5, ρ 6, ρ 7, ρ 8, ρ 9, ρ 10, ρ 11, ρ 12, ρ 13, ρ 14, ρ 15, ρ 16, ρ 17, ρ 18, ρ 19, ρ 20, ρ 21] := ha
  subst ha
  subst hg
  obtain ⟨r0, r1, r2, r3, r4, r5, r6, r7, r8, r9, r10, r11, r12, r13, r14, r15, r16, r17, r18, r19, r20, r21, r22, r23, r24, -⟩ := hr
  have r0 : (0 : Int) ≤ ρ 0 ∧ ρ 0 ≤ 60 := r0
  have r1 : (0 : Int) ≤ ρ 1 ∧ ρ 1 ≤ 60 := r1
  have r2 : (0 : Int) ≤ ρ 2 ∧ ρ 2 ≤ 8 := r2
  have r3 : (0 : Int) ≤ ρ 3 ∧ ρ 3 ≤ 2000 := r3
  have r4 : (0 : Int) ≤ ρ 4 ∧ ρ 4 ≤ 2000 := r4
  have r5 : (0 : Int) ≤ ρ 5 ∧ ρ 5 ≤ 4 := r5
  have r6 : (0 : Int) ≤ ρ 6 ∧ ρ 6 ≤ 4 := r6
  have r7 : ((-1) : Int) ≤ ρ 7 ∧ ρ 7 ≤ 7 := r7
  have r8 : (0 : Int) ≤ ρ 8 ∧ ρ 8 ≤ 8 := r8
  have r9 : (0 : Int) ≤ ρ 9 ∧ ρ 9 ≤ 2 := r9
  have r10 : ((-1) : Int) ≤ ρ 10 ∧ ρ 10 ≤ 19 := r10
  have r11 : (0 : Int) ≤ ρ 11 ∧ ρ 11 ≤ 20 := r11
  have r12 : ((-2147483648) : Int) ≤ ρ 12 ∧ ρ 12 ≤ 2147483647 := r12
  have r13 : ((-2147483648) : Int) ≤ ρ 13 ∧ ρ 13 ≤ 2147483647 := r13
  have r14 : ((-2147483648) : Int) ≤ ρ 14 ∧ ρ 14 ≤ 2147483647 := r14
  have r15 : (0 : Int) ≤ ρ 15 ∧ ρ 15 ≤ 8 := r15
  have r16 : (0 : Int) ≤ ρ 16 ∧ ρ 16 ≤ 32 := r16
  have r17 : (0 : Int) ≤ ρ 17 ∧ ρ 17 ≤ 5120 := r17
  have r18 : ((-2147483648) : Int) ≤ ρ 18 ∧ ρ 18 ≤ 2147483647 := r18
  have r19 : ((-1) : Int) ≤ ρ 19 ∧ ρ 19 ≤ 3 := r19
  have r20 : (0 : Int) ≤ ρ 20 ∧ ρ 20 ≤ 3 := r20
  have r21 : ((-2147483648) : Int) ≤ ρ 21 ∧ ρ 21 ≤ 2147483647 := r21
  have r22 : ((-9223372036854775808) : Int) ≤ ρ 22 ∧ ρ 22 ≤ 9223372036854775807 := r22
  have r23 : (40 : Int) ≤ ρ 23 ∧ ρ 23 ≤ 40 := r23
  have r24 : (0 : Int) ≤ ρ 24 ∧ ρ 24 ≤ 2000 := r24
  obtain ⟨f0, f1, f2, -⟩ := hf
  have f0 : (0 : Int) ≤ ρ 24 + -ρ 3 := f0
  have f1 : (0 : Int) ≤ -ρ 24 + ρ 4 + (-1) := f1
  have f2 : (0 : Int) ≤ ρ 4 + -ρ 3 + (-1) := f2
  obtain ⟨m0, m1, m2, m3, m4, m5, m6, m7, m8, m9, m10, m11, m12, m13, m14, m15, m16, m17, m18, m19, m20, m21, m22, m23, m24, m25, m26, m27, m28, m29, -⟩ := hm
  have m0 : γ 0 1 0 10 = ρ 0 := m0
  have m1 : γ 0 40 0 (ρ 0) = ρ 1 := m1
  have m2 : γ 0 9 (ρ 1) 2 = ρ 2 := m2
  have m3 : γ 0 2 0 6 = ρ 3 := m3
  have m4 : γ 0 2 0 3 = ρ 4 := m4
  have m5 : γ 0 10 (9 * ρ 1) 5 = ρ 5 := m5
  have m6 : γ 0 10 (9 * ρ 1) 12 = ρ 6 := m6
  have m7 : γ 0 10 (9 * ρ 1) 14 = ρ 7 := m7
  have m8 : γ 0 10 (9 * ρ 1) 4 = ρ 8 := m8
  have m9 : γ 0 2 0 7 = ρ 9 := m9
  have m10 : γ 0 10 (9 * ρ 1) 8 = ρ 10 := m10
  have m11 : γ 0 1 0 7 = ρ 11 := m11
  have m12 : γ 0 2 0 4 = ρ 12 := m12
  have m13 : γ 0 2 0 5 = ρ 13 := m13
  have m14 : γ 0 2 0 9 = ρ 14 := m14
  have m15 : γ 0 2 0 13 = ρ 15 := m15
  have m16 : γ 0 2 0 16 = ρ 16 := m16
  have m17 : γ 0 3 0 1 = ρ 17 := m17
  have m18 : γ 0 10 (9 * ρ 1) 7 = ρ 18 := m18
  have m19 : γ 0 10 (9 * ρ 1) 9 = ρ 19 := m19
  have m20 : γ 0 10 (9 * ρ 1) 13 = ρ 20 := m20
  have m21 : γ 0 10 (9 * ρ 1) 15 = ρ 21 := m21
  have m22 : γ 0 2 0 8 = ρ 22 := m22
  have m23 : γ 1 10 (9 * ρ 1) 4 = 0 := m23
  have m24 : γ 1 10 (9 * ρ 1) 5 = 0 := m24
  have m25 : γ 1 10 (9 * ρ 1) 7 = ρ 14 := m25
  have m26 : γ 1 10 (9 * ρ 1) 8 = (-1) := m26
  have m27 : γ 1 10 (9 * ρ 1) 9 = (-1) := m27
  have m28 : γ 1 10 (9 * ρ 1) 12 = 0 := m28
  have m29 : γ 2 2 0 6 = ρ 24 := m29
  obtain ⟨⟨⟨-, c1⟩, c2⟩, c3⟩ := hc
  have c1 : ∀ (G : Nat) (k j : Int), ¬ rMdP m70_ G j → γ 1 G k j = γ 0 G k j := c1
  have c2 : ∀ (G : Nat) (k j : Int), ¬ rMdP m77_ G j → γ 2 G k j = γ 1 G k j := c2
  have c3 : γ 3 = rUp (γ 2) 2 0 6 (ρ 24 + 1) := c3
  obtain ⟨l0, l1, -⟩ := hl
  have l0 : sn102 [ρ 22, ρ 14, ρ 0, ρ 1, ρ 2, ρ 8, ρ 5, ρ 18, ρ 10, ρ 19, ρ 6] (γ 0) 0 0 (γ 1) := hS102 _ _ _ _ _ l0
  have l1 : sn114 [ρ 3, ρ 4] (γ 1) 0 (ρ 23) (γ 2) := hS114 _ _ _ _ _ l1
  show jn144 [ρ 0, ρ 1, ρ 2, ρ 3, ρ 4, ρ 5, ρ 6, ρ 7, ρ 8, ρ 9, ρ 10, ρ 11, ρ 12, ρ 13, ρ 14, ρ 15, ρ 16, ρ 17, ρ 18, ρ 19, ρ 20, ρ 21] (γ 0) 0 [ρ 0, ρ 1, ρ 2, ρ 3, ρ 4, ρ 5, ρ 6, ρ 7, ρ 8, ρ 9, ρ 10, ρ 11, ρ 12, ρ 13, ρ 14, ρ 15, ρ 16, ρ 17, ρ 18, ρ 19, ρ 20, ρ 21, 0, ρ 24 + 1, 0, 0, ρ 7, 0, (-1), ρ 13, ρ 14, ρ 15, ρ 16, ρ 17, (-1), ρ 20, ρ 21] (γ 3)
  have hD : dn144 [] (γ 0) = .inl (0, [0], γ 3) := by
    unfold dn144
    refine (zLet_eq m14).trans ?_
    refine (zLet_eq m22).trans ?_
    refine (zLet_eq (show fn102 [ρ 22, ρ 14] (γ 0) = (0, 0, γ 1) from l0.symm)).trans ?_
    refine (zLet_eq (show _ = γ 1 from rfl)).trans ?_
    refine (zLet_eq (show fn114 [] (γ 1) = (0, ρ 23, γ 2) from l1.symm)).trans ?_
    refine (zLet_eq (show _ = γ 2 from rfl)).trans ?_
    refine (if_pos (show (0 : Int) ≤ ρ 23 by omega)).trans ?_
    refine (zLet_eq (show _ = ρ 23 from rfl)).trans ?_
    refine (zLet_eq m29).trans ?_
    refine (if_pos (show ρ 23 = 40 by omega)).trans ?_
    refine (zLet_eq c3.symm).trans ?_
    rfl
  exact zGoo_to hD
theorem vn144_2 {S : Nat → zSpc} (hS102 : ∀ x g o v gz, S 102 x g o v gz → sn102 x g o v gz) (hS109 : ∀ x g o v gz, S 109 x g o v gz → sn109 x g o v gz) (hS114 : ∀ x g o v gz, S 114 x g o v gz → sn114 x g o v gz) (hS133 : ∀ x g o v gz, S 133 x g o v gz → sn133 x g o v gz) (hS141 : ∀ x g o v gz, S 141 x g o v gz → sn141 x g o v gz) (hS143 : ∀ x g o v gz, S 143 x g o v gz → sn143 x g o v gz) {a : List Int} {g : rHp} : ∀ (ρ : Nat → Int) (γ : Nat → rHp), zO 22 S a g q144_2 ρ γ → zGl (fun i vs g1 => jn144 a g i vs g1) (sn144 a g) q144_2 ρ γ := by
  intro ρ γ h
  obtain ⟨ha, hg, hr, hf, hm, hc, hl⟩ := h
  have ha : a = [ρ 0, ρ 1, ρ 2, ρ 3, ρ 4, ρ 5, ρ 6, ρ 7, ρ 8, ρ 9, ρ 10, ρ 11, ρ 12, ρ 13, ρ 14, ρ 15, ρ 16, ρ 17, ρ 18, ρ 19, ρ 20, ρ 21] := ha
  subst ha
  subst hg
  obtain ⟨r0, r1, r2, r3, r4, r5, r6, r7, r8, r9, r10, r11, r12, r13, r14, r15, r16, r17, r18, r19, r20, r21, r22, r23, r24, -⟩ := hr
  have r0 : (0 : Int) ≤ ρ 0 ∧ ρ 0 ≤ 60 := r0
  have r1 : (0 : Int) ≤ ρ 1 ∧ ρ 1 ≤ 60 := r1
  have r2 : (0 : Int) ≤ ρ 2 ∧ ρ 2 ≤ 8 := r2
  have r3 : (0 : Int) ≤ ρ 3 ∧ ρ 3 ≤ 2000 := r3
  have r4 : (0 : Int) ≤ ρ 4 ∧ ρ 4 ≤ 2000 := r4
  have r5 : (0 : Int) ≤ ρ 5 ∧ ρ 5 ≤ 4 := r5
  have r6 : (0 : Int) ≤ ρ 6 ∧ ρ 6 ≤ 4 := r6
  have r7 : ((-1) : Int) ≤ ρ 7 ∧ ρ 7 ≤ 7 := r7
  have r8 : (0 : Int) ≤ ρ 8 ∧ ρ 8 ≤ 8 := r8
  have r9 : (0 : Int) ≤ ρ 9 ∧ ρ 9 ≤ 2 := r9
  have r10 : ((-1) : Int) ≤ ρ 10 ∧ ρ 10 ≤ 19 := r10
  have r11 : (0 : Int) ≤ ρ 11 ∧ ρ 11 ≤ 20 := r11
  have r12 : ((-2147483648) : Int) ≤ ρ 12 ∧ ρ 12 ≤ 2147483647 := r12
  have r13 : ((-2147483648) : Int) ≤ ρ 13 ∧ ρ 13 ≤ 2147483647 := r13
  have r14 : ((-2147483648) : Int) ≤ ρ 14 ∧ ρ 14 ≤ 2147483647 := r14
  have r15 : (0 : Int) ≤ ρ 15 ∧ ρ 15 ≤ 8 := r15
  have r16 : (0 : Int) ≤ ρ 16 ∧ ρ 16 ≤ 32 := r16
  have r17 : (0 : Int) ≤ ρ 17 ∧ ρ 17 ≤ 5120 := r17
  have r18 : ((-2147483648) : Int) ≤ ρ 18 ∧ ρ 18 ≤ 2147483647 := r18
  have r19 : ((-1) : Int) ≤ ρ 19 ∧ ρ 19 ≤ 3 := r19
  have r20 : (0 : Int) ≤ ρ 20 ∧ ρ 20 ≤ 3 := r20
  have r21 : ((-2147483648) : Int) ≤ ρ 21 ∧ ρ 21 ≤ 2147483647 := r21
  have r22 : ((-9223372036854775808) : Int) ≤ ρ 22 ∧ ρ 22 ≤ 9223372036854775807 := r22
  have r23 : (0 : Int) ≤ ρ 23 ∧ ρ 23 ≤ 255 := r23
  have r24 : (0 : Int) ≤ ρ 24 ∧ ρ 24 ≤ 2000 := r24
  obtain ⟨f0, f1, f2, -⟩ := hf
  have f0 : (0 : Int) ≤ ρ 24 + -ρ 3 := f0
  have f1 : (0 : Int) ≤ -ρ 24 + ρ 4 + (-1) := f1
  have f2 : (0 : Int) ≤ ρ 4 + -ρ 3 + (-1) := f2
  obtain ⟨m0, m1, m2, m3, m4, m5, m6, m7, m8, m9, m10, m11, m12, m13, m14, m15, m16, m17, m18, m19, m20, m21, m22, m23, m24, m25, m26, m27, m28, m29, m30, -⟩ := hm
  have m0 : γ 0 1 0 10 = ρ 0 := m0
  have m1 : γ 0 40 0 (ρ 0) = ρ 1 := m1
  have m2 : γ 0 9 (ρ 1) 2 = ρ 2 := m2
  have m3 : γ 0 2 0 6 = ρ 3 := m3
  have m4 : γ 0 2 0 3 = ρ 4 := m4
  have m5 : γ 0 10 (9 * ρ 1) 5 = ρ 5 := m5
  have m6 : γ 0 10 (9 * ρ 1) 12 = ρ 6 := m6
  have m7 : γ 0 10 (9 * ρ 1) 14 = ρ 7 := m7
  have m8 : γ 0 10 (9 * ρ 1) 4 = ρ 8 := m8
  have m9 : γ 0 2 0 7 = ρ 9 := m9
  have m10 : γ 0 10 (9 * ρ 1) 8 = ρ 10 := m10
  have m11 : γ 0 1 0 7 = ρ 11 := m11
  have m12 : γ 0 2 0 4 = ρ 12 := m12
  have m13 : γ 0 2 0 5 = ρ 13 := m13
  have m14 : γ 0 2 0 9 = ρ 14 := m14
  have m15 : γ 0 2 0 13 = ρ 15 := m15
  have m16 : γ 0 2 0 16 = ρ 16 := m16
  have m17 : γ 0 3 0 1 = ρ 17 := m17
  have m18 : γ 0 10 (9 * ρ 1) 7 = ρ 18 := m18
  have m19 : γ 0 10 (9 * ρ 1) 9 = ρ 19 := m19
  have m20 : γ 0 10 (9 * ρ 1) 13 = ρ 20 := m20
  have m21 : γ 0 10 (9 * ρ 1) 15 = ρ 21 := m21
  have m22 : γ 0 2 0 8 = ρ 22 := m22
  have m23 : γ 1 10 (9 * ρ 1) 4 = 0 := m23
  have m24 : γ 1 10 (9 * ρ 1) 5 = 0 := m24
  have m25 : γ 1 10 (9 * ρ 1) 7 = ρ 14 := m25
  have m26 : γ 1 10 (9 * ρ 1) 8 = (-1) := m26
  have m27 : γ 1 10 (9 * ρ 1) 9 = (-1) := m27
  have m28 : γ 1 10 (9 * ρ 1) 12 = 0 := m28
  have m29 : γ 2 2 0 6 = ρ 24 := m29
  have m30 : γ 3 2 0 4 = ρ 24 := m30
  obtain ⟨⟨⟨-, c1⟩, c2⟩, c3⟩ := hc
  have c1 : ∀ (G : Nat) (k j : Int), ¬ rMdP m70_ G j → γ 1 G k j = γ 0 G k j := c1
  have c2 : ∀ (G : Nat) (k j : Int), ¬ rMdP m77_ G j → γ 2 G k j = γ 1 G k j := c2
  have c3 : ∀ (G : Nat) (k j : Int), ¬ rMdP m72_ G j → γ 3 G k j = γ 2 G k j := c3
  obtain ⟨l0, l1, l2, l3, -⟩ := hl
  have l0 : sn102 [ρ 22, ρ 14, ρ 0, ρ 1, ρ 2, ρ 8, ρ 5, ρ 18, ρ 10, ρ 19, ρ 6] (γ 0) 0 0 (γ 1) := hS102 _ _ _ _ _ l0
  have l1 : sn114 [ρ 3, ρ 4] (γ 1) 0 (ρ 23) (γ 2) := hS114 _ _ _ _ _ l1
  have l2 : ρ 23 ≠ 40 := l2
  have l3 : sn109 [ρ 24, ρ 12] (γ 2) 0 0 (γ 3) := hS109 _ _ _ _ _ l3
  show sn144 [ρ 0, ρ 1, ρ 2, ρ 3, ρ 4, ρ 5, ρ 6, ρ 7, ρ 8, ρ 9, ρ 10, ρ 11, ρ 12, ρ 13, ρ 14, ρ 15, ρ 16, ρ 17, ρ 18, ρ 19, ρ 20, ρ 21] (γ 0) 0 0 (γ 3)
  have hD : dn144 [] (γ 0) = .inr (0, 0, γ 3) := by
    unfold dn144
    refine (zLet_eq m14).trans ?_
    refine (zLet_eq m22).trans ?_
    refine (zLet_eq (show fn102 [ρ 22, ρ 14] (γ 0) = (0, 0, γ 1) from l0.symm)).trans ?_
    refine (zLet_eq (show _ = γ 1 from rfl)).trans ?_
    refine (zLet_eq (show fn114 [] (γ 1) = (0, ρ 23, γ 2) from l1.symm)).trans ?_
    refine (zLet_eq (show _ = γ 2 from rfl)).trans ?_
    refine (if_pos (show (0 : Int) ≤ ρ 23 by omega)).trans ?_
    refine (zLet_eq (show _ = ρ 23 from rfl)).trans ?_
    refine (zLet_eq m29).trans ?_
    refine (if_neg (show ¬ (ρ 23 = 40) by omega)).trans ?_
    refine (zLet_eq (show fn109 [ρ 24] (γ 2) = (0, 0, γ 3) from l3.symm)).trans ?_
    refine (zLet_eq (show _ = γ 3 from rfl)).trans ?_
    rfl
  exact zGoo_end hD
theorem vn144a0_0 {S : Nat → zSpc} (hS102 : ∀ x g o v gz, S 102 x g o v gz → sn102 x g o v gz) (hS109 : ∀ x g o v gz, S 109 x g o v gz → sn109 x g o v gz) (hS114 : ∀ x g o v gz, S 114 x g o v gz → sn114 x g o v gz) (hS133 : ∀ x g o v gz, S 133 x g o v gz → sn133 x g o v gz) (hS141 : ∀ x g o v gz, S 141 x g o v gz → sn141 x g o v gz) (hS143 : ∀ x g o v gz, S 143 x g o v gz → sn143 x g o v gz) {a : List Int} {g : rHp} : ∀ (ρ : Nat → Int) (γ : Nat → rHp), jn144 a g 0 (zAg (zNA a144_ 0) ρ) (γ 1) → zO 22 S a g q144a0_0 ρ γ → zGl (fun i vs g1 => jn144 a g i vs g1) (sn144 a g) q144a0_0 ρ γ := by
  intro ρ γ hJ h
  obtain ⟨ha, hg, hr, hf, hm, hc, hl⟩ := h
  have ha : a = [ρ 0, ρ 1, ρ 2, ρ 3, ρ 4, ρ 5, ρ 6, ρ 7, ρ 8, ρ 9, ρ 10, ρ 11, ρ 12, ρ 13, ρ 14, ρ 15, ρ 16, ρ 17, ρ 18, ρ 19, ρ 20, ρ 21] := ha
  subst ha
  subst hg
  have hJ : jn144 [ρ 0, ρ 1, ρ 2, ρ 3, ρ 4, ρ 5, ρ 6, ρ 7, ρ 8, ρ 9, ρ 10, ρ 11, ρ 12, ρ 13, ρ 14, ρ 15, ρ 16, ρ 17, ρ 18, ρ 19, ρ 20, ρ 21] (γ 0) 0 [ρ 0, ρ 1, ρ 2, ρ 3, ρ 4, ρ 5, ρ 6, ρ 7, ρ 8, ρ 9, ρ 10, ρ 11, ρ 12, ρ 13, ρ 14, ρ 15, ρ 16, ρ 17, ρ 18, ρ 19, ρ 20, ρ 21, ρ 22, ρ 23, ρ 24, ρ 25, ρ 26, ρ 27, ρ 28, ρ 29, ρ 30, ρ 31, ρ 32, ρ 33, ρ 34, ρ 35, ρ 36] (γ 1) := hJ
  obtain ⟨r0, r1, r2, r3, r4, r5, r6, r7, r8, r9, r10, r11, r12, r13, r14, r15, r16, r17, r18, r19, r20, r21, r22, r23, r24, r25, r26, r27, r28, r29, r30, r31, r32, r33, r34, r35, r36, r37, -⟩ := hr
  have r0 : (0 : Int) ≤ ρ 0 ∧ ρ 0 ≤ 60 := r0
  have r1 : (0 : Int) ≤ ρ 1 ∧ ρ 1 ≤ 60 := r1
  have r2 : (0 : Int) ≤ ρ 2 ∧ ρ 2 ≤ 8 := r2
  have r3 : (0 : Int) ≤ ρ 3 ∧ ρ 3 ≤ 2000 := r3
  have r4 : (1 : Int) ≤ ρ 4 ∧ ρ 4 ≤ 2000 := r4
  have r5 : (0 : Int) ≤ ρ 5 ∧ ρ 5 ≤ 4 := r5
  have r6 : (0 : Int) ≤ ρ 6 ∧ ρ 6 ≤ 4 := r6
  have r7 : ((-1) : Int) ≤ ρ 7 ∧ ρ 7 ≤ 7 := r7
  have r8 : (0 : Int) ≤ ρ 8 ∧ ρ 8 ≤ 8 := r8
  have r9 : (0 : Int) ≤ ρ 9 ∧ ρ 9 ≤ 2 := r9
  have r10 : ((-1) : Int) ≤ ρ 10 ∧ ρ 10 ≤ 19 := r10
  have r11 : (0 : Int) ≤ ρ 11 ∧ ρ 11 ≤ 20 := r11
  have r12 : ((-2147483648) : Int) ≤ ρ 12 ∧ ρ 12 ≤ 2147483647 := r12
  have r13 : ((-2147483648) : Int) ≤ ρ 13 ∧ ρ 13 ≤ 2147483647 := r13
  have r14 : ((-2147483648) : Int) ≤ ρ 14 ∧ ρ 14 ≤ 2147483647 := r14
  have r15 : (0 : Int) ≤ ρ 15 ∧ ρ 15 ≤ 8 := r15
  have r16 : (0 : Int) ≤ ρ 16 ∧ ρ 16 ≤ 32 := r16
  have r17 : (0 : Int) ≤ ρ 17 ∧ ρ 17 ≤ 5120 := r17
  have r18 : ((-2147483648) : Int) ≤ ρ 18 ∧ ρ 18 ≤ 2147483647 := r18
  have r19 : ((-1) : Int) ≤ ρ 19 ∧ ρ 19 ≤ 3 := r19
  have r20 : (0 : Int) ≤ ρ 20 ∧ ρ 20 ≤ 3 := r20
  have r21 : ((-2147483648) : Int) ≤ ρ 21 ∧ ρ 21 ≤ 2147483647 := r21
  have r22 : (4 : Int) ≤ ρ 22 ∧ ρ 22 ≤ 4 := r22
  have r23 : (1 : Int) ≤ ρ 23 ∧ ρ 23 ≤ 2000 := r23
  have r24 : (0 : Int) ≤ ρ 24 ∧ ρ 24 ≤ 4 := r24
  have r25 : (0 : Int) ≤ ρ 25 ∧ ρ 25 ≤ 4 := r25
  have r26 : ((-1) : Int) ≤ ρ 26 ∧ ρ 26 ≤ 7 := r26
  have r27 : (0 : Int) ≤ ρ 27 ∧ ρ 27 ≤ 0 := r27
  have r28 : ((-1) : Int) ≤ ρ 28 ∧ ρ 28 ≤ (-1) := r28
  have r29 : ((-2147483648) : Int) ≤ ρ 29 ∧ ρ 29 ≤ 2147483647 := r29
  have r30 : ((-2147483648) : Int) ≤ ρ 30 ∧ ρ 30 ≤ 2147483647 := r30
  have r31 : (0 : Int) ≤ ρ 31 ∧ ρ 31 ≤ 8 := r31
  have r32 : (0 : Int) ≤ ρ 32 ∧ ρ 32 ≤ 32 := r32
  have r33 : (0 : Int) ≤ ρ 33 ∧ ρ 33 ≤ 5120 := r33
  have r34 : ((-1) : Int) ≤ ρ 34 ∧ ρ 34 ≤ 3 := r34
  have r35 : (0 : Int) ≤ ρ 35 ∧ ρ 35 ≤ 3 := r35
  have r36 : ((-2147483648) : Int) ≤ ρ 36 ∧ ρ 36 ≤ 2147483647 := r36
  have r37 : (0 : Int) ≤ ρ 37 ∧ ρ 37 ≤ 2000 := r37
  obtain ⟨f0, f1, f2, f3, f4, f5, f6, f7, f8, f9, f10, f11, f12, -⟩ := hf
  have f0 : (0 : Int) ≤ ρ 37 + -ρ 23 := f0
  have f1 : (0 : Int) ≤ ρ 37 + -ρ 4 := f1
  have f2 : (0 : Int) ≤ -ρ 24 + ρ 22 := f2
  have f3 : (0 : Int) ≤ 3 * ρ 26 + -ρ 25 + 4 := f3
  have f4 : (0 : Int) ≤ ρ 4 + -ρ 3 + (-1) := f4
  have f5 : (0 : Int) ≤ -ρ 23 + ρ 4 := f5
  have f6 : (0 : Int) ≤ -ρ 22 + ρ 4 + (-1) := f6
  have f7 : (0 : Int) ≤ ρ 33 + -ρ 17 := f7
  have f8 : (0 : Int) ≤ ρ 32 + -ρ 16 := f8
  have f9 : (0 : Int) ≤ ρ 31 + -ρ 15 := f9
  have f10 : (0 : Int) ≤ ρ 23 + -ρ 3 + (-1) := f10
  have f11 : (0 : Int) ≤ ρ 23 + -ρ 22 + (-1) := f11
  have f12 : (0 : Int) ≤ -ρ 34 + ρ 22 + (-1) := f12
  obtain ⟨m0, m1, m2, m3, m4, m5, m6, m7, m8, m9, m10, m11, m12, m13, m14, m15, m16, m17, m18, m19, m20, m21, m22, m23, m24, m25, m26, m27, m28, m29, m30, m31, m32, m33, m34, m35, m36, m37, m38, m39, -⟩ := hm
  have m0 : γ 0 1 0 10 = ρ 0 := m0
  have m1 : γ 0 40 0 (ρ 0) = ρ 1 := m1
  have m2 : γ 0 9 (ρ 1) 2 = ρ 2 := m2
  have m3 : γ 0 2 0 6 = ρ 3 := m3
  have m4 : γ 0 2 0 3 = ρ 4 := m4
  have m5 : γ 0 10 (9 * ρ 1) 5 = ρ 5 := m5
  have m6 : γ 0 10 (9 * ρ 1) 12 = ρ 6 := m6
  have m7 : γ 0 10 (9 * ρ 1) 14 = ρ 7 := m7
  have m8 : γ 0 10 (9 * ρ 1) 4 = ρ 8 := m8
  have m9 : γ 0 2 0 7 = ρ 9 := m9
  have m10 : γ 0 10 (9 * ρ 1) 8 = ρ 10 := m10
  have m11 : γ 0 1 0 7 = ρ 11 := m11
  have m12 : γ 0 2 0 4 = ρ 12 := m12
  have m13 : γ 0 2 0 5 = ρ 13 := m13
  have m14 : γ 0 2 0 9 = ρ 14 := m14
  have m15 : γ 0 2 0 13 = ρ 15 := m15
  have m16 : γ 0 2 0 16 = ρ 16 := m16
  have m17 : γ 0 3 0 1 = ρ 17 := m17
  have m18 : γ 0 10 (9 * ρ 1) 7 = ρ 18 := m18
  have m19 : γ 0 10 (9 * ρ 1) 9 = ρ 19 := m19
  have m20 : γ 0 10 (9 * ρ 1) 13 = ρ 20 := m20
  have m21 : γ 0 10 (9 * ρ 1) 15 = ρ 21 := m21
  have m22 : γ 1 2 0 6 = ρ 23 := m22
  have m23 : γ 1 10 (9 * ρ 1) 5 = ρ 24 := m23
  have m24 : γ 1 10 (9 * ρ 1) 12 = ρ 25 := m24
  have m25 : γ 1 10 (9 * ρ 1) 14 = ρ 26 := m25
  have m26 : γ 1 10 (9 * ρ 1) 4 = ρ 27 := m26
  have m27 : γ 1 10 (9 * ρ 1) 8 = ρ 28 := m27
  have m28 : γ 1 2 0 4 = ρ 12 := m28
  have m29 : γ 1 2 0 5 = ρ 29 := m29
  have m30 : γ 1 2 0 9 = ρ 30 := m30
  have m31 : γ 1 2 0 13 = ρ 31 := m31
  have m32 : γ 1 2 0 16 = ρ 32 := m32
  have m33 : γ 1 3 0 1 = ρ 33 := m33
  have m34 : γ 1 10 (9 * ρ 1) 7 = ρ 14 := m34
  have m35 : γ 1 10 (9 * ρ 1) 9 = ρ 34 := m35
  have m36 : γ 1 10 (9 * ρ 1) 13 = ρ 35 := m36
  have m37 : γ 1 10 (9 * ρ 1) 15 = ρ 36 := m37
  have m38 : γ 2 2 0 6 = ρ 37 := m38
  have m39 : γ 3 2 0 4 = ρ 37 := m39
  obtain ⟨⟨⟨-, c1⟩, c2⟩, c3⟩ := hc
  have c1 : ∀ (G : Nat) (k j : Int), ¬ rMdP m97_ G j → γ 1 G k j = γ 0 G k j := c1
  have c2 : ∀ (G : Nat) (k j : Int), ¬ rMdP m77_ G j → γ 2 G k j = γ 1 G k j := c2
  have c3 : ∀ (G : Nat) (k j : Int), ¬ rMdP m72_ G j → γ 3 G k j = γ 2 G k j := c3
  obtain ⟨l0, l1, -⟩ := hl
  have l0 : sn114 [ρ 23, ρ 4] (γ 1) 0 (-1) (γ 2) := hS114 _ _ _ _ _ l0
  have l1 : sn109 [ρ 37, ρ 12] (γ 2) 0 0 (γ 3) := hS109 _ _ _ _ _ l1
  show sn144 [ρ 0, ρ 1, ρ 2, ρ 3, ρ 4, ρ 5, ρ 6, ρ 7, ρ 8, ρ 9, ρ 10, ρ 11, ρ 12, ρ 13, ρ 14, ρ 15, ρ 16, ρ 17, ρ 18, ρ 19, ρ 20, ρ 21] (γ 0) 0 0 (γ 3)
  have hD : en144 (γ 0) (0, [ρ 22], γ 1) = .inr (0, 0, γ 3) := by
    unfold en144
    refine (if_pos (show (0 : Nat) = 0 by decide)).trans ?_
    refine (zLet_eq (show _ = γ 1 from rfl)).trans ?_
    refine (zLet_eq (show _ = ρ 22 from rfl)).trans ?_
    refine (zLet_eq m0).trans ?_
    refine (zLet_eq m1).trans ?_
    refine (zLet_eq m13).trans ?_
    refine (zLet_eq m35).trans ?_
    refine (if_pos (show ρ 22 ≥ 4 by omega)).trans ?_
    refine (zLet_eq (show fn114 [] (γ 1) = (0, (-1), γ 2) from l0.symm)).trans ?_
    refine (zLet_eq (show _ = γ 2 from rfl)).trans ?_
    refine (if_neg (show ¬ ((0 : Int) ≤ (-1)) by omega)).trans ?_
    refine (zLet_eq m38).trans ?_
    refine (zLet_eq (show fn109 [ρ 37] (γ 2) = (0, 0, γ 3) from l1.symm)).trans ?_
    refine (zLet_eq (show _ = γ 3 from rfl)).trans ?_
    rfl
  exact zGoo_aend hJ hD
theorem vn144a0_1 {S : Nat → zSpc} (hS102 : ∀ x g o v gz, S 102 x g o v gz → sn102 x g o v gz) (hS109 : ∀ x g o v gz, S 109 x g o v gz → sn109 x g o v gz) (hS114 : ∀ x g o v gz, S 114 x g o v gz → sn114 x g o v gz) (hS133 : ∀ x g o v gz, S 133 x g o v gz → sn133 x g o v gz) (hS141 : ∀ x g o v gz, S 141 x g o v gz → sn141 x g o v gz) (hS143 : ∀ x g o v gz, S 143 x g o v gz → sn143 x g o v gz) {a : List Int} {g : rHp} : ∀ (ρ : Nat → Int) (γ : Nat → rHp), jn144 a g 0 (zAg (zNA a144_ 0) ρ) (γ 1) → zO 22 S a g q144a0_1 ρ γ → zGl (fun i vs g1 => jn144 a g i vs g1) (sn144 a g) q144a0_1 ρ γ := by
  intro ρ γ hJ h
  obtain ⟨ha, hg, hr, hf, hm, hc, hl⟩ := h
  have ha : a = [ρ 0, ρ 1, ρ 2, ρ 3, ρ 4, ρ 5, ρ 6, ρ 7, ρ 8, ρ 9, ρ 10, ρ 11, ρ 12, ρ 13, ρ 14, ρ 15, ρ 16, ρ 17, ρ 18, ρ 19, ρ 20, ρ 21] := ha
  subst ha
  subst hg
  have hJ : jn144 [ρ 0, ρ 1, ρ 2, ρ 3, ρ 4, ρ 5, ρ 6, ρ 7, ρ 8, ρ 9, ρ 10, ρ 11, ρ 12, ρ 13, ρ 14, ρ 15, ρ 16, ρ 17, ρ 18, ρ 19, ρ 20, ρ 21] (γ 0) 0 [ρ 0, ρ 1, ρ 2, ρ 3, ρ 4, ρ 5, ρ 6, ρ 7, ρ 8, ρ 9, ρ 10, ρ 11, ρ 12, ρ 13, ρ 14, ρ 15, ρ 16, ρ 17, ρ 18, ρ 19, ρ 20, ρ 21, ρ 22, ρ 23, ρ 24, ρ 25, ρ 26, ρ 27, ρ 28, ρ 29, ρ 30, ρ 31, ρ 32, ρ 33, ρ 34, ρ 35, ρ 36] (γ 1) := hJ
  obtain ⟨r0, r1, r2, r3, r4, r5, r6, r7, r8, r9, r10, r11, r12, r13, r14, r15, r16, r17, r18, r19, r20, r21, r22, r23, r24, r25, r26, r27, r28, r29, r30, r31, r32, r33, r34, r35, r36, r37, r38, -⟩ := hr
  have r0 : (0 : Int) ≤ ρ 0 ∧ ρ 0 ≤ 60 := r0
  have r1 : (0 : Int) ≤ ρ 1 ∧ ρ 1 ≤ 60 := r1
  have r2 : (0 : Int) ≤ ρ 2 ∧ ρ 2 ≤ 8 := r2
  have r3 : (0 : Int) ≤ ρ 3 ∧ ρ 3 ≤ 2000 := r3
  have r4 : (1 : Int) ≤ ρ 4 ∧ ρ 4 ≤ 2000 := r4
  have r5 : (0 : Int) ≤ ρ 5 ∧ ρ 5 ≤ 4 := r5
  have r6 : (0 : Int) ≤ ρ 6 ∧ ρ 6 ≤ 4 := r6
  have r7 : ((-1) : Int) ≤ ρ 7 ∧ ρ 7 ≤ 7 := r7
  have r8 : (0 : Int) ≤ ρ 8 ∧ ρ 8 ≤ 8 := r8
  have r9 : (0 : Int) ≤ ρ 9 ∧ ρ 9 ≤ 2 := r9
  have r10 : ((-1) : Int) ≤ ρ 10 ∧ ρ 10 ≤ 19 := r10
  have r11 : (0 : Int) ≤ ρ 11 ∧ ρ 11 ≤ 20 := r11
  have r12 : ((-2147483648) : Int) ≤ ρ 12 ∧ ρ 12 ≤ 2147483647 := r12
  have r13 : ((-2147483648) : Int) ≤ ρ 13 ∧ ρ 13 ≤ 2147483647 := r13
  have r14 : ((-2147483648) : Int) ≤ ρ 14 ∧ ρ 14 ≤ 2147483647 := r14
  have r15 : (0 : Int) ≤ ρ 15 ∧ ρ 15 ≤ 8 := r15
  have r16 : (0 : Int) ≤ ρ 16 ∧ ρ 16 ≤ 32 := r16
  have r17 : (0 : Int) ≤ ρ 17 ∧ ρ 17 ≤ 5120 := r17
  have r18 : ((-2147483648) : Int) ≤ ρ 18 ∧ ρ 18 ≤ 2147483647 := r18
  have r19 : ((-1) : Int) ≤ ρ 19 ∧ ρ 19 ≤ 3 := r19
  have r20 : (0 : Int) ≤ ρ 20 ∧ ρ 20 ≤ 3 := r20
  have r21 : ((-2147483648) : Int) ≤ ρ 21 ∧ ρ 21 ≤ 2147483647 := r21
  have r22 : (4 : Int) ≤ ρ 22 ∧ ρ 22 ≤ 4 := r22
  have r23 : (1 : Int) ≤ ρ 23 ∧ ρ 23 ≤ 2000 := r23
  have r24 : (0 : Int) ≤ ρ 24 ∧ ρ 24 ≤ 4 := r24
  have r25 : (0 : Int) ≤ ρ 25 ∧ ρ 25 ≤ 4 := r25
  have r26 : ((-1) : Int) ≤ ρ 26 ∧ ρ 26 ≤ 7 := r26
  have r27 : (0 : Int) ≤ ρ 27 ∧ ρ 27 ≤ 0 := r27
  have r28 : ((-1) : Int) ≤ ρ 28 ∧ ρ 28 ≤ (-1) := r28
  have r29 : ((-2147483648) : Int) ≤ ρ 29 ∧ ρ 29 ≤ 2147483647 := r29
  have r30 : ((-2147483648) : Int) ≤ ρ 30 ∧ ρ 30 ≤ 2147483647 := r30
  have r31 : (0 : Int) ≤ ρ 31 ∧ ρ 31 ≤ 8 := r31
  have r32 : (0 : Int) ≤ ρ 32 ∧ ρ 32 ≤ 32 := r32
  have r33 : (0 : Int) ≤ ρ 33 ∧ ρ 33 ≤ 5120 := r33
  have r34 : ((-1) : Int) ≤ ρ 34 ∧ ρ 34 ≤ 3 := r34
  have r35 : (0 : Int) ≤ ρ 35 ∧ ρ 35 ≤ 3 := r35
  have r36 : ((-2147483648) : Int) ≤ ρ 36 ∧ ρ 36 ≤ 2147483647 := r36
  have r37 : (0 : Int) ≤ ρ 37 ∧ ρ 37 ≤ 255 := r37
  have r38 : (0 : Int) ≤ ρ 38 ∧ ρ 38 ≤ 2000 := r38
  obtain ⟨f0, f1, f2, f3, f4, f5, f6, f7, f8, f9, f10, f11, f12, f13, -⟩ := hf
  have f0 : (0 : Int) ≤ ρ 38 + -ρ 23 := f0
  have f1 : (0 : Int) ≤ -ρ 38 + ρ 4 + (-1) := f1
  have f2 : (0 : Int) ≤ -ρ 23 + ρ 4 + (-1) := f2
  have f3 : (0 : Int) ≤ -ρ 24 + ρ 22 := f3
  have f4 : (0 : Int) ≤ 3 * ρ 26 + -ρ 25 + 4 := f4
  have f5 : (0 : Int) ≤ ρ 4 + -ρ 3 + (-1) := f5
  have f6 : (0 : Int) ≤ -ρ 23 + ρ 4 := f6
  have f7 : (0 : Int) ≤ -ρ 22 + ρ 4 + (-1) := f7
  have f8 : (0 : Int) ≤ ρ 33 + -ρ 17 := f8
  have f9 : (0 : Int) ≤ ρ 32 + -ρ 16 := f9
  have f10 : (0 : Int) ≤ ρ 31 + -ρ 15 := f10
  have f11 : (0 : Int) ≤ ρ 23 + -ρ 3 + (-1) := f11
  have f12 : (0 : Int) ≤ ρ 23 + -ρ 22 + (-1) := f12
  have f13 : (0 : Int) ≤ -ρ 34 + ρ 22 + (-1) := f13
  obtain ⟨m0, m1, m2, m3, m4, m5, m6, m7, m8, m9, m10, m11, m12, m13, m14, m15, m16, m17, m18, m19, m20, m21, m22, m23, m24, m25, m26, m27, m28, m29, m30, m31, m32, m33, m34, m35, m36, m37, m38, m39, -⟩ := hm
  have m0 : γ 0 1 0 10 = ρ 0 := m0
  have m1 : γ 0 40 0 (ρ 0) = ρ 1 := m1
  have m2 : γ 0 9 (ρ 1) 2 = ρ 2 := m2
  have m3 : γ 0 2 0 6 = ρ 3 := m3
  have m4 : γ 0 2 0 3 = ρ 4 := m4
  have m5 : γ 0 10 (9 * ρ 1) 5 = ρ 5 := m5
  have m6 : γ 0 10 (9 * ρ 1) 12 = ρ 6 := m6
  have m7 : γ 0 10 (9 * ρ 1) 14 = ρ 7 := m7
  have m8 : γ 0 10 (9 * ρ 1) 4 = ρ 8 := m8
  have m9 : γ 0 2 0 7 = ρ 9 := m9
  have m10 : γ 0 10 (9 * ρ 1) 8 = ρ 10 := m10
  have m11 : γ 0 1 0 7 = ρ 11 := m11
  have m12 : γ 0 2 0 4 = ρ 12 := m12
  have m13 : γ 0 2 0 5 = ρ 13 := m13
  have m14 : γ 0 2 0 9 = ρ 14 := m14
  have m15 : γ 0 2 0 13 = ρ 15 := m15
  have m16 : γ 0 2 0 16 = ρ 16 := m16
  have m17 : γ 0 3 0 1 = ρ 17 := m17
  have m18 : γ 0 10 (9 * ρ 1) 7 = ρ 18 := m18
  have m19 : γ 0 10 (9 * ρ 1) 9 = ρ 19 := m19
  have m20 : γ 0 10 (9 * ρ 1) 13 = ρ 20 := m20
  have m21 : γ 0 10 (9 * ρ 1) 15 = ρ 21 := m21
  have m22 : γ 1 2 0 6 = ρ 23 := m22
  have m23 : γ 1 10 (9 * ρ 1) 5 = ρ 24 := m23
  have m24 : γ 1 10 (9 * ρ 1) 12 = ρ 25 := m24
  have m25 : γ 1 10 (9 * ρ 1) 14 = ρ 26 := m25
  have m26 : γ 1 10 (9 * ρ 1) 4 = ρ 27 := m26
  have m27 : γ 1 10 (9 * ρ 1) 8 = ρ 28 := m27
  have m28 : γ 1 2 0 4 = ρ 12 := m28
  have m29 : γ 1 2 0 5 = ρ 29 := m29
  have m30 : γ 1 2 0 9 = ρ 30 := m30
  have m31 : γ 1 2 0 13 = ρ 31 := m31
  have m32 : γ 1 2 0 16 = ρ 32 := m32
  have m33 : γ 1 3 0 1 = ρ 33 := m33
  have m34 : γ 1 10 (9 * ρ 1) 7 = ρ 14 := m34
  have m35 : γ 1 10 (9 * ρ 1) 9 = ρ 34 := m35
  have m36 : γ 1 10 (9 * ρ 1) 13 = ρ 35 := m36
  have m37 : γ 1 10 (9 * ρ 1) 15 = ρ 36 := m37
  have m38 : γ 2 2 0 6 = ρ 38 := m38
  have m39 : γ 3 2 0 4 = ρ 38 := m39
  obtain ⟨⟨⟨-, c1⟩, c2⟩, c3⟩ := hc
  have c1 : ∀ (G : Nat) (k j : Int), ¬ rMdP m97_ G j → γ 1 G k j = γ 0 G k j := c1
  have c2 : ∀ (G : Nat) (k j : Int), ¬ rMdP m77_ G j → γ 2 G k j = γ 1 G k j := c2
  have c3 : ∀ (G : Nat) (k j : Int), ¬ rMdP m72_ G j → γ 3 G k j = γ 2 G k j := c3
  obtain ⟨l0, l1, -⟩ := hl
  have l0 : sn114 [ρ 23, ρ 4] (γ 1) 0 (ρ 37) (γ 2) := hS114 _ _ _ _ _ l0
  have l1 : sn109 [ρ 38, ρ 12] (γ 2) 0 0 (γ 3) := hS109 _ _ _ _ _ l1
  show sn144 [ρ 0, ρ 1, ρ 2, ρ 3, ρ 4, ρ 5, ρ 6, ρ 7, ρ 8, ρ 9, ρ 10, ρ 11, ρ 12, ρ 13, ρ 14, ρ 15, ρ 16, ρ 17, ρ 18, ρ 19, ρ 20, ρ 21] (γ 0) 0 0 (γ 3)
  have hD : en144 (γ 0) (0, [ρ 22], γ 1) = .inr (0, 0, γ 3) := by
    unfold en144
    refine (if_pos (show (0 : Nat) = 0 by decide)).trans ?_
    refine (zLet_eq (show _ = γ 1 from rfl)).trans ?_
    refine (zLet_eq (show _ = ρ 22 from rfl)).trans ?_
    refine (zLet_eq m0).trans ?_
    refine (zLet_eq m1).trans ?_
    refine (zLet_eq m13).trans ?_
    refine (zLet_eq m35).trans ?_
    refine (if_pos (show ρ 22 ≥ 4 by omega)).trans ?_
    refine (zLet_eq (show fn114 [] (γ 1) = (0, ρ 37, γ 2) from l0.symm)).trans ?_
    refine (zLet_eq (show _ = γ 2 from rfl)).trans ?_
    refine (if_pos (show (0 : Int) ≤ ρ 37 by omega)).trans ?_
    refine (zLet_eq m38).trans ?_
    refine (zLet_eq (show fn109 [ρ 38] (γ 2) = (0, 0, γ 3) from l1.symm)).trans ?_
    refine (zLet_eq (show _ = γ 3 from rfl)).trans ?_
    rfl
  exact zGoo_aend hJ hD
theorem vn144a0_2 {S : Nat → zSpc} (hS102 : ∀ x g o v gz, S 102 x g o v gz → sn102 x g o v gz) (hS109 : ∀ x g o v gz, S 109 x g o v gz → sn109 x g o v gz) (hS114 : ∀ x g o v gz, S 114 x g o v gz → sn114 x g o v gz) (hS133 : ∀ x g o v gz, S 133 x g o v gz → sn133 x g o v gz) (hS141 : ∀ x g o v gz, S 141 x g o v gz → sn141 x g o v gz) (hS143 : ∀ x g o v gz, S 143 x g o v gz → sn143 x g o v gz) {a : List Int} {g : rHp} : ∀ (ρ : Nat → Int) (γ : Nat → rHp), jn144 a g 0 (zAg (zNA a144_ 0) ρ) (γ 1) → zO 22 S a g q144a0_2 ρ γ → zGl (fun i vs g1 => jn144 a g i vs g1) (sn144 a g) q144a0_2 ρ γ := by
  intro ρ γ hJ h
  obtain ⟨ha, hg, hr, hf, hm, hc, hl⟩ := h
  have ha : a = [ρ 0, ρ 1, ρ 2, ρ 3, ρ 4, ρ 5, ρ 6, ρ 7, ρ 8, ρ 9, ρ 10, ρ 11, ρ 12, ρ 13, ρ 14, ρ 15, ρ 16, ρ 17, ρ 18, ρ 19, ρ 20, ρ 21] := ha
  subst ha
  subst hg
  have hJ : jn144 [ρ 0, ρ 1, ρ 2, ρ 3, ρ 4, ρ 5, ρ 6, ρ 7, ρ 8, ρ 9, ρ 10, ρ 11, ρ 12, ρ 13, ρ 14, ρ 15, ρ 16, ρ 17, ρ 18, ρ 19, ρ 20, ρ 21] (γ 0) 0 [ρ 0, ρ 1, ρ 2, ρ 3, ρ 4, ρ 5, ρ 6, ρ 7, ρ 8, ρ 9, ρ 10, ρ 11, ρ 12, ρ 13, ρ 14, ρ 15, ρ 16, ρ 17, ρ 18, ρ 19, ρ 20, ρ 21, ρ 22, ρ 23, ρ 24, ρ 25, ρ 26, ρ 27, ρ 28, ρ 29, ρ 30, ρ 31, ρ 32, ρ 33, ρ 34, ρ 35, ρ 36] (γ 1) := hJ
  obtain ⟨r0, r1, r2, r3, r4, r5, r6, r7, r8, r9, r10, r11, r12, r13, r14, r15, r16, r17, r18, r19, r20, r21, r22, r23, r24, r25, r26, r27, r28, r29, r30, r31, r32, r33, r34, r35, r36, r37, r38, r39, r40, r41, r42, r43, r44, r45, r46, -⟩ := hr
  have r0 : (0 : Int) ≤ ρ 0 ∧ ρ 0 ≤ 60 := r0
  have r1 : (0 : Int) ≤ ρ 1 ∧ ρ 1 ≤ 60 := r1
  have r2 : (0 : Int) ≤ ρ 2 ∧ ρ 2 ≤ 8 := r2
  have r3 : (0 : Int) ≤ ρ 3 ∧ ρ 3 ≤ 2000 := r3
  have r4 : (1 : Int) ≤ ρ 4 ∧ ρ 4 ≤ 2000 := r4
  have r5 : (0 : Int) ≤ ρ 5 ∧ ρ 5 ≤ 4 := r5
  have r6 : (0 : Int) ≤ ρ 6 ∧ ρ 6 ≤ 4 := r6
  have r7 : ((-1) : Int) ≤ ρ 7 ∧ ρ 7 ≤ 7 := r7
  have r8 : (0 : Int) ≤ ρ 8 ∧ ρ 8 ≤ 8 := r8
  have r9 : (0 : Int) ≤ ρ 9 ∧ ρ 9 ≤ 2 := r9
  have r10 : ((-1) : Int) ≤ ρ 10 ∧ ρ 10 ≤ 19 := r10
  have r11 : (0 : Int) ≤ ρ 11 ∧ ρ 11 ≤ 20 := r11
  have r12 : ((-2147483648) : Int) ≤ ρ 12 ∧ ρ 12 ≤ 2147483647 := r12
  have r13 : ((-2147483648) : Int) ≤ ρ 13 ∧ ρ 13 ≤ 2147483647 := r13
  have r14 : ((-2147483648) : Int) ≤ ρ 14 ∧ ρ 14 ≤ 2147483647 := r14
  have r15 : (0 : Int) ≤ ρ 15 ∧ ρ 15 ≤ 8 := r15
  have r16 : (0 : Int) ≤ ρ 16 ∧ ρ 16 ≤ 32 := r16
  have r17 : (0 : Int) ≤ ρ 17 ∧ ρ 17 ≤ 5120 := r17
  have r18 : ((-2147483648) : Int) ≤ ρ 18 ∧ ρ 18 ≤ 2147483647 := r18
  have r19 : ((-1) : Int) ≤ ρ 19 ∧ ρ 19 ≤ 3 := r19
  have r20 : (0 : Int) ≤ ρ 20 ∧ ρ 20 ≤ 3 := r20
  have r21 : ((-2147483648) : Int) ≤ ρ 21 ∧ ρ 21 ≤ 2147483647 := r21
  have r22 : (0 : Int) ≤ ρ 22 ∧ ρ 22 ≤ 3 := r22
  have r23 : (1 : Int) ≤ ρ 23 ∧ ρ 23 ≤ 2000 := r23
  have r24 : (0 : Int) ≤ ρ 24 ∧ ρ 24 ≤ 4 := r24
  have r25 : (0 : Int) ≤ ρ 25 ∧ ρ 25 ≤ 4 := r25
  have r26 : ((-1) : Int) ≤ ρ 26 ∧ ρ 26 ≤ 7 := r26
  have r27 : (0 : Int) ≤ ρ 27 ∧ ρ 27 ≤ 0 := r27
  have r28 : ((-1) : Int) ≤ ρ 28 ∧ ρ 28 ≤ (-1) := r28
  have r29 : ((-2147483648) : Int) ≤ ρ 29 ∧ ρ 29 ≤ 2147483647 := r29
  have r30 : ((-2147483648) : Int) ≤ ρ 30 ∧ ρ 30 ≤ 2147483647 := r30
  have r31 : (0 : Int) ≤ ρ 31 ∧ ρ 31 ≤ 8 := r31
  have r32 : (0 : Int) ≤ ρ 32 ∧ ρ 32 ≤ 32 := r32
  have r33 : (0 : Int) ≤ ρ 33 ∧ ρ 33 ≤ 5120 := r33
  have r34 : ((-1) : Int) ≤ ρ 34 ∧ ρ 34 ≤ 3 := r34
  have r35 : (0 : Int) ≤ ρ 35 ∧ ρ 35 ≤ 3 := r35
  have r36 : ((-2147483648) : Int) ≤ ρ 36 ∧ ρ 36 ≤ 2147483647 := r36
  have r37 : (0 : Int) ≤ ρ 37 ∧ ρ 37 ≤ 2000 := r37
  have r38 : (0 : Int) ≤ ρ 38 ∧ ρ 38 ≤ 4 := r38
  have r39 : (0 : Int) ≤ ρ 39 ∧ ρ 39 ≤ 4 := r39
  have r40 : ((-1) : Int) ≤ ρ 40 ∧ ρ 40 ≤ 7 := r40
  have r41 : (0 : Int) ≤ ρ 41 ∧ ρ 41 ≤ 2000 := r41
  have r42 : ((-2147483648) : Int) ≤ ρ 42 ∧ ρ 42 ≤ 2147483647 := r42
  have r43 : (0 : Int) ≤ ρ 43 ∧ ρ 43 ≤ 8 := r43
  have r44 : (0 : Int) ≤ ρ 44 ∧ ρ 44 ≤ 5120 := r44
  have r45 : (0 : Int) ≤ ρ 45 ∧ ρ 45 ≤ 3 := r45
  have r46 : ((-2147483648) : Int) ≤ ρ 46 ∧ ρ 46 ≤ 2147483647 := r46
  obtain ⟨f0, f1, f2, f3, f4, f5, f6, f7, f8, f9, f10, f11, f12, f13, f14, f15, f16, f17, f18, f19, -⟩ := hf
  have f0 : (0 : Int) ≤ 3 * ρ 26 + -ρ 25 + 4 := f0
  have f1 : (0 : Int) ≤ -ρ 41 + ρ 37 := f1
  have f2 : (0 : Int) ≤ ρ 37 + -ρ 23 := f2
  have f3 : (0 : Int) ≤ ρ 38 + -ρ 24 := f3
  have f4 : (0 : Int) ≤ ρ 39 + -ρ 25 := f4
  have f5 : (0 : Int) ≤ ρ 41 + -ρ 23 := f5
  have f6 : (0 : Int) ≤ ρ 43 + -ρ 31 := f6
  have f7 : (0 : Int) ≤ ρ 44 + -ρ 33 := f7
  have f8 : (0 : Int) ≤ -ρ 40 + ρ 26 := f8
  have f9 : (0 : Int) ≤ -ρ 38 + ρ 24 + 1 := f9
  have f10 : (0 : Int) ≤ -ρ 24 + ρ 22 := f10
  have f11 : (0 : Int) ≤ ρ 4 + -ρ 3 + (-1) := f11
  have f12 : (0 : Int) ≤ -ρ 23 + ρ 4 := f12
  have f13 : (0 : Int) ≤ -ρ 22 + ρ 4 + (-1) := f13
  have f14 : (0 : Int) ≤ ρ 33 + -ρ 17 := f14
  have f15 : (0 : Int) ≤ ρ 32 + -ρ 16 := f15
  have f16 : (0 : Int) ≤ ρ 31 + -ρ 15 := f16
  have f17 : (0 : Int) ≤ ρ 23 + -ρ 3 + (-1) := f17
  have f18 : (0 : Int) ≤ ρ 23 + -ρ 22 + (-1) := f18
  have f19 : (0 : Int) ≤ -ρ 34 + ρ 22 + (-1) := f19
  obtain ⟨m0, m1, m2, m3, m4, m5, m6, m7, m8, m9, m10, m11, m12, m13, m14, m15, m16, m17, m18, m19, m20, m21, m22, m23, m24, m25, m26, m27, m28, m29, m30, m31, m32, m33, m34, m35, m36, m37, m38, m39, m40, m41, m42, m43, m44, m45, m46, m47, m48, m49, -⟩ := hm
  have m0 : γ 0 1 0 10 = ρ 0 := m0
  have m1 : γ 0 40 0 (ρ 0) = ρ 1 := m1
  have m2 : γ 0 9 (ρ 1) 2 = ρ 2 := m2
  have m3 : γ 0 2 0 6 = ρ 3 := m3
  have m4 : γ 0 2 0 3 = ρ 4 := m4
  have m5 : γ 0 10 (9 * ρ 1) 5 = ρ 5 := m5
  have m6 : γ 0 10 (9 * ρ 1) 12 = ρ 6 := m6
  have m7 : γ 0 10 (9 * ρ 1) 14 = ρ 7 := m7
  have m8 : γ 0 10 (9 * ρ 1) 4 = ρ 8 := m8
  have m9 : γ 0 2 0 7 = ρ 9 := m9
  have m10 : γ 0 10 (9 * ρ 1) 8 = ρ 10 := m10
  have m11 : γ 0 1 0 7 = ρ 11 := m11
  have m12 : γ 0 2 0 4 = ρ 12 := m12
  have m13 : γ 0 2 0 5 = ρ 13 := m13
  have m14 : γ 0 2 0 9 = ρ 14 := m14
  have m15 : γ 0 2 0 13 = ρ 15 := m15
  have m16 : γ 0 2 0 16 = ρ 16 := m16
  have m17 : γ 0 3 0 1 = ρ 17 := m17
  have m18 : γ 0 10 (9 * ρ 1) 7 = ρ 18 := m18
  have m19 : γ 0 10 (9 * ρ 1) 9 = ρ 19 := m19
  have m20 : γ 0 10 (9 * ρ 1) 13 = ρ 20 := m20
  have m21 : γ 0 10 (9 * ρ 1) 15 = ρ 21 := m21
  have m22 : γ 1 2 0 6 = ρ 23 := m22
  have m23 : γ 1 10 (9 * ρ 1) 5 = ρ 24 := m23
  have m24 : γ 1 10 (9 * ρ 1) 12 = ρ 25 := m24
  have m25 : γ 1 10 (9 * ρ 1) 14 = ρ 26 := m25
  have m26 : γ 1 10 (9 * ρ 1) 4 = ρ 27 := m26
  have m27 : γ 1 10 (9 * ρ 1) 8 = ρ 28 := m27
  have m28 : γ 1 2 0 4 = ρ 12 := m28
  have m29 : γ 1 2 0 5 = ρ 29 := m29
  have m30 : γ 1 2 0 9 = ρ 30 := m30
  have m31 : γ 1 2 0 13 = ρ 31 := m31
  have m32 : γ 1 2 0 16 = ρ 32 := m32
  have m33 : γ 1 3 0 1 = ρ 33 := m33
  have m34 : γ 1 10 (9 * ρ 1) 7 = ρ 14 := m34
  have m35 : γ 1 10 (9 * ρ 1) 9 = ρ 34 := m35
  have m36 : γ 1 10 (9 * ρ 1) 13 = ρ 35 := m36
  have m37 : γ 1 10 (9 * ρ 1) 15 = ρ 36 := m37
  have m38 : γ 2 2 0 6 = ρ 37 := m38
  have m39 : γ 2 10 (9 * ρ 1) 5 = ρ 38 := m39
  have m40 : γ 2 10 (9 * ρ 1) 12 = ρ 39 := m40
  have m41 : γ 2 10 (9 * ρ 1) 14 = ρ 40 := m41
  have m42 : γ 2 2 0 4 = ρ 41 := m42
  have m43 : γ 2 2 0 5 = ρ 29 := m43
  have m44 : γ 2 2 0 9 = ρ 42 := m44
  have m45 : γ 2 2 0 13 = ρ 43 := m45
  have m46 : γ 2 2 0 16 = ρ 32 := m46
  have m47 : γ 2 3 0 1 = ρ 44 := m47
  have m48 : γ 2 10 (9 * ρ 1) 13 = ρ 45 := m48
  have m49 : γ 2 10 (9 * ρ 1) 15 = ρ 46 := m49
  obtain ⟨⟨-, c1⟩, c2⟩ := hc
  have c1 : ∀ (G : Nat) (k j : Int), ¬ rMdP m97_ G j → γ 1 G k j = γ 0 G k j := c1
  have c2 : ∀ (G : Nat) (k j : Int), ¬ rMdP m94_ G j → γ 2 G k j = γ 1 G k j := c2
  obtain ⟨l0, -⟩ := hl
  have l0 : sn141 [ρ 0, ρ 1, ρ 2, ρ 23, ρ 4, ρ 24, ρ 25, ρ 26, ρ 27, ρ 12, ρ 29, ρ 30, ρ 31, ρ 32, ρ 33, ρ 35, ρ 36] (γ 1) 0 0 (γ 2) := hS141 _ _ _ _ _ l0
  show sn144 [ρ 0, ρ 1, ρ 2, ρ 3, ρ 4, ρ 5, ρ 6, ρ 7, ρ 8, ρ 9, ρ 10, ρ 11, ρ 12, ρ 13, ρ 14, ρ 15, ρ 16, ρ 17, ρ 18, ρ 19, ρ 20, ρ 21] (γ 0) 0 0 (γ 2)
  have hD : en144 (γ 0) (0, [ρ 22], γ 1) = .inr (0, 0, γ 2) := by
    unfold en144
    refine (if_pos (show (0 : Nat) = 0 by decide)).trans ?_
    refine (zLet_eq (show _ = γ 1 from rfl)).trans ?_
    refine (zLet_eq (show _ = ρ 22 from rfl)).trans ?_
    refine (zLet_eq m0).trans ?_
    refine (zLet_eq m1).trans ?_
    refine (zLet_eq m13).trans ?_
    refine (zLet_eq m35).trans ?_
    refine (if_neg (show ¬ (ρ 22 ≥ 4) by omega)).trans ?_
    refine (zLet_eq (show fn141 [] (γ 1) = (0, 0, γ 2) from l0.symm)).trans ?_
    refine (zLet_eq (show _ = γ 2 from rfl)).trans ?_
    refine (if_neg (show ¬ ((1 : Int) ≤ 0) by omega)).trans ?_
    rfl
  exact zGoo_aend hJ hD
theorem vn144a0_3 {S : Nat → zSpc} (hS102 : ∀ x g o v gz, S 102 x g o v gz → sn102 x g o v gz) (hS109 : ∀ x g o v gz, S 109 x g o v gz → sn109 x g o v gz) (hS114 : ∀ x g o v gz, S 114 x g o v gz → sn114 x g o v gz) (hS133 : ∀ x g o v gz, S 133 x g o v gz → sn133 x g o v gz) (hS141 : ∀ x g o v gz, S 141 x g o v gz → sn141 x g o v gz) (hS143 : ∀ x g o v gz, S 143 x g o v gz → sn143 x g o v gz) {a : List Int} {g : rHp} : ∀ (ρ : Nat → Int) (γ : Nat → rHp), jn144 a g 0 (zAg (zNA a144_ 0) ρ) (γ 1) → zO 22 S a g q144a0_3 ρ γ → zGl (fun i vs g1 => jn144 a g i vs g1) (sn144 a g) q144a0_3 ρ γ := by
  intro ρ γ hJ h
  obtain ⟨ha, hg, hr, hf, hm, hc, hl⟩ := h
  have ha : a = [ρ 0, ρ 1, ρ 2, ρ 3, ρ 4, ρ 5, ρ 6, ρ 7, ρ 8, ρ 9, ρ 10, ρ 11, ρ 12, ρ 13, ρ 14, ρ 15, ρ 16, ρ 17, ρ 18, ρ 19, ρ 20, ρ 21] := ha
  subst ha
  subst hg
  have hJ : jn144 [ρ 0, ρ 1, ρ 2, ρ 3, ρ 4, ρ 5, ρ 6, ρ 7, ρ 8, ρ 9, ρ 10, ρ 11, ρ 12, ρ 13, ρ 14, ρ 15, ρ 16, ρ 17, ρ 18, ρ 19, ρ 20, ρ 21] (γ 0) 0 [ρ 0, ρ 1, ρ 2, ρ 3, ρ 4, ρ 5, ρ 6, ρ 7, ρ 8, ρ 9, ρ 10, ρ 11, ρ 12, ρ 13, ρ 14, ρ 15, ρ 16, ρ 17, ρ 18, ρ 19, ρ 20, ρ 21, ρ 22, ρ 23, ρ 24, ρ 25, ρ 26, ρ 27, ρ 28, ρ 29, ρ 30, ρ 31, ρ 32, ρ 33, ρ 34, ρ 35, ρ 36] (γ 1) := hJ
  obtain ⟨r0, r1, r2, r3, r4, r5, r6, r7, r8, r9, r10, r11, r12, r13, r14, r15, r16, r17, r18, r19, r20, r21, r22, r23, r24, r25, r26, r27, r28, r29, r30, r31, r32, r33, r34, r35, r36, r37, r38, r39, r40, r41, r42, r43, r44, r45, r46, r47, r48, -⟩ := hr
  have r0 : (0 : Int) ≤ ρ 0 ∧ ρ 0 ≤ 60 := r0
  have r1 : (0 : Int) ≤ ρ 1 ∧ ρ 1 ≤ 60 := r1
  have r2 : (0 : Int) ≤ ρ 2 ∧ ρ 2 ≤ 8 := r2
  have r3 : (0 : Int) ≤ ρ 3 ∧ ρ 3 ≤ 2000 := r3
  have r4 : (1 : Int) ≤ ρ 4 ∧ ρ 4 ≤ 2000 := r4
  have r5 : (0 : Int) ≤ ρ 5 ∧ ρ 5 ≤ 4 := r5
  have r6 : (0 : Int) ≤ ρ 6 ∧ ρ 6 ≤ 4 := r6
  have r7 : ((-1) : Int) ≤ ρ 7 ∧ ρ 7 ≤ 7 := r7
  have r8 : (0 : Int) ≤ ρ 8 ∧ ρ 8 ≤ 8 := r8
  have r9 : (0 : Int) ≤ ρ 9 ∧ ρ 9 ≤ 2 := r9
  have r10 : ((-1) : Int) ≤ ρ 10 ∧ ρ 10 ≤ 19 := r10
  have r11 : (0 : Int) ≤ ρ 11 ∧ ρ 11 ≤ 20 := r11
  have r12 : ((-2147483648) : Int) ≤ ρ 12 ∧ ρ 12 ≤ 2147483647 := r12
  have r13 : ((-2147483648) : Int) ≤ ρ 13 ∧ ρ 13 ≤ 2147483647 := r13
  have r14 : ((-2147483648) : Int) ≤ ρ 14 ∧ ρ 14 ≤ 2147483647 := r14
  have r15 : (0 : Int) ≤ ρ 15 ∧ ρ 15 ≤ 8 := r15
  have r16 : (0 : Int) ≤ ρ 16 ∧ ρ 16 ≤ 32 := r16
  have r17 : (0 : Int) ≤ ρ 17 ∧ ρ 17 ≤ 5120 := r17
  have r18 : ((-2147483648) : Int) ≤ ρ 18 ∧ ρ 18 ≤ 2147483647 := r18
  have r19 : ((-1) : Int) ≤ ρ 19 ∧ ρ 19 ≤ 3 := r19
  have r20 : (0 : Int) ≤ ρ 20 ∧ ρ 20 ≤ 3 := r20
  have r21 : ((-2147483648) : Int) ≤ ρ 21 ∧ ρ 21 ≤ 2147483647 := r21
  have r22 : (0 : Int) ≤ ρ 22 ∧ ρ 22 ≤ 3 := r22
  have r23 : (1 : Int) ≤ ρ 23 ∧ ρ 23 ≤ 2000 := r23
  have r24 : (0 : Int) ≤ ρ 24 ∧ ρ 24 ≤ 4 := r24
  have r25 : (0 : Int) ≤ ρ 25 ∧ ρ 25 ≤ 4 := r25
  have r26 : ((-1) : Int) ≤ ρ 26 ∧ ρ 26 ≤ 7 := r26
  have r27 : (0 : Int) ≤ ρ 27 ∧ ρ 27 ≤ 0 := r27
  have r28 : ((-1) : Int) ≤ ρ 28 ∧ ρ 28 ≤ (-1) := r28
  have r29 : ((-2147483648) : Int) ≤ ρ 29 ∧ ρ 29 ≤ 2147483647 := r29
  have r30 : ((-2147483648) : Int) ≤ ρ 30 ∧ ρ 30 ≤ 2147483647 := r30
  have r31 : (0 : Int) ≤ ρ 31 ∧ ρ 31 ≤ 8 := r31
  have r32 : (0 : Int) ≤ ρ 32 ∧ ρ 32 ≤ 32 := r32
  have r33 : (0 : Int) ≤ ρ 33 ∧ ρ 33 ≤ 5120 := r33
  have r34 : (0 : Int) ≤ ρ 34 ∧ ρ 34 ≤ 3 := r34
  have r35 : (0 : Int) ≤ ρ 35 ∧ ρ 35 ≤ 3 := r35
  have r36 : ((-2147483648) : Int) ≤ ρ 36 ∧ ρ 36 ≤ 2147483647 := r36
  have r37 : (1 : Int) ≤ ρ 37 ∧ ρ 37 ≤ 2000 := r37
  have r38 : (1 : Int) ≤ ρ 38 ∧ ρ 38 ≤ 4 := r38
  have r39 : (0 : Int) ≤ ρ 39 ∧ ρ 39 ≤ 4 := r39
  have r40 : ((-1) : Int) ≤ ρ 40 ∧ ρ 40 ≤ 7 := r40
  have r41 : ((-2147483648) : Int) ≤ ρ 41 ∧ ρ 41 ≤ 2147483647 := r41
  have r42 : ((-2147483648) : Int) ≤ ρ 42 ∧ ρ 42 ≤ 2147483647 := r42
  have r43 : (0 : Int) ≤ ρ 43 ∧ ρ 43 ≤ 8 := r43
  have r44 : (0 : Int) ≤ ρ 44 ∧ ρ 44 ≤ 32 := r44
  have r45 : (0 : Int) ≤ ρ 45 ∧ ρ 45 ≤ 5120 := r45
  have r46 : (0 : Int) ≤ ρ 46 ∧ ρ 46 ≤ 3 := r46
  have r47 : ((-2147483648) : Int) ≤ ρ 47 ∧ ρ 47 ≤ 2147483647 := r47
  have r48 : (0 : Int) ≤ ρ 48 ∧ ρ 48 ≤ 2000 := r48
  obtain ⟨f0, f1, f2, f3, f4, f5, f6, f7, f8, f9, f10, f11, f12, f13, f14, f15, f16, f17, f18, f19, f20, f21, -⟩ := hf
  have f0 : (0 : Int) ≤ ρ 48 + -ρ 37 := f0
  have f1 : (0 : Int) ≤ ρ 48 + -ρ 4 := f1
  have f2 : (0 : Int) ≤ 3 * ρ 26 + -ρ 25 + 4 := f2
  have f3 : (0 : Int) ≤ ρ 37 + -ρ 23 + (-1) := f3
  have f4 : (0 : Int) ≤ ρ 38 + -ρ 24 := f4
  have f5 : (0 : Int) ≤ ρ 39 + -ρ 25 := f5
  have f6 : (0 : Int) ≤ ρ 43 + -ρ 31 := f6
  have f7 : (0 : Int) ≤ ρ 44 + -ρ 32 := f7
  have f8 : (0 : Int) ≤ ρ 45 + -ρ 33 := f8
  have f9 : (0 : Int) ≤ -ρ 23 + ρ 4 + (-1) := f9
  have f10 : (0 : Int) ≤ -ρ 38 + ρ 24 + 1 := f10
  have f11 : (0 : Int) ≤ 3 * ρ 40 + -ρ 39 + 4 := f11
  have f12 : (0 : Int) ≤ -ρ 24 + ρ 22 := f12
  have f13 : (0 : Int) ≤ ρ 4 + -ρ 3 + (-1) := f13
  have f14 : (0 : Int) ≤ -ρ 23 + ρ 4 := f14
  have f15 : (0 : Int) ≤ -ρ 22 + ρ 4 + (-1) := f15
  have f16 : (0 : Int) ≤ ρ 33 + -ρ 17 := f16
  have f17 : (0 : Int) ≤ ρ 32 + -ρ 16 := f17
  have f18 : (0 : Int) ≤ ρ 31 + -ρ 15 := f18
  have f19 : (0 : Int) ≤ ρ 23 + -ρ 3 + (-1) := f19
  have f20 : (0 : Int) ≤ ρ 23 + -ρ 22 + (-1) := f20
  have f21 : (0 : Int) ≤ -ρ 34 + ρ 22 + (-1) := f21
  obtain ⟨m0, m1, m2, m3, m4, m5, m6, m7, m8, m9, m10, m11, m12, m13, m14, m15, m16, m17, m18, m19, m20, m21, m22, m23, m24, m25, m26, m27, m28, m29, m30, m31, m32, m33, m34, m35, m36, m37, m38, m39, m40, m41, m42, m43, m44, m45, m46, m47, m48, m49, m50, m51, -⟩ := hm
  have m0 : γ 0 1 0 10 = ρ 0 := m0
  have m1 : γ 0 40 0 (ρ 0) = ρ 1 := m1
  have m2 : γ 0 9 (ρ 1) 2 = ρ 2 := m2
  have m3 : γ 0 2 0 6 = ρ 3 := m3
  have m4 : γ 0 2 0 3 = ρ 4 := m4
  have m5 : γ 0 10 (9 * ρ 1) 5 = ρ 5 := m5
  have m6 : γ 0 10 (9 * ρ 1) 12 = ρ 6 := m6
  have m7 : γ 0 10 (9 * ρ 1) 14 = ρ 7 := m7
  have m8 : γ 0 10 (9 * ρ 1) 4 = ρ 8 := m8
  have m9 : γ 0 2 0 7 = ρ 9 := m9
  have m10 : γ 0 10 (9 * ρ 1) 8 = ρ 10 := m10
  have m11 : γ 0 1 0 7 = ρ 11 := m11
  have m12 : γ 0 2 0 4 = ρ 12 := m12
  have m13 : γ 0 2 0 5 = ρ 13 := m13
  have m14 : γ 0 2 0 9 = ρ 14 := m14
  have m15 : γ 0 2 0 13 = ρ 15 := m15
  have m16 : γ 0 2 0 16 = ρ 16 := m16
  have m17 : γ 0 3 0 1 = ρ 17 := m17
  have m18 : γ 0 10 (9 * ρ 1) 7 = ρ 18 := m18
  have m19 : γ 0 10 (9 * ρ 1) 9 = ρ 19 := m19
  have m20 : γ 0 10 (9 * ρ 1) 13 = ρ 20 := m20
  have m21 : γ 0 10 (9 * ρ 1) 15 = ρ 21 := m21
  have m22 : γ 1 2 0 6 = ρ 23 := m22
  have m23 : γ 1 10 (9 * ρ 1) 5 = ρ 24 := m23
  have m24 : γ 1 10 (9 * ρ 1) 12 = ρ 25 := m24
  have m25 : γ 1 10 (9 * ρ 1) 14 = ρ 26 := m25
  have m26 : γ 1 10 (9 * ρ 1) 4 = ρ 27 := m26
  have m27 : γ 1 10 (9 * ρ 1) 8 = ρ 28 := m27
  have m28 : γ 1 2 0 4 = ρ 12 := m28
  have m29 : γ 1 2 0 5 = ρ 29 := m29
  have m30 : γ 1 2 0 9 = ρ 30 := m30
  have m31 : γ 1 2 0 13 = ρ 31 := m31
  have m32 : γ 1 2 0 16 = ρ 32 := m32
  have m33 : γ 1 3 0 1 = ρ 33 := m33
  have m34 : γ 1 10 (9 * ρ 1) 7 = ρ 14 := m34
  have m35 : γ 1 10 (9 * ρ 1) 9 = ρ 34 := m35
  have m36 : γ 1 10 (9 * ρ 1) 13 = ρ 35 := m36
  have m37 : γ 1 10 (9 * ρ 1) 15 = ρ 36 := m37
  have m38 : γ 2 2 0 6 = ρ 37 := m38
  have m39 : γ 2 10 (9 * ρ 1) 5 = ρ 38 := m39
  have m40 : γ 2 10 (9 * ρ 1) 12 = ρ 39 := m40
  have m41 : γ 2 10 (9 * ρ 1) 14 = ρ 40 := m41
  have m42 : γ 2 2 0 4 = ρ 12 := m42
  have m43 : γ 2 2 0 5 = ρ 41 := m43
  have m44 : γ 2 2 0 9 = ρ 42 := m44
  have m45 : γ 2 2 0 13 = ρ 43 := m45
  have m46 : γ 2 2 0 16 = ρ 44 := m46
  have m47 : γ 2 3 0 1 = ρ 45 := m47
  have m48 : γ 2 10 (9 * ρ 1) 13 = ρ 46 := m48
  have m49 : γ 2 10 (9 * ρ 1) 15 = ρ 47 := m49
  have m50 : γ 3 2 0 6 = ρ 48 := m50
  have m51 : γ 4 2 0 4 = ρ 48 := m51
  obtain ⟨⟨⟨⟨-, c1⟩, c2⟩, c3⟩, c4⟩ := hc
  have c1 : ∀ (G : Nat) (k j : Int), ¬ rMdP m97_ G j → γ 1 G k j = γ 0 G k j := c1
  have c2 : ∀ (G : Nat) (k j : Int), ¬ rMdP m94_ G j → γ 2 G k j = γ 1 G k j := c2
  have c3 : ∀ (G : Nat) (k j : Int), ¬ rMdP m77_ G j → γ 3 G k j = γ 2 G k j := c3
  have c4 : ∀ (G : Nat) (k j : Int), ¬ rMdP m72_ G j → γ 4 G k j = γ 3 G k j := c4
  obtain ⟨l0, l1, l2, -⟩ := hl
  have l0 : sn141 [ρ 0, ρ 1, ρ 2, ρ 23, ρ 4, ρ 24, ρ 25, ρ 26, ρ 27, ρ 12, ρ 29, ρ 30, ρ 31, ρ 32, ρ 33, ρ 35, ρ 36] (γ 1) 0 1 (γ 2) := hS141 _ _ _ _ _ l0
  have l1 : sn114 [ρ 37, ρ 4] (γ 2) 0 (-1) (γ 3) := hS114 _ _ _ _ _ l1
  have l2 : sn109 [ρ 48, ρ 12] (γ 3) 0 0 (γ 4) := hS109 _ _ _ _ _ l2
  show sn144 [ρ 0, ρ 1, ρ 2, ρ 3, ρ 4, ρ 5, ρ 6, ρ 7, ρ 8, ρ 9, ρ 10, ρ 11, ρ 12, ρ 13, ρ 14, ρ 15, ρ 16, ρ 17, ρ 18, ρ 19, ρ 20, ρ 21] (γ 0) 0 0 (γ 4)
  have hD : en144 (γ 0) (0, [ρ 22], γ 1) = .inr (0, 0, γ 4) := by
    unfold en144
    refine (if_pos (show (0 : Nat) = 0 by decide)).trans ?_
    refine (zLet_eq (show _ = γ 1 from rfl)).trans ?_
    refine (zLet_eq (show _ = ρ 22 from rfl)).trans ?_
    refine (zLet_eq m0).trans ?_
    refine (zLet_eq m1).trans ?_
    refine (zLet_eq m13).trans ?_
    refine (zLet_eq m35).trans ?_
    refine (if_neg (show ¬ (ρ 22 ≥ 4) by omega)).trans ?_
    refine (zLet_eq (show fn141 [] (γ 1) = (0, 1, γ 2) from l0.symm)).trans ?_
    refine (zLet_eq (show _ = γ 2 from rfl)).trans ?_
    refine (if_pos (show (1 : Int) ≤ 1 by omega)).trans ?_
    refine (if_pos (show ρ 34 ≥ 0 by omega)).trans ?_
    refine (zLet_eq (show fn114 [] (γ 2) = (0, (-1), γ 3) from l1.symm)).trans ?_
    refine (zLet_eq (show _ = γ 3 from rfl)).trans ?_
    refine (if_neg (show ¬ ((0 : Int) ≤ (-1)) by omega)).trans ?_
    refine (zLet_eq m50).trans ?_
    refine (zLet_eq (show fn109 [ρ 48] (γ 3) = (0, 0, γ 4) from l2.symm)).trans ?_
    refine (zLet_eq (show _ = γ 4 from rfl)).trans ?_
    rfl
  exact zGoo_aend hJ hD
theorem vn144a0_4 {S : Nat → zSpc} (hS102 : ∀ x g o v gz, S 102 x g o v gz → sn102 x g o v gz) (hS109 : ∀ x g o v gz, S 109 x g o v gz → sn109 x g o v gz) (hS114 : ∀ x g o v gz, S 114 x g o v gz → sn114 x g o v gz) (hS133 : ∀ x g o v gz, S 133 x g o v gz → sn133 x g o v gz) (hS141 : ∀ x g o v gz, S 141 x g o v gz → sn141 x g o v gz) (hS143 : ∀ x g o v gz, S 143 x g o v gz → sn143 x g o v gz) {a : List Int} {g : rHp} : ∀ (ρ : Nat → Int) (γ : Nat → rHp), jn144 a g 0 (zAg (zNA a144_ 0) ρ) (γ 1) → zO 22 S a g q144a0_4 ρ γ → zGl (fun i vs g1 => jn144 a g i vs g1) (sn144 a g) q144a0_4 ρ γ := by
  intro ρ γ hJ h
  obtain ⟨ha, hg, hr, hf, hm, hc, hl⟩ := h
  have ha : a = [ρ 0, ρ 1, ρ 2, ρ 3, ρ 4, ρ 5, ρ 6, ρ 7, ρ 8, ρ 9, ρ 10, ρ 11, ρ 12, ρ 13, ρ 14, ρ 15, ρ 16, ρ 17, ρ 18, ρ 19, ρ 20, ρ 21] := ha
  subst ha
  subst hg
  have hJ : jn144 [ρ 0, ρ 1, ρ 2, ρ 3, ρ 4, ρ 5, ρ 6, ρ 7, ρ 8, ρ 9, ρ 10, ρ 11, ρ 12, ρ 13, ρ 14, ρ 15, ρ 16, ρ 17, ρ 18, ρ 19, ρ 20, ρ 21] (γ 0) 0 [ρ 0, ρ 1, ρ 2, ρ 3, ρ 4, ρ 5, ρ 6, ρ 7, ρ 8, ρ 9, ρ 10, ρ 11, ρ 12, ρ 13, ρ 14, ρ 15, ρ 16, ρ 17, ρ 18, ρ 19, ρ 20, ρ 21, ρ 22, ρ 23, ρ 24, ρ 25, ρ 26, ρ 27, ρ 28, ρ 29, ρ 30, ρ 31, ρ 32, ρ 33, ρ 34, ρ 35, ρ 36] (γ 1) := hJ
  obtain ⟨r0, r1, r2, r3, r4, r5, r6, r7, r8, r9, r10, r11, r12, r13, r14, r15, r16, r17, r18, r19, r20, r21, r22, r23, r24, r25, r26, r27, r28, r29, r30, r31, r32, r33, r34, r35, r36, r37, r38, r39, r40, r41, r42, r43, r44, r45, r46, r47, r48, r49, r50, r51, -⟩ := hr
  have r0 : (0 : Int) ≤ ρ 0 ∧ ρ 0 ≤ 60 := r0
  have r1 : (0 : Int) ≤ ρ 1 ∧ ρ 1 ≤ 60 := r1
  have r2 : (0 : Int) ≤ ρ 2 ∧ ρ 2 ≤ 8 := r2
  have r3 : (0 : Int) ≤ ρ 3 ∧ ρ 3 ≤ 2000 := r3
  have r4 : (1 : Int) ≤ ρ 4 ∧ ρ 4 ≤ 2000 := r4
  have r5 : (0 : Int) ≤ ρ 5 ∧ ρ 5 ≤ 4 := r5
  have r6 : (0 : Int) ≤ ρ 6 ∧ ρ 6 ≤ 4 := r6
  have r7 : ((-1) : Int) ≤ ρ 7 ∧ ρ 7 ≤ 7 := r7
  have r8 : (0 : Int) ≤ ρ 8 ∧ ρ 8 ≤ 8 := r8
  have r9 : (0 : Int) ≤ ρ 9 ∧ ρ 9 ≤ 2 := r9
  have r10 : ((-1) : Int) ≤ ρ 10 ∧ ρ 10 ≤ 19 := r10
  have r11 : (0 : Int) ≤ ρ 11 ∧ ρ 11 ≤ 20 := r11
  have r12 : ((-2147483648) : Int) ≤ ρ 12 ∧ ρ 12 ≤ 2147483647 := r12
  have r13 : ((-2147483648) : Int) ≤ ρ 13 ∧ ρ 13 ≤ 2147483647 := r13
  have r14 : ((-2147483648) : Int) ≤ ρ 14 ∧ ρ 14 ≤ 2147483647 := r14
  have r15 : (0 : Int) ≤ ρ 15 ∧ ρ 15 ≤ 8 := r15
  have r16 : (0 : Int) ≤ ρ 16 ∧ ρ 16 ≤ 32 := r16
  have r17 : (0 : Int) ≤ ρ 17 ∧ ρ 17 ≤ 5120 := r17
  have r18 : ((-2147483648) : Int) ≤ ρ 18 ∧ ρ 18 ≤ 2147483647 := r18
  have r19 : ((-1) : Int) ≤ ρ 19 ∧ ρ 19 ≤ 3 := r19
  have r20 : (0 : Int) ≤ ρ 20 ∧ ρ 20 ≤ 3 := r20
  have r21 : ((-2147483648) : Int) ≤ ρ 21 ∧ ρ 21 ≤ 2147483647 := r21
  have r22 : (0 : Int) ≤ ρ 22 ∧ ρ 22 ≤ 3 := r22
  have r23 : (1 : Int) ≤ ρ 23 ∧ ρ 23 ≤ 2000 := r23
  have r24 : (0 : Int) ≤ ρ 24 ∧ ρ 24 ≤ 4 := r24
  have r25 : (0 : Int) ≤ ρ 25 ∧ ρ 25 ≤ 4 := r25
  have r26 : ((-1) : Int) ≤ ρ 26 ∧ ρ 26 ≤ 7 := r26
  have r27 : (0 : Int) ≤ ρ 27 ∧ ρ 27 ≤ 0 := r27
  have r28 : ((-1) : Int) ≤ ρ 28 ∧ ρ 28 ≤ (-1) := r28
  have r29 : ((-2147483648) : Int) ≤ ρ 29 ∧ ρ 29 ≤ 2147483647 := r29
  have r30 : ((-2147483648) : Int) ≤ ρ 30 ∧ ρ 30 ≤ 2147483647 := r30
  have r31 : (0 : Int) ≤ ρ 31 ∧ ρ 31 ≤ 8 := r31
  have r32 : (0 : Int) ≤ ρ 32 ∧ ρ 32 ≤ 32 := r32
  have r33 : (0 : Int) ≤ ρ 33 ∧ ρ 33 ≤ 5120 := r33
  have r34 : (0 : Int) ≤ ρ 34 ∧ ρ 34 ≤ 3 := r34
  have r35 : (0 : Int) ≤ ρ 35 ∧ ρ 35 ≤ 3 := r35
  have r36 : ((-2147483648) : Int) ≤ ρ 36 ∧ ρ 36 ≤ 2147483647 := r36
  have r37 : (1 : Int) ≤ ρ 37 ∧ ρ 37 ≤ 2000 := r37
  have r38 : (1 : Int) ≤ ρ 38 ∧ ρ 38 ≤ 4 := r38
  have r39 : (0 : Int) ≤ ρ 39 ∧ ρ 39 ≤ 4 := r39
  have r40 : ((-1) : Int) ≤ ρ 40 ∧ ρ 40 ≤ 7 := r40
  have r41 : ((-2147483648) : Int) ≤ ρ 41 ∧ ρ 41 ≤ 2147483647 := r41
  have r42 : ((-2147483648) : Int) ≤ ρ 42 ∧ ρ 42 ≤ 2147483647 := r42
  have r43 : (0 : Int) ≤ ρ 43 ∧ ρ 43 ≤ 8 := r43
  have r44 : (0 : Int) ≤ ρ 44 ∧ ρ 44 ≤ 32 := r44
  have r45 : (0 : Int) ≤ ρ 45 ∧ ρ 45 ≤ 5120 := r45
  have r46 : (0 : Int) ≤ ρ 46 ∧ ρ 46 ≤ 3 := r46
  have r47 : ((-2147483648) : Int) ≤ ρ 47 ∧ ρ 47 ≤ 2147483647 := r47
  have r48 : (41 : Int) ≤ ρ 48 ∧ ρ 48 ≤ 41 := r48
  have r49 : (0 : Int) ≤ ρ 49 ∧ ρ 49 ≤ 2000 := r49
  have r50 : ((-1) : Int) ≤ ρ 50 ∧ ρ 50 ≤ (-1) := r50
  have r51 : (0 : Int) ≤ ρ 51 ∧ ρ 51 ≤ 20 := r51
  obtain ⟨f0, f1, f2, f3, f4, f5, f6, f7, f8, f9, f10, f11, f12, f13, f14, f15, f16, f17, f18, f19, f20, f21, f22, f23, -⟩ := hf
  have f0 : (0 : Int) ≤ ρ 51 + -ρ 11 := f0
  have f1 : (0 : Int) ≤ ρ 49 + -ρ 37 := f1
  have f2 : (0 : Int) ≤ -ρ 49 + ρ 4 + (-1) := f2
  have f3 : (0 : Int) ≤ -ρ 37 + ρ 4 + (-1) := f3
  have f4 : (0 : Int) ≤ 3 * ρ 26 + -ρ 25 + 4 := f4
  have f5 : (0 : Int) ≤ ρ 37 + -ρ 23 + (-1) := f5
  have f6 : (0 : Int) ≤ ρ 38 + -ρ 24 := f6
  have f7 : (0 : Int) ≤ ρ 39 + -ρ 25 := f7
  have f8 : (0 : Int) ≤ ρ 43 + -ρ 31 := f8
  have f9 : (0 : Int) ≤ ρ 44 + -ρ 32 := f9
  have f10 : (0 : Int) ≤ ρ 45 + -ρ 33 := f10
  have f11 : (0 : Int) ≤ -ρ 23 + ρ 4 + (-1) := f11
  have f12 : (0 : Int) ≤ -ρ 38 + ρ 24 + 1 := f12
  have f13 : (0 : Int) ≤ 3 * ρ 40 + -ρ 39 + 4 := f13
  have f14 : (0 : Int) ≤ -ρ 24 + ρ 22 := f14
  have f15 : (0 : Int) ≤ ρ 4 + -ρ 3 + (-1) := f15
  have f16 : (0 : Int) ≤ -ρ 23 + ρ 4 := f16
  have f17 : (0 : Int) ≤ -ρ 22 + ρ 4 + (-1) := f17
  have f18 : (0 : Int) ≤ ρ 33 + -ρ 17 := f18
  have f19 : (0 : Int) ≤ ρ 32 + -ρ 16 := f19
  have f20 : (0 : Int) ≤ ρ 31 + -ρ 15 := f20
  have f21 : (0 : Int) ≤ ρ 23 + -ρ 3 + (-1) := f21
  have f22 : (0 : Int) ≤ ρ 23 + -ρ 22 + (-1) := f22
  have f23 : (0 : Int) ≤ -ρ 34 + ρ 22 + (-1) := f23
  obtain ⟨m0, m1, m2, m3, m4, m5, m6, m7, m8, m9, m10, m11, m12, m13, m14, m15, m16, m17, m18, m19, m20, m21, m22, m23, m24, m25, m26, m27, m28, m29, m30, m31, m32, m33, m34, m35, m36, m37, m38, m39, m40, m41, m42, m43, m44, m45, m46, m47, m48, m49, m50, m51, m52, m53, -⟩ := hm
  have m0 : γ 0 1 0 10 = ρ 0 := m0
  have m1 : γ 0 40 0 (ρ 0) = ρ 1 := m1
  have m2 : γ 0 9 (ρ 1) 2 = ρ 2 := m2
  have m3 : γ 0 2 0 6 = ρ 3 := m3
  have m4 : γ 0 2 0 3 = ρ 4 := m4
  have m5 : γ 0 10 (9 * ρ 1) 5 = ρ 5 := m5
  have m6 : γ 0 10 (9 * ρ 1) 12 = ρ 6 := m6
  have m7 : γ 0 10 (9 * ρ 1) 14 = ρ 7 := m7
  have m8 : γ 0 10 (9 * ρ 1) 4 = ρ 8 := m8
  have m9 : γ 0 2 0 7 = ρ 9 := m9
  have m10 : γ 0 10 (9 * ρ 1) 8 = ρ 10 := m10
  have m11 : γ 0 1 0 7 = ρ 11 := m11
  have m12 : γ 0 2 0 4 = ρ 12 := m12
  have m13 : γ 0 2 0 5 = ρ 13 := m13
  have m14 : γ 0 2 0 9 = ρ 14 := m14
  have m15 : γ 0 2 0 13 = ρ 15 := m15
  have m16 : γ 0 2 0 16 = ρ 16 := m16
  have m17 : γ 0 3 0 1 = ρ 17 := m17
  have m18 : γ 0 10 (9 * ρ 1) 7 = ρ 18 := m18
  have m19 : γ 0 10 (9 * ρ 1) 9 = ρ 19 := m19
  have m20 : γ 0 10 (9 * ρ 1) 13 = ρ 20 := m20
  have m21 : γ 0 10 (9 * ρ 1) 15 = ρ 21 := m21
  have m22 : γ 1 2 0 6 = ρ 23 := m22
  have m23 : γ 1 10 (9 * ρ 1) 5 = ρ 24 := m23
  have m24 : γ 1 10 (9 * ρ 1) 12 = ρ 25 := m24
  have m25 : γ 1 10 (9 * ρ 1) 14 = ρ 26 := m25
  have m26 : γ 1 10 (9 * ρ 1) 4 = ρ 27 := m26
  have m27 : γ 1 10 (9 * ρ 1) 8 = ρ 28 := m27
  have m28 : γ 1 2 0 4 = ρ 12 := m28
  have m29 : γ 1 2 0 5 = ρ 29 := m29
  have m30 : γ 1 2 0 9 = ρ 30 := m30
  have m31 : γ 1 2 0 13 = ρ 31 := m31
  have m32 : γ 1 2 0 16 = ρ 32 := m32
  have m33 : γ 1 3 0 1 = ρ 33 := m33
  have m34 : γ 1 10 (9 * ρ 1) 7 = ρ 14 := m34
  have m35 : γ 1 10 (9 * ρ 1) 9 = ρ 34 := m35
  have m36 : γ 1 10 (9 * ρ 1) 13 = ρ 35 := m36
  have m37 : γ 1 10 (9 * ρ 1) 15 = ρ 36 := m37
  have m38 : γ 2 2 0 6 = ρ 37 := m38
  have m39 : γ 2 10 (9 * ρ 1) 5 = ρ 38 := m39
  have m40 : γ 2 10 (9 * ρ 1) 12 = ρ 39 := m40
  have m41 : γ 2 10 (9 * ρ 1) 14 = ρ 40 := m41
  have m42 : γ 2 2 0 4 = ρ 12 := m42
  have m43 : γ 2 2 0 5 = ρ 41 := m43
  have m44 : γ 2 2 0 9 = ρ 42 := m44
  have m45 : γ 2 2 0 13 = ρ 43 := m45
  have m46 : γ 2 2 0 16 = ρ 44 := m46
  have m47 : γ 2 3 0 1 = ρ 45 := m47
  have m48 : γ 2 10 (9 * ρ 1) 13 = ρ 46 := m48
  have m49 : γ 2 10 (9 * ρ 1) 15 = ρ 47 := m49
  have m50 : γ 3 2 0 6 = ρ 49 := m50
  have m51 : γ 5 10 (9 * ρ 1) 8 = ρ 50 := m51
  have m52 : γ 5 1 0 7 = ρ 51 := m52
  have m53 : γ 5 2 0 4 = ρ 14 := m53
  obtain ⟨⟨⟨⟨⟨-, c1⟩, c2⟩, c3⟩, c4⟩, c5⟩ := hc
  have c1 : ∀ (G : Nat) (k j : Int), ¬ rMdP m97_ G j → γ 1 G k j = γ 0 G k j := c1
  have c2 : ∀ (G : Nat) (k j : Int), ¬ rMdP m94_ G j → γ 2 G k j = γ 1 G k j := c2
  have c3 : ∀ (G : Nat) (k j : Int), ¬ rMdP m77_ G j → γ 3 G k j = γ 2 G k j := c3
  have c4 : γ 4 = rUp (γ 3) 2 0 6 (ρ 49 + 1) := c4
  have c5 : ∀ (G : Nat) (k j : Int), ¬ rMdP m87_ G j → γ 5 G k j = γ 4 G k j := c5
  obtain ⟨l0, l1, l2, -⟩ := hl
  have l0 : sn141 [ρ 0, ρ 1, ρ 2, ρ 23, ρ 4, ρ 24, ρ 25, ρ 26, ρ 27, ρ 12, ρ 29, ρ 30, ρ 31, ρ 32, ρ 33, ρ 35, ρ 36] (γ 1) 0 1 (γ 2) := hS141 _ _ _ _ _ l0
  have l1 : sn114 [ρ 37, ρ 4] (γ 2) 0 (ρ 48) (γ 3) := hS114 _ _ _ _ _ l1
  have l2 : sn133 [ρ 0, ρ 1, ρ 2, ρ 9, ρ 28, ρ 11, ρ 12, ρ 38, ρ 14] (γ 4) 0 0 (γ 5) := hS133 _ _ _ _ _ l2
  show sn144 [ρ 0, ρ 1, ρ 2, ρ 3, ρ 4, ρ 5, ρ 6, ρ 7, ρ 8, ρ 9, ρ 10, ρ 11, ρ 12, ρ 13, ρ 14, ρ 15, ρ 16, ρ 17, ρ 18, ρ 19, ρ 20, ρ 21] (γ 0) 0 0 (γ 5)
  have hD : en144 (γ 0) (0, [ρ 22], γ 1) = .inr (0, 0, γ 5) := by
    unfold en144
    refine (if_pos (show (0 : Nat) = 0 by decide)).trans ?_
    refine (zLet_eq (show _ = γ 1 from rfl)).trans ?_
    refine (zLet_eq (show _ = ρ 22 from rfl)).trans ?_
    refine (zLet_eq m0).trans ?_
    refine (zLet_eq m1).trans ?_
    refine (zLet_eq m13).trans ?_
    refine (zLet_eq m35).trans ?_
    refine (if_neg (show ¬ (ρ 22 ≥ 4) by omega)).trans ?_
    refine (zLet_eq (show fn141 [] (γ 1) = (0, 1, γ 2) from l0.symm)).trans ?_
    refine (zLet_eq (show _ = γ 2 from rfl)).trans ?_
    refine (if_pos (show (1 : Int) ≤ 1 by omega)).trans ?_
    refine (if_pos (show ρ 34 ≥ 0 by omega)).trans ?_
    refine (zLet_eq (show fn114 [] (γ 2) = (0, ρ 48, γ 3) from l1.symm)).trans ?_
    refine (zLet_eq (show _ = γ 3 from rfl)).trans ?_
    refine (if_pos (show (0 : Int) ≤ ρ 48 by omega)).trans ?_
    refine (zLet_eq (show _ = ρ 48 from rfl)).trans ?_
    refine (zLet_eq m50).trans ?_
    refine (if_pos (show ρ 48 = 41 by omega)).trans ?_
    refine (zLet_eq c4.symm).trans ?_
    refine (zLet_eq (show fn133 [] (γ 4) = (0, 0, γ 5) from l2.symm)).trans ?_
    refine (zLet_eq (show _ = γ 5 from rfl)).trans ?_
    refine (if_neg (show ¬ ((1 : Int) ≤ 0) by omega)).trans ?_
    rfl
  exact zGoo_aend hJ hD
theorem vn144a0_5 {S : Nat → zSpc} (hS102 : ∀ x g o v gz, S 102 x g o v gz → sn102 x g o v gz) (hS109 : ∀ x g o v gz, S 109 x g o v gz → sn109 x g o v gz) (hS114 : ∀ x g o v gz, S 114 x g o v gz → sn114 x g o v gz) (hS133 : ∀ x g o v gz, S 133 x g o v gz → sn133 x g o v gz) (hS141 : ∀ x g o v gz, S 141 x g o v gz → sn141 x g o v gz) (hS143 : ∀ x g o v gz, S 143 x g o v gz → sn143 x g o v gz) {a : List Int} {g : rHp} : ∀ (ρ : Nat → Int) (γ : Nat → rHp), jn144 a g 0 (zAg (zNA a144_ 0) ρ) (γ 1) → zO 22 S a g q144a0_5 ρ γ → zGl (fun i vs g1 => jn144 a g i vs g1) (sn144 a g) q144a0_5 ρ γ := by
  intro ρ γ hJ h
  obtain ⟨ha, hg, hr, hf, hm, hc, hl⟩ := h
  have ha : a = [ρ 0, ρ 1, ρ 2, ρ 3, ρ 4, ρ 5, ρ 6, ρ 7, ρ 8, ρ 9, ρ 10, ρ 11, ρ 12, ρ 13, ρ 14, ρ 15, ρ 16, ρ 17, ρ 18, ρ 19, ρ 20, ρ 21] := ha
  subst ha
  subst hg
  have hJ : jn144 [ρ 0, ρ 1, ρ 2, ρ 3, ρ 4, ρ 5, ρ 6, ρ 7, ρ 8, ρ 9, ρ 10, ρ 11, ρ 12, ρ 13, ρ 14, ρ 15, ρ 16, ρ 17, ρ 18, ρ 19, ρ 20, ρ 21] (γ 0) 0 [ρ 0, ρ 1, ρ 2, ρ 3, ρ 4, ρ 5, ρ 6, ρ 7, ρ 8, ρ 9, ρ 10, ρ 11, ρ 12, ρ 13, ρ 14, ρ 15, ρ 16, ρ 17, ρ 18, ρ 19, ρ 20, ρ 21, ρ 22, ρ 23, ρ 24, ρ 25, ρ 26, ρ 27, ρ 28, ρ 29, ρ 30, ρ 31, ρ 32, ρ 33, ρ 34, ρ 35, ρ 36] (γ 1) := hJ
  obtain ⟨r0, r1, r2, r3, r4, r5, r6, r7, r8, r9, r10, r11, r12, r13, r14, r15, r16, r17, r18, r19, r20, r21, r22, r23, r24, r25, r26, r27, r28, r29, r30, r31, r32, r33, r34, r35, r36, r37, r38, r39, r40, r41, r42, r43, r44, r45, r46, r47, r48, r49, r50, -⟩ := hr
  have r0 : (0 : Int) ≤ ρ 0 ∧ ρ 0 ≤ 60 := r0
  have r1 : (0 : Int) ≤ ρ 1 ∧ ρ 1 ≤ 60 := r1
  have r2 : (0 : Int) ≤ ρ 2 ∧ ρ 2 ≤ 8 := r2
  have r3 : (0 : Int) ≤ ρ 3 ∧ ρ 3 ≤ 2000 := r3
  have r4 : (1 : Int) ≤ ρ 4 ∧ ρ 4 ≤ 2000 := r4
  have r5 : (0 : Int) ≤ ρ 5 ∧ ρ 5 ≤ 4 := r5
  have r6 : (0 : Int) ≤ ρ 6 ∧ ρ 6 ≤ 4 := r6
  have r7 : ((-1) : Int) ≤ ρ 7 ∧ ρ 7 ≤ 7 := r7
  have r8 : (0 : Int) ≤ ρ 8 ∧ ρ 8 ≤ 8 := r8
  have r9 : (1 : Int) ≤ ρ 9 ∧ ρ 9 ≤ 1 := r9
  have r10 : ((-1) : Int) ≤ ρ 10 ∧ ρ 10 ≤ 19 := r10
  have r11 : (0 : Int) ≤ ρ 11 ∧ ρ 11 ≤ 20 := r11
  have r12 : ((-2147483648) : Int) ≤ ρ 12 ∧ ρ 12 ≤ 2147483647 := r12
  have r13 : ((-2147483648) : Int) ≤ ρ 13 ∧ ρ 13 ≤ 2147483647 := r13
  have r14 : ((-2147483648) : Int) ≤ ρ 14 ∧ ρ 14 ≤ 2147483647 := r14
  have r15 : (0 : Int) ≤ ρ 15 ∧ ρ 15 ≤ 8 := r15
  have r16 : (0 : Int) ≤ ρ 16 ∧ ρ 16 ≤ 32 := r16
  have r17 : (0 : Int) ≤ ρ 17 ∧ ρ 17 ≤ 5120 := r17
  have r18 : ((-2147483648) : Int) ≤ ρ 18 ∧ ρ 18 ≤ 2147483647 := r18
  have r19 : ((-1) : Int) ≤ ρ 19 ∧ ρ 19 ≤ 3 := r19
  have r20 : (0 : Int) ≤ ρ 20 ∧ ρ 20 ≤ 3 := r20
  have r21 : ((-2147483648) : Int) ≤ ρ 21 ∧ ρ 21 ≤ 2147483647 := r21
  have r22 : (0 : Int) ≤ ρ 22 ∧ ρ 22 ≤ 3 := r22
  have r23 : (1 : Int) ≤ ρ 23 ∧ ρ 23 ≤ 2000 := r23
  have r24 : (0 : Int) ≤ ρ 24 ∧ ρ 24 ≤ 4 := r24
  have r25 : (0 : Int) ≤ ρ 25 ∧ ρ 25 ≤ 4 := r25
  have r26 : ((-1) : Int) ≤ ρ 26 ∧ ρ 26 ≤ 7 := r26
  have r27 : (0 : Int) ≤ ρ 27 ∧ ρ 27 ≤ 0 := r27
  have r28 : ((-1) : Int) ≤ ρ 28 ∧ ρ 28 ≤ (-1) := r28
  have r29 : ((-2147483648) : Int) ≤ ρ 29 ∧ ρ 29 ≤ 2147483647 := r29
  have r30 : ((-2147483648) : Int) ≤ ρ 30 ∧ ρ 30 ≤ 2147483647 := r30
  have r31 : (0 : Int) ≤ ρ 31 ∧ ρ 31 ≤ 8 := r31
  have r32 : (0 : Int) ≤ ρ 32 ∧ ρ 32 ≤ 32 := r32
  have r33 : (0 : Int) ≤ ρ 33 ∧ ρ 33 ≤ 5120 := r33
  have r34 : (0 : Int) ≤ ρ 34 ∧ ρ 34 ≤ 3 := r34
  have r35 : (0 : Int) ≤ ρ 35 ∧ ρ 35 ≤ 3 := r35
  have r36 : ((-2147483648) : Int) ≤ ρ 36 ∧ ρ 36 ≤ 2147483647 := r36
  have r37 : (1 : Int) ≤ ρ 37 ∧ ρ 37 ≤ 2000 := r37
  have r38 : (1 : Int) ≤ ρ 38 ∧ ρ 38 ≤ 4 := r38
  have r39 : (0 : Int) ≤ ρ 39 ∧ ρ 39 ≤ 4 := r39
  have r40 : ((-1) : Int) ≤ ρ 40 ∧ ρ 40 ≤ 7 := r40
  have r41 : ((-2147483648) : Int) ≤ ρ 41 ∧ ρ 41 ≤ 2147483647 := r41
  have r42 : ((-2147483648) : Int) ≤ ρ 42 ∧ ρ 42 ≤ 2147483647 := r42
  have r43 : (0 : Int) ≤ ρ 43 ∧ ρ 43 ≤ 8 := r43
  have r44 : (0 : Int) ≤ ρ 44 ∧ ρ 44 ≤ 32 := r44
  have r45 : (0 : Int) ≤ ρ 45 ∧ ρ 45 ≤ 5120 := r45
  have r46 : (0 : Int) ≤ ρ 46 ∧ ρ 46 ≤ 3 := r46
  have r47 : ((-2147483648) : Int) ≤ ρ 47 ∧ ρ 47 ≤ 2147483647 := r47
  have r48 : (41 : Int) ≤ ρ 48 ∧ ρ 48 ≤ 41 := r48
  have r49 : (0 : Int) ≤ ρ 49 ∧ ρ 49 ≤ 2000 := r49
  have r50 : ((-1) : Int) ≤ ρ 50 ∧ ρ 50 ≤ (-1) := r50
  obtain ⟨f0, f1, f2, f3, f4, f5, f6, f7, f8, f9, f10, f11, f12, f13, f14, f15, f16, f17, f18, f19, f20, f21, f22, -⟩ := hf
  have f0 : (0 : Int) ≤ ρ 49 + -ρ 37 := f0
  have f1 : (0 : Int) ≤ -ρ 49 + ρ 4 + (-1) := f1
  have f2 : (0 : Int) ≤ -ρ 37 + ρ 4 + (-1) := f2
  have f3 : (0 : Int) ≤ 3 * ρ 26 + -ρ 25 + 4 := f3
  have f4 : (0 : Int) ≤ ρ 37 + -ρ 23 + (-1) := f4
  have f5 : (0 : Int) ≤ ρ 38 + -ρ 24 := f5
  have f6 : (0 : Int) ≤ ρ 39 + -ρ 25 := f6
  have f7 : (0 : Int) ≤ ρ 43 + -ρ 31 := f7
  have f8 : (0 : Int) ≤ ρ 44 + -ρ 32 := f8
  have f9 : (0 : Int) ≤ ρ 45 + -ρ 33 := f9
  have f10 : (0 : Int) ≤ -ρ 23 + ρ 4 + (-1) := f10
  have f11 : (0 : Int) ≤ -ρ 38 + ρ 24 + 1 := f11
  have f12 : (0 : Int) ≤ 3 * ρ 40 + -ρ 39 + 4 := f12
  have f13 : (0 : Int) ≤ -ρ 24 + ρ 22 := f13
  have f14 : (0 : Int) ≤ ρ 4 + -ρ 3 + (-1) := f14
  have f15 : (0 : Int) ≤ -ρ 23 + ρ 4 := f15
  have f16 : (0 : Int) ≤ -ρ 22 + ρ 4 + (-1) := f16
  have f17 : (0 : Int) ≤ ρ 33 + -ρ 17 := f17
  have f18 : (0 : Int) ≤ ρ 32 + -ρ 16 := f18
  have f19 : (0 : Int) ≤ ρ 31 + -ρ 15 := f19
  have f20 : (0 : Int) ≤ ρ 23 + -ρ 3 + (-1) := f20
  have f21 : (0 : Int) ≤ ρ 23 + -ρ 22 + (-1) := f21
  have f22 : (0 : Int) ≤ -ρ 34 + ρ 22 + (-1) := f22
  obtain ⟨m0, m1, m2, m3, m4, m5, m6, m7, m8, m9, m10, m11, m12, m13, m14, m15, m16, m17, m18, m19, m20, m21, m22, m23, m24, m25, m26, m27, m28, m29, m30, m31, m32, m33, m34, m35, m36, m37, m38, m39, m40, m41, m42, m43, m44, m45, m46, m47, m48, m49, m50, m51, m52, m53, -⟩ := hm
  have m0 : γ 0 1 0 10 = ρ 0 := m0
  have m1 : γ 0 40 0 (ρ 0) = ρ 1 := m1
  have m2 : γ 0 9 (ρ 1) 2 = ρ 2 := m2
  have m3 : γ 0 2 0 6 = ρ 3 := m3
  have m4 : γ 0 2 0 3 = ρ 4 := m4
  have m5 : γ 0 10 (9 * ρ 1) 5 = ρ 5 := m5
  have m6 : γ 0 10 (9 * ρ 1) 12 = ρ 6 := m6
  have m7 : γ 0 10 (9 * ρ 1) 14 = ρ 7 := m7
  have m8 : γ 0 10 (9 * ρ 1) 4 = ρ 8 := m8
  have m9 : γ 0 2 0 7 = ρ 9 := m9
  have m10 : γ 0 10 (9 * ρ 1) 8 = ρ 10 := m10
  have m11 : γ 0 1 0 7 = ρ 11 := m11
  have m12 : γ 0 2 0 4 = ρ 12 := m12
  have m13 : γ 0 2 0 5 = ρ 13 := m13
  have m14 : γ 0 2 0 9 = ρ 14 := m14
  have m15 : γ 0 2 0 13 = ρ 15 := m15
  have m16 : γ 0 2 0 16 = ρ 16 := m16
  have m17 : γ 0 3 0 1 = ρ 17 := m17
  have m18 : γ 0 10 (9 * ρ 1) 7 = ρ 18 := m18
  have m19 : γ 0 10 (9 * ρ 1) 9 = ρ 19 := m19
  have m20 : γ 0 10 (9 * ρ 1) 13 = ρ 20 := m20
  have m21 : γ 0 10 (9 * ρ 1) 15 = ρ 21 := m21
  have m22 : γ 1 2 0 6 = ρ 23 := m22
  have m23 : γ 1 10 (9 * ρ 1) 5 = ρ 24 := m23
  have m24 : γ 1 10 (9 * ρ 1) 12 = ρ 25 := m24
  have m25 : γ 1 10 (9 * ρ 1) 14 = ρ 26 := m25
  have m26 : γ 1 10 (9 * ρ 1) 4 = ρ 27 := m26
  have m27 : γ 1 10 (9 * ρ 1) 8 = ρ 28 := m27
  have m28 : γ 1 2 0 4 = ρ 12 := m28
  have m29 : γ 1 2 0 5 = ρ 29 := m29
  have m30 : γ 1 2 0 9 = ρ 30 := m30
  have m31 : γ 1 2 0 13 = ρ 31 := m31
  have m32 : γ 1 2 0 16 = ρ 32 := m32
  have m33 : γ 1 3 0 1 = ρ 33 := m33
  have m34 : γ 1 10 (9 * ρ 1) 7 = ρ 14 := m34
  have m35 : γ 1 10 (9 * ρ 1) 9 = ρ 34 := m35
  have m36 : γ 1 10 (9 * ρ 1) 13 = ρ 35 := m36
  have m37 : γ 1 10 (9 * ρ 1) 15 = ρ 36 := m37
  have m38 : γ 2 2 0 6 = ρ 37 := m38
  have m39 : γ 2 10 (9 * ρ 1) 5 = ρ 38 := m39
  have m40 : γ 2 10 (9 * ρ 1) 12 = ρ 39 := m40
  have m41 : γ 2 10 (9 * ρ 1) 14 = ρ 40 := m41
  have m42 : γ 2 2 0 4 = ρ 12 := m42
  have m43 : γ 2 2 0 5 = ρ 41 := m43
  have m44 : γ 2 2 0 9 = ρ 42 := m44
  have m45 : γ 2 2 0 13 = ρ 43 := m45
  have m46 : γ 2 2 0 16 = ρ 44 := m46
  have m47 : γ 2 3 0 1 = ρ 45 := m47
  have m48 : γ 2 10 (9 * ρ 1) 13 = ρ 46 := m48
  have m49 : γ 2 10 (9 * ρ 1) 15 = ρ 47 := m49
  have m50 : γ 3 2 0 6 = ρ 49 := m50
  have m51 : γ 5 10 (9 * ρ 1) 8 = ρ 50 := m51
  have m52 : γ 5 1 0 7 = ρ 11 := m52
  have m53 : γ 5 2 0 4 = ρ 12 := m53
  obtain ⟨⟨⟨⟨⟨-, c1⟩, c2⟩, c3⟩, c4⟩, c5⟩ := hc
  have c1 : ∀ (G : Nat) (k j : Int), ¬ rMdP m97_ G j → γ 1 G k j = γ 0 G k j := c1
  have c2 : ∀ (G : Nat) (k j : Int), ¬ rMdP m94_ G j → γ 2 G k j = γ 1 G k j := c2
  have c3 : ∀ (G : Nat) (k j : Int), ¬ rMdP m77_ G j → γ 3 G k j = γ 2 G k j := c3
  have c4 : γ 4 = rUp (γ 3) 2 0 6 (ρ 49 + 1) := c4
  have c5 : ∀ (G : Nat) (k j : Int), ¬ rMdP m87_ G j → γ 5 G k j = γ 4 G k j := c5
  obtain ⟨l0, l1, l2, -⟩ := hl
  have l0 : sn141 [ρ 0, ρ 1, ρ 2, ρ 23, ρ 4, ρ 24, ρ 25, ρ 26, ρ 27, ρ 12, ρ 29, ρ 30, ρ 31, ρ 32, ρ 33, ρ 35, ρ 36] (γ 1) 0 1 (γ 2) := hS141 _ _ _ _ _ l0
  have l1 : sn114 [ρ 37, ρ 4] (γ 2) 0 (ρ 48) (γ 3) := hS114 _ _ _ _ _ l1
  have l2 : sn133 [ρ 0, ρ 1, ρ 2, ρ 9, ρ 28, ρ 11, ρ 12, ρ 38, ρ 14] (γ 4) 0 1 (γ 5) := hS133 _ _ _ _ _ l2
  show sn144 [ρ 0, ρ 1, ρ 2, ρ 3, ρ 4, ρ 5, ρ 6, ρ 7, ρ 8, ρ 9, ρ 10, ρ 11, ρ 12, ρ 13, ρ 14, ρ 15, ρ 16, ρ 17, ρ 18, ρ 19, ρ 20, ρ 21] (γ 0) 0 1 (γ 5)
  have hD : en144 (γ 0) (0, [ρ 22], γ 1) = .inr (0, 1, γ 5) := by
    unfold en144
    refine (if_pos (show (0 : Nat) = 0 by decide)).trans ?_
    refine (zLet_eq (show _ = γ 1 from rfl)).trans ?_
    refine (zLet_eq (show _ = ρ 22 from rfl)).trans ?_
    refine (zLet_eq m0).trans ?_
    refine (zLet_eq m1).trans ?_
    refine (zLet_eq m13).trans ?_
    refine (zLet_eq m35).trans ?_
    refine (if_neg (show ¬ (ρ 22 ≥ 4) by omega)).trans ?_
    refine (zLet_eq (show fn141 [] (γ 1) = (0, 1, γ 2) from l0.symm)).trans ?_
    refine (zLet_eq (show _ = γ 2 from rfl)).trans ?_
    refine (if_pos (show (1 : Int) ≤ 1 by omega)).trans ?_
    refine (if_pos (show ρ 34 ≥ 0 by omega)).trans ?_
    refine (zLet_eq (show fn114 [] (γ 2) = (0, ρ 48, γ 3) from l1.symm)).trans ?_
    refine (zLet_eq (show _ = γ 3 from rfl)).trans ?_
    refine (if_pos (show (0 : Int) ≤ ρ 48 by omega)).trans ?_
    refine (zLet_eq (show _ = ρ 48 from rfl)).trans ?_
    refine (zLet_eq m50).trans ?_
    refine (if_pos (show ρ 48 = 41 by omega)).trans ?_
    refine (zLet_eq c4.symm).trans ?_
    refine (zLet_eq (show fn133 [] (γ 4) = (0, 1, γ 5) from l2.symm)).trans ?_
    refine (zLet_eq (show _ = γ 5 from rfl)).trans ?_
    refine (if_pos (show (1 : Int) ≤ 1 by omega)).trans ?_
    rfl
  exact zGoo_aend hJ hD
theorem vn144a0_6 {S : Nat → zSpc} (hS102 : ∀ x g o v gz, S 102 x g o v gz → sn102 x g o v gz) (hS109 : ∀ x g o v gz, S 109 x g o v gz → sn109 x g o v gz) (hS114 : ∀ x g o v gz, S 114 x g o v gz → sn114 x g o v gz) (hS133 : ∀ x g o v gz, S 133 x g o v gz → sn133 x g o v gz) (hS141 : ∀ x g o v gz, S 141 x g o v gz → sn141 x g o v gz) (hS143 : ∀ x g o v gz, S 143 x g o v gz → sn143 x g o v gz) {a : List Int} {g : rHp} : ∀ (ρ : Nat → Int) (γ : Nat → rHp), jn144 a g 0 (zAg (zNA a144_ 0) ρ) (γ 1) → zO 22 S a g q144a0_6 ρ γ → zGl (fun i vs g1 => jn144 a g i vs g1) (sn144 a g) q144a0_6 ρ γ := by
  intro ρ γ hJ h
  obtain ⟨ha, hg, hr, hf, hm, hc, hl⟩ := h
  have ha : a = [ρ 0, ρ 1, ρ 2, ρ 3, ρ 4, ρ 5, ρ 6, ρ 7, ρ 8, ρ 9, ρ 10, ρ 11, ρ 12, ρ 13, ρ 14, ρ 15, ρ 16, ρ 17, ρ 18, ρ 19, ρ 20, ρ 21] := ha
  subst ha
  subst hg
  have hJ : jn144 [ρ 0, ρ 1, ρ 2, ρ 3, ρ 4, ρ 5, ρ 6, ρ 7, ρ 8, ρ 9, ρ 10, ρ 11, ρ 12, ρ 13, ρ 14, ρ 15, ρ 16, ρ 17, ρ 18, ρ 19, ρ 20, ρ 21] (γ 0) 0 [ρ 0, ρ 1, ρ 2, ρ 3, ρ 4, ρ 5, ρ 6, ρ 7, ρ 8, ρ 9, ρ 10, ρ 11, ρ 12, ρ 13, ρ 14, ρ 15, ρ 16, ρ 17, ρ 18, ρ 19, ρ 20, ρ 21, ρ 22, ρ 23, ρ 24, ρ 25, ρ 26, ρ 27, ρ 28, ρ 29, ρ 30, ρ 31, ρ 32, ρ 33, ρ 34, ρ 35, ρ 36] (γ 1) := hJ
  obtain ⟨r0, r1, r2, r3, r4, r5, r6, r7, r8, r9, r10, r11, r12, r13, r14, r15, r16, r17, r18, r19, r20, r21, r22, r23, r24, r25, r26, r27, r28, r29, r30, r31, r32, r33, r34, r35, r36, r37, r38, r39, r40, r41, r42, r43, r44, r45, r46, r47, r48, r49, r50, r51, -⟩ := hr
  have r0 : (0 : Int) ≤ ρ 0 ∧ ρ 0 ≤ 60 := r0
  have r1 : (0 : Int) ≤ ρ 1 ∧ ρ 1 ≤ 60 := r1
  have r2 : (0 : Int) ≤ ρ 2 ∧ ρ 2 ≤ 8 := r2
  have r3 : (0 : Int) ≤ ρ 3 ∧ ρ 3 ≤ 2000 := r3
  have r4 : (1 : Int) ≤ ρ 4 ∧ ρ 4 ≤ 2000 := r4
  have r5 : (0 : Int) ≤ ρ 5 ∧ ρ 5 ≤ 4 := r5
  have r6 : (0 : Int) ≤ ρ 6 ∧ ρ 6 ≤ 4 := r6
  have r7 : ((-1) : Int) ≤ ρ 7 ∧ ρ 7 ≤ 7 := r7
  have r8 : (0 : Int) ≤ ρ 8 ∧ ρ 8 ≤ 8 := r8
  have r9 : (0 : Int) ≤ ρ 9 ∧ ρ 9 ≤ 2 := r9
  have r10 : ((-1) : Int) ≤ ρ 10 ∧ ρ 10 ≤ 19 := r10
  have r11 : (0 : Int) ≤ ρ 11 ∧ ρ 11 ≤ 20 := r11
  have r12 : ((-2147483648) : Int) ≤ ρ 12 ∧ ρ 12 ≤ 2147483647 := r12
  have r13 : ((-2147483648) : Int) ≤ ρ 13 ∧ ρ 13 ≤ 2147483647 := r13
  have r14 : ((-2147483648) : Int) ≤ ρ 14 ∧ ρ 14 ≤ 2147483647 := r14
  have r15 : (0 : Int) ≤ ρ 15 ∧ ρ 15 ≤ 8 := r15
  have r16 : (0 : Int) ≤ ρ 16 ∧ ρ 16 ≤ 32 := r16
  have r17 : (0 : Int) ≤ ρ 17 ∧ ρ 17 ≤ 5120 := r17
  have r18 : ((-2147483648) : Int) ≤ ρ 18 ∧ ρ 18 ≤ 2147483647 := r18
  have r19 : ((-1) : Int) ≤ ρ 19 ∧ ρ 19 ≤ 3 := r19
  have r20 : (0 : Int) ≤ ρ 20 ∧ ρ 20 ≤ 3 := r20
  have r21 : ((-2147483648) : Int) ≤ ρ 21 ∧ ρ 21 ≤ 2147483647 := r21
  have r22 : (0 : Int) ≤ ρ 22 ∧ ρ 22 ≤ 3 := r22
  have r23 : (1 : Int) ≤ ρ 23 ∧ ρ 23 ≤ 2000 := r23
  have r24 : (0 : Int) ≤ ρ 24 ∧ ρ 24 ≤ 4 := r24
  have r25 : (0 : Int) ≤ ρ 25 ∧ ρ 25 ≤ 4 := r25
  have r26 : ((-1) : Int) ≤ ρ 26 ∧ ρ 26 ≤ 7 := r26
  have r27 : (0 : Int) ≤ ρ 27 ∧ ρ 27 ≤ 0 := r27
  have r28 : ((-1) : Int) ≤ ρ 28 ∧ ρ 28 ≤ (-1) := r28
  have r29 : ((-2147483648) : Int) ≤ ρ 29 ∧ ρ 29 ≤ 2147483647 := r29
  have r30 : ((-2147483648) : Int) ≤ ρ 30 ∧ ρ 30 ≤ 2147483647 := r30
  have r31 : (0 : Int) ≤ ρ 31 ∧ ρ 31 ≤ 8 := r31
  have r32 : (0 : Int) ≤ ρ 32 ∧ ρ 32 ≤ 32 := r32
  have r33 : (0 : Int) ≤ ρ 33 ∧ ρ 33 ≤ 5120 := r33
  have r34 : (0 : Int) ≤ ρ 34 ∧ ρ 34 ≤ 3 := r34
  have r35 : (0 : Int) ≤ ρ 35 ∧ ρ 35 ≤ 3 := r35
  have r36 : ((-2147483648) : Int) ≤ ρ 36 ∧ ρ 36 ≤ 2147483647 := r36
  have r37 : (1 : Int) ≤ ρ 37 ∧ ρ 37 ≤ 2000 := r37
  have r38 : (1 : Int) ≤ ρ 38 ∧ ρ 38 ≤ 4 := r38
  have r39 : (0 : Int) ≤ ρ 39 ∧ ρ 39 ≤ 4 := r39
  have r40 : ((-1) : Int) ≤ ρ 40 ∧ ρ 40 ≤ 7 := r40
  have r41 : ((-2147483648) : Int) ≤ ρ 41 ∧ ρ 41 ≤ 2147483647 := r41
  have r42 : ((-2147483648) : Int) ≤ ρ 42 ∧ ρ 42 ≤ 2147483647 := r42
  have r43 : (0 : Int) ≤ ρ 43 ∧ ρ 43 ≤ 8 := r43
  have r44 : (0 : Int) ≤ ρ 44 ∧ ρ 44 ≤ 32 := r44
  have r45 : (0 : Int) ≤ ρ 45 ∧ ρ 45 ≤ 5120 := r45
  have r46 : (0 : Int) ≤ ρ 46 ∧ ρ 46 ≤ 3 := r46
  have r47 : ((-2147483648) : Int) ≤ ρ 47 ∧ ρ 47 ≤ 2147483647 := r47
  have r48 : (41 : Int) ≤ ρ 48 ∧ ρ 48 ≤ 41 := r48
  have r49 : (0 : Int) ≤ ρ 49 ∧ ρ 49 ≤ 2000 := r49
  have r50 : (0 : Int) ≤ ρ 50 ∧ ρ 50 ≤ 19 := r50
  have r51 : (1 : Int) ≤ ρ 51 ∧ ρ 51 ≤ 20 := r51
  obtain ⟨f0, f1, f2, f3, f4, f5, f6, f7, f8, f9, f10, f11, f12, f13, f14, f15, f16, f17, f18, f19, f20, f21, f22, f23, f24, f25, -⟩ := hf
  have f0 : (0 : Int) ≤ ρ 51 + -ρ 50 + (-1) := f0
  have f1 : (0 : Int) ≤ ρ 51 + -ρ 11 := f1
  have f2 : (0 : Int) ≤ -ρ 50 + ρ 11 := f2
  have f3 : (0 : Int) ≤ ρ 49 + -ρ 37 := f3
  have f4 : (0 : Int) ≤ -ρ 49 + ρ 4 + (-1) := f4
  have f5 : (0 : Int) ≤ -ρ 37 + ρ 4 + (-1) := f5
  have f6 : (0 : Int) ≤ 3 * ρ 26 + -ρ 25 + 4 := f6
  have f7 : (0 : Int) ≤ ρ 37 + -ρ 23 + (-1) := f7
  have f8 : (0 : Int) ≤ ρ 38 + -ρ 24 := f8
  have f9 : (0 : Int) ≤ ρ 39 + -ρ 25 := f9
  have f10 : (0 : Int) ≤ ρ 43 + -ρ 31 := f10
  have f11 : (0 : Int) ≤ ρ 44 + -ρ 32 := f11
  have f12 : (0 : Int) ≤ ρ 45 + -ρ 33 := f12
  have f13 : (0 : Int) ≤ -ρ 23 + ρ 4 + (-1) := f13
  have f14 : (0 : Int) ≤ -ρ 38 + ρ 24 + 1 := f14
  have f15 : (0 : Int) ≤ 3 * ρ 40 + -ρ 39 + 4 := f15
  have f16 : (0 : Int) ≤ -ρ 24 + ρ 22 := f16
  have f17 : (0 : Int) ≤ ρ 4 + -ρ 3 + (-1) := f17
  have f18 : (0 : Int) ≤ -ρ 23 + ρ 4 := f18
  have f19 : (0 : Int) ≤ -ρ 22 + ρ 4 + (-1) := f19
  have f20 : (0 : Int) ≤ ρ 33 + -ρ 17 := f20
  have f21 : (0 : Int) ≤ ρ 32 + -ρ 16 := f21
  have f22 : (0 : Int) ≤ ρ 31 + -ρ 15 := f22
  have f23 : (0 : Int) ≤ ρ 23 + -ρ 3 + (-1) := f23
  have f24 : (0 : Int) ≤ ρ 23 + -ρ 22 + (-1) := f24
  have f25 : (0 : Int) ≤ -ρ 34 + ρ 22 + (-1) := f25
  obtain ⟨m0, m1, m2, m3, m4, m5, m6, m7, m8, m9, m10, m11, m12, m13, m14, m15, m16, m17, m18, m19, m20, m21, m22, m23, m24, m25, m26, m27, m28, m29, m30, m31, m32, m33, m34, m35, m36, m37, m38, m39, m40, m41, m42, m43, m44, m45, m46, m47, m48, m49, m50, m51, m52, m53, -⟩ := hm
  have m0 : γ 0 1 0 10 = ρ 0 := m0
  have m1 : γ 0 40 0 (ρ 0) = ρ 1 := m1
  have m2 : γ 0 9 (ρ 1) 2 = ρ 2 := m2
  have m3 : γ 0 2 0 6 = ρ 3 := m3
  have m4 : γ 0 2 0 3 = ρ 4 := m4
  have m5 : γ 0 10 (9 * ρ 1) 5 = ρ 5 := m5
  have m6 : γ 0 10 (9 * ρ 1) 12 = ρ 6 := m6
  have m7 : γ 0 10 (9 * ρ 1) 14 = ρ 7 := m7
  have m8 : γ 0 10 (9 * ρ 1) 4 = ρ 8 := m8
  have m9 : γ 0 2 0 7 = ρ 9 := m9
  have m10 : γ 0 10 (9 * ρ 1) 8 = ρ 10 := m10
  have m11 : γ 0 1 0 7 = ρ 11 := m11
  have m12 : γ 0 2 0 4 = ρ 12 := m12
  have m13 : γ 0 2 0 5 = ρ 13 := m13
  have m14 : γ 0 2 0 9 = ρ 14 := m14
  have m15 : γ 0 2 0 13 = ρ 15 := m15
  have m16 : γ 0 2 0 16 = ρ 16 := m16
  have m17 : γ 0 3 0 1 = ρ 17 := m17
  have m18 : γ 0 10 (9 * ρ 1) 7 = ρ 18 := m18
  have m19 : γ 0 10 (9 * ρ 1) 9 = ρ 19 := m19
  have m20 : γ 0 10 (9 * ρ 1) 13 = ρ 20 := m20
  have m21 : γ 0 10 (9 * ρ 1) 15 = ρ 21 := m21
  have m22 : γ 1 2 0 6 = ρ 23 := m22
  have m23 : γ 1 10 (9 * ρ 1) 5 = ρ 24 := m23
  have m24 : γ 1 10 (9 * ρ 1) 12 = ρ 25 := m24
  have m25 : γ 1 10 (9 * ρ 1) 14 = ρ 26 := m25
  have m26 : γ 1 10 (9 * ρ 1) 4 = ρ 27 := m26
  have m27 : γ 1 10 (9 * ρ 1) 8 = ρ 28 := m27
  have m28 : γ 1 2 0 4 = ρ 12 := m28
  have m29 : γ 1 2 0 5 = ρ 29 := m29
  have m30 : γ 1 2 0 9 = ρ 30 := m30
  have m31 : γ 1 2 0 13 = ρ 31 := m31
  have m32 : γ 1 2 0 16 = ρ 32 := m32
  have m33 : γ 1 3 0 1 = ρ 33 := m33
  have m34 : γ 1 10 (9 * ρ 1) 7 = ρ 14 := m34
  have m35 : γ 1 10 (9 * ρ 1) 9 = ρ 34 := m35
  have m36 : γ 1 10 (9 * ρ 1) 13 = ρ 35 := m36
  have m37 : γ 1 10 (9 * ρ 1) 15 = ρ 36 := m37
  have m38 : γ 2 2 0 6 = ρ 37 := m38
  have m39 : γ 2 10 (9 * ρ 1) 5 = ρ 38 := m39
  have m40 : γ 2 10 (9 * ρ 1) 12 = ρ 39 := m40
  have m41 : γ 2 10 (9 * ρ 1) 14 = ρ 40 := m41
  have m42 : γ 2 2 0 4 = ρ 12 := m42
  have m43 : γ 2 2 0 5 = ρ 41 := m43
  have m44 : γ 2 2 0 9 = ρ 42 := m44
  have m45 : γ 2 2 0 13 = ρ 43 := m45
  have m46 : γ 2 2 0 16 = ρ 44 := m46
  have m47 : γ 2 3 0 1 = ρ 45 := m47
  have m48 : γ 2 10 (9 * ρ 1) 13 = ρ 46 := m48
  have m49 : γ 2 10 (9 * ρ 1) 15 = ρ 47 := m49
  have m50 : γ 3 2 0 6 = ρ 49 := m50
  have m51 : γ 5 10 (9 * ρ 1) 8 = ρ 50 := m51
  have m52 : γ 5 1 0 7 = ρ 51 := m52
  have m53 : γ 5 2 0 4 = ρ 12 := m53
  obtain ⟨⟨⟨⟨⟨-, c1⟩, c2⟩, c3⟩, c4⟩, c5⟩ := hc
  have c1 : ∀ (G : Nat) (k j : Int), ¬ rMdP m97_ G j → γ 1 G k j = γ 0 G k j := c1
  have c2 : ∀ (G : Nat) (k j : Int), ¬ rMdP m94_ G j → γ 2 G k j = γ 1 G k j := c2
  have c3 : ∀ (G : Nat) (k j : Int), ¬ rMdP m77_ G j → γ 3 G k j = γ 2 G k j := c3
  have c4 : γ 4 = rUp (γ 3) 2 0 6 (ρ 49 + 1) := c4
  have c5 : ∀ (G : Nat) (k j : Int), ¬ rMdP m87_ G j → γ 5 G k j = γ 4 G k j := c5
  obtain ⟨l0, l1, l2, -⟩ := hl
  have l0 : sn141 [ρ 0, ρ 1, ρ 2, ρ 23, ρ 4, ρ 24, ρ 25, ρ 26, ρ 27, ρ 12, ρ 29, ρ 30, ρ 31, ρ 32, ρ 33, ρ 35, ρ 36] (γ 1) 0 1 (γ 2) := hS141 _ _ _ _ _ l0
  have l1 : sn114 [ρ 37, ρ 4] (γ 2) 0 (ρ 48) (γ 3) := hS114 _ _ _ _ _ l1
  have l2 : sn133 [ρ 0, ρ 1, ρ 2, ρ 9, ρ 28, ρ 11, ρ 12, ρ 38, ρ 14] (γ 4) 0 1 (γ 5) := hS133 _ _ _ _ _ l2
  show sn144 [ρ 0, ρ 1, ρ 2, ρ 3, ρ 4, ρ 5, ρ 6, ρ 7, ρ 8, ρ 9, ρ 10, ρ 11, ρ 12, ρ 13, ρ 14, ρ 15, ρ 16, ρ 17, ρ 18, ρ 19, ρ 20, ρ 21] (γ 0) 0 1 (γ 5)
  have hD : en144 (γ 0) (0, [ρ 22], γ 1) = .inr (0, 1, γ 5) := by
    unfold en144
    refine (if_pos (show (0 : Nat) = 0 by decide)).trans ?_
    refine (zLet_eq (show _ = γ 1 from rfl)).trans ?_
    refine (zLet_eq (show _ = ρ 22 from rfl)).trans ?_
    refine (zLet_eq m0).trans ?_
    refine (zLet_eq m1).trans ?_
    refine (zLet_eq m13).trans ?_
    refine (zLet_eq m35).trans ?_
    refine (if_neg (show ¬ (ρ 22 ≥ 4) by omega)).trans ?_
    refine (zLet_eq (show fn141 [] (γ 1) = (0, 1, γ 2) from l0.symm)).trans ?_
    refine (zLet_eq (show _ = γ 2 from rfl)).trans ?_
    refine (if_pos (show (1 : Int) ≤ 1 by omega)).trans ?_
    refine (if_pos (show ρ 34 ≥ 0 by omega)).trans ?_
    refine (zLet_eq (show fn114 [] (γ 2) = (0, ρ 48, γ 3) from l1.symm)).trans ?_
    refine (zLet_eq (show _ = γ 3 from rfl)).trans ?_
    refine (if_pos (show (0 : Int) ≤ ρ 48 by omega)).trans ?_
    refine (zLet_eq (show _ = ρ 48 from rfl)).trans ?_
    refine (zLet_eq m50).trans ?_
    refine (if_pos (show ρ 48 = 41 by omega)).trans ?_
    refine (zLet_eq c4.symm).trans ?_
    refine (zLet_eq (show fn133 [] (γ 4) = (0, 1, γ 5) from l2.symm)).trans ?_
    refine (zLet_eq (show _ = γ 5 from rfl)).trans ?_
    refine (if_pos (show (1 : Int) ≤ 1 by omega)).trans ?_
    rfl
  exact zGoo_aend hJ hD
theorem vn144a0_7 {S : Nat → zSpc} (hS102 : ∀ x g o v gz, S 102 x g o v gz → sn102 x g o v gz) (hS109 : ∀ x g o v gz, S 109 x g o v gz → sn109 x g o v gz) (hS114 : ∀ x g o v gz, S 114 x g o v gz → sn114 x g o v gz) (hS133 : ∀ x g o v gz, S 133 x g o v gz → sn133 x g o v gz) (hS141 : ∀ x g o v gz, S 141 x g o v gz → sn141 x g o v gz) (hS143 : ∀ x g o v gz, S 143 x g o v gz → sn143 x g o v gz) {a : List Int} {g : rHp} : ∀ (ρ : Nat → Int) (γ : Nat → rHp), jn144 a g 0 (zAg (zNA a144_ 0) ρ) (γ 1) → zO 22 S a g q144a0_7 ρ γ → zGl (fun i vs g1 => jn144 a g i vs g1) (sn144 a g) q144a0_7 ρ γ := by
  intro ρ γ hJ h
  obtain ⟨ha, hg, hr, hf, hm, hc, hl⟩ := h
  have ha : a = [ρ 0, ρ 1, ρ 2, ρ 3, ρ 4, ρ 5, ρ 6, ρ 7, ρ 8, ρ 9, ρ 10, ρ 11, ρ 12, ρ 13, ρ 14, ρ 15, ρ 16, ρ 17, ρ 18, ρ 19, ρ 20, ρ 21] := ha
  subst ha
  subst hg
  have hJ : jn144 [ρ 0, ρ 1, ρ 2, ρ 3, ρ 4, ρ 5, ρ 6, ρ 7, ρ 8, ρ 9, ρ 10, ρ 11, ρ 12, ρ 13, ρ 14, ρ 15, ρ 16, ρ 17, ρ 18, ρ 19, ρ 20, ρ 21] (γ 0) 0 [ρ 0, ρ 1, ρ 2, ρ 3, ρ 4, ρ 5, ρ 6, ρ 7, ρ 8, ρ 9, ρ 10, ρ 11, ρ 12, ρ 13, ρ 14, ρ 15, ρ 16, ρ 17, ρ 18, ρ 19, ρ 20, ρ 21, ρ 22, ρ 23, ρ 24, ρ 25, ρ 26, ρ 27, ρ 28, ρ 29, ρ 30, ρ 31, ρ 32, ρ 33, ρ 34, ρ 35, ρ 36] (γ 1) := hJ
  obtain ⟨r0, r1, r2, r3, r4, r5, r6, r7, r8, r9, r10, r11, r12, r13, r14, r15, r16, r17, r18, r19, r20, r21, r22, r23, r24, r25, r26, r27, r28, r29, r30, r31, r32, r33, r34, r35, r36, r37, r38, r39, r40, r41, r42, r43, r44, r45, r46, r47, r48, r49, -⟩ := hr
  have r0 : (0 : Int) ≤ ρ 0 ∧ ρ 0 ≤ 60 := r0
  have r1 : (0 : Int) ≤ ρ 1 ∧ ρ 1 ≤ 60 := r1
  have r2 : (0 : Int) ≤ ρ 2 ∧ ρ 2 ≤ 8 := r2
  have r3 : (0 : Int) ≤ ρ 3 ∧ ρ 3 ≤ 2000 := r3
  have r4 : (1 : Int) ≤ ρ 4 ∧ ρ 4 ≤ 2000 := r4
  have r5 : (0 : Int) ≤ ρ 5 ∧ ρ 5 ≤ 4 := r5
  have r6 : (0 : Int) ≤ ρ 6 ∧ ρ 6 ≤ 4 := r6
  have r7 : ((-1) : Int) ≤ ρ 7 ∧ ρ 7 ≤ 7 := r7
  have r8 : (0 : Int) ≤ ρ 8 ∧ ρ 8 ≤ 8 := r8
  have r9 : (0 : Int) ≤ ρ 9 ∧ ρ 9 ≤ 2 := r9
  have r10 : ((-1) : Int) ≤ ρ 10 ∧ ρ 10 ≤ 19 := r10
  have r11 : (0 : Int) ≤ ρ 11 ∧ ρ 11 ≤ 20 := r11
  have r12 : ((-2147483648) : Int) ≤ ρ 12 ∧ ρ 12 ≤ 2147483647 := r12
  have r13 : ((-2147483648) : Int) ≤ ρ 13 ∧ ρ 13 ≤ 2147483647 := r13
  have r14 : ((-2147483648) : Int) ≤ ρ 14 ∧ ρ 14 ≤ 2147483647 := r14
  have r15 : (0 : Int) ≤ ρ 15 ∧ ρ 15 ≤ 8 := r15
  have r16 : (0 : Int) ≤ ρ 16 ∧ ρ 16 ≤ 32 := r16
  have r17 : (0 : Int) ≤ ρ 17 ∧ ρ 17 ≤ 5120 := r17
  have r18 : ((-2147483648) : Int) ≤ ρ 18 ∧ ρ 18 ≤ 2147483647 := r18
  have r19 : ((-1) : Int) ≤ ρ 19 ∧ ρ 19 ≤ 3 := r19
  have r20 : (0 : Int) ≤ ρ 20 ∧ ρ 20 ≤ 3 := r20
  have r21 : ((-2147483648) : Int) ≤ ρ 21 ∧ ρ 21 ≤ 2147483647 := r21
  have r22 : (0 : Int) ≤ ρ 22 ∧ ρ 22 ≤ 3 := r22
  have r23 : (1 : Int) ≤ ρ 23 ∧ ρ 23 ≤ 2000 := r23
  have r24 : (0 : Int) ≤ ρ 24 ∧ ρ 24 ≤ 4 := r24
  have r25 : (0 : Int) ≤ ρ 25 ∧ ρ 25 ≤ 4 := r25
  have r26 : ((-1) : Int) ≤ ρ 26 ∧ ρ 26 ≤ 7 := r26
  have r27 : (0 : Int) ≤ ρ 27 ∧ ρ 27 ≤ 0 := r27
  have r28 : ((-1) : Int) ≤ ρ 28 ∧ ρ 28 ≤ (-1) := r28
  have r29 : ((-2147483648) : Int) ≤ ρ 29 ∧ ρ 29 ≤ 2147483647 := r29
  have r30 : ((-2147483648) : Int) ≤ ρ 30 ∧ ρ 30 ≤ 2147483647 := r30
  have r31 : (0 : Int) ≤ ρ 31 ∧ ρ 31 ≤ 8 := r31
  have r32 : (0 : Int) ≤ ρ 32 ∧ ρ 32 ≤ 32 := r32
  have r33 : (0 : Int) ≤ ρ 33 ∧ ρ 33 ≤ 5120 := r33
  have r34 : (0 : Int) ≤ ρ 34 ∧ ρ 34 ≤ 3 := r34
  have r35 : (0 : Int) ≤ ρ 35 ∧ ρ 35 ≤ 3 := r35
  have r36 : ((-2147483648) : Int) ≤ ρ 36 ∧ ρ 36 ≤ 2147483647 := r36
  have r37 : (1 : Int) ≤ ρ 37 ∧ ρ 37 ≤ 2000 := r37
  have r38 : (1 : Int) ≤ ρ 38 ∧ ρ 38 ≤ 4 := r38
  have r39 : (0 : Int) ≤ ρ 39 ∧ ρ 39 ≤ 4 := r39
  have r40 : ((-1) : Int) ≤ ρ 40 ∧ ρ 40 ≤ 7 := r40
  have r41 : ((-2147483648) : Int) ≤ ρ 41 ∧ ρ 41 ≤ 2147483647 := r41
  have r42 : ((-2147483648) : Int) ≤ ρ 42 ∧ ρ 42 ≤ 2147483647 := r42
  have r43 : (0 : Int) ≤ ρ 43 ∧ ρ 43 ≤ 8 := r43
  have r44 : (0 : Int) ≤ ρ 44 ∧ ρ 44 ≤ 32 := r44
  have r45 : (0 : Int) ≤ ρ 45 ∧ ρ 45 ≤ 5120 := r45
  have r46 : (0 : Int) ≤ ρ 46 ∧ ρ 46 ≤ 3 := r46
  have r47 : ((-2147483648) : Int) ≤ ρ 47 ∧ ρ 47 ≤ 2147483647 := r47
  have r48 : (44 : Int) ≤ ρ 48 ∧ ρ 48 ≤ 44 := r48
  have r49 : (0 : Int) ≤ ρ 49 ∧ ρ 49 ≤ 2000 := r49
  obtain ⟨f0, f1, f2, f3, f4, f5, f6, f7, f8, f9, f10, f11, f12, f13, f14, f15, f16, f17, f18, f19, f20, f21, f22, -⟩ := hf
  have f0 : (0 : Int) ≤ ρ 49 + -ρ 37 := f0
  have f1 : (0 : Int) ≤ -ρ 49 + ρ 4 + (-1) := f1
  have f2 : (0 : Int) ≤ -ρ 37 + ρ 4 + (-1) := f2
  have f3 : (0 : Int) ≤ 3 * ρ 26 + -ρ 25 + 4 := f3
  have f4 : (0 : Int) ≤ ρ 37 + -ρ 23 + (-1) := f4
  have f5 : (0 : Int) ≤ ρ 38 + -ρ 24 := f5
  have f6 : (0 : Int) ≤ ρ 39 + -ρ 25 := f6
  have f7 : (0 : Int) ≤ ρ 43 + -ρ 31 := f7
  have f8 : (0 : Int) ≤ ρ 44 + -ρ 32 := f8
  have f9 : (0 : Int) ≤ ρ 45 + -ρ 33 := f9
  have f10 : (0 : Int) ≤ -ρ 23 + ρ 4 + (-1) := f10
  have f11 : (0 : Int) ≤ -ρ 38 + ρ 24 + 1 := f11
  have f12 : (0 : Int) ≤ 3 * ρ 40 + -ρ 39 + 4 := f12
  have f13 : (0 : Int) ≤ -ρ 24 + ρ 22 := f13
  have f14 : (0 : Int) ≤ ρ 4 + -ρ 3 + (-1) := f14
  have f15 : (0 : Int) ≤ -ρ 23 + ρ 4 := f15
  have f16 : (0 : Int) ≤ -ρ 22 + ρ 4 + (-1) := f16
  have f17 : (0 : Int) ≤ ρ 33 + -ρ 17 := f17
  have f18 : (0 : Int) ≤ ρ 32 + -ρ 16 := f18
  have f19 : (0 : Int) ≤ ρ 31 + -ρ 15 := f19
  have f20 : (0 : Int) ≤ ρ 23 + -ρ 3 + (-1) := f20
  have f21 : (0 : Int) ≤ ρ 23 + -ρ 22 + (-1) := f21
  have f22 : (0 : Int) ≤ -ρ 34 + ρ 22 + (-1) := f22
  obtain ⟨m0, m1, m2, m3, m4, m5, m6, m7, m8, m9, m10, m11, m12, m13, m14, m15, m16, m17, m18, m19, m20, m21, m22, m23, m24, m25, m26, m27, m28, m29, m30, m31, m32, m33, m34, m35, m36, m37, m38, m39, m40, m41, m42, m43, m44, m45, m46, m47, m48, m49, m50, -⟩ := hm
  have m0 : γ 0 1 0 10 = ρ 0 := m0
  have m1 : γ 0 40 0 (ρ 0) = ρ 1 := m1
  have m2 : γ 0 9 (ρ 1) 2 = ρ 2 := m2
  have m3 : γ 0 2 0 6 = ρ 3 := m3
  have m4 : γ 0 2 0 3 = ρ 4 := m4
  have m5 : γ 0 10 (9 * ρ 1) 5 = ρ 5 := m5
  have m6 : γ 0 10 (9 * ρ 1) 12 = ρ 6 := m6
  have m7 : γ 0 10 (9 * ρ 1) 14 = ρ 7 := m7
  have m8 : γ 0 10 (9 * ρ 1) 4 = ρ 8 := m8
  have m9 : γ 0 2 0 7 = ρ 9 := m9
  have m10 : γ 0 10 (9 * ρ 1) 8 = ρ 10 := m10
  have m11 : γ 0 1 0 7 = ρ 11 := m11
  have m12 : γ 0 2 0 4 = ρ 12 := m12
  have m13 : γ 0 2 0 5 = ρ 13 := m13
  have m14 : γ 0 2 0 9 = ρ 14 := m14
  have m15 : γ 0 2 0 13 = ρ 15 := m15
  have m16 : γ 0 2 0 16 = ρ 16 := m16
  have m17 : γ 0 3 0 1 = ρ 17 := m17
  have m18 : γ 0 10 (9 * ρ 1) 7 = ρ 18 := m18
  have m19 : γ 0 10 (9 * ρ 1) 9 = ρ 19 := m19
  have m20 : γ 0 10 (9 * ρ 1) 13 = ρ 20 := m20
  have m21 : γ 0 10 (9 * ρ 1) 15 = ρ 21 := m21
  have m22 : γ 1 2 0 6 = ρ 23 := m22
  have m23 : γ 1 10 (9 * ρ 1) 5 = ρ 24 := m23
  have m24 : γ 1 10 (9 * ρ 1) 12 = ρ 25 := m24
  have m25 : γ 1 10 (9 * ρ 1) 14 = ρ 26 := m25
  have m26 : γ 1 10 (9 * ρ 1) 4 = ρ 27 := m26
  have m27 : γ 1 10 (9 * ρ 1) 8 = ρ 28 := m27
  have m28 : γ 1 2 0 4 = ρ 12 := m28
  have m29 : γ 1 2 0 5 = ρ 29 := m29
  have m30 : γ 1 2 0 9 = ρ 30 := m30
  have m31 : γ 1 2 0 13 = ρ 31 := m31
  have m32 : γ 1 2 0 16 = ρ 32 := m32
  have m33 : γ 1 3 0 1 = ρ 33 := m33
  have m34 : γ 1 10 (9 * ρ 1) 7 = ρ 14 := m34
  have m35 : γ 1 10 (9 * ρ 1) 9 = ρ 34 := m35
  have m36 : γ 1 10 (9 * ρ 1) 13 = ρ 35 := m36
  have m37 : γ 1 10 (9 * ρ 1) 15 = ρ 36 := m37
  have m38 : γ 2 2 0 6 = ρ 37 := m38
  have m39 : γ 2 10 (9 * ρ 1) 5 = ρ 38 := m39
  have m40 : γ 2 10 (9 * ρ 1) 12 = ρ 39 := m40
  have m41 : γ 2 10 (9 * ρ 1) 14 = ρ 40 := m41
  have m42 : γ 2 2 0 4 = ρ 12 := m42
  have m43 : γ 2 2 0 5 = ρ 41 := m43
  have m44 : γ 2 2 0 9 = ρ 42 := m44
  have m45 : γ 2 2 0 13 = ρ 43 := m45
  have m46 : γ 2 2 0 16 = ρ 44 := m46
  have m47 : γ 2 3 0 1 = ρ 45 := m47
  have m48 : γ 2 10 (9 * ρ 1) 13 = ρ 46 := m48
  have m49 : γ 2 10 (9 * ρ 1) 15 = ρ 47 := m49
  have m50 : γ 3 2 0 6 = ρ 49 := m50
  obtain ⟨⟨⟨⟨-, c1⟩, c2⟩, c3⟩, c4⟩ := hc
  have c1 : ∀ (G : Nat) (k j : Int), ¬ rMdP m97_ G j → γ 1 G k j = γ 0 G k j := c1
  have c2 : ∀ (G : Nat) (k j : Int), ¬ rMdP m94_ G j → γ 2 G k j = γ 1 G k j := c2
  have c3 : ∀ (G : Nat) (k j : Int), ¬ rMdP m77_ G j → γ 3 G k j = γ 2 G k j := c3
  have c4 : γ 4 = rUp (γ 3) 2 0 6 (ρ 49 + 1) := c4
  obtain ⟨l0, l1, l2, -⟩ := hl
  have l0 : sn141 [ρ 0, ρ 1, ρ 2, ρ 23, ρ 4, ρ 24, ρ 25, ρ 26, ρ 27, ρ 12, ρ 29, ρ 30, ρ 31, ρ 32, ρ 33, ρ 35, ρ 36] (γ 1) 0 1 (γ 2) := hS141 _ _ _ _ _ l0
  have l1 : sn114 [ρ 37, ρ 4] (γ 2) 0 (ρ 48) (γ 3) := hS114 _ _ _ _ _ l1
  have l2 : ρ 48 ≠ 41 := l2
  show jn144 [ρ 0, ρ 1, ρ 2, ρ 3, ρ 4, ρ 5, ρ 6, ρ 7, ρ 8, ρ 9, ρ 10, ρ 11, ρ 12, ρ 13, ρ 14, ρ 15, ρ 16, ρ 17, ρ 18, ρ 19, ρ 20, ρ 21] (γ 0) 0 [ρ 0, ρ 1, ρ 2, ρ 3, ρ 4, ρ 5, ρ 6, ρ 7, ρ 8, ρ 9, ρ 10, ρ 11, ρ 12, ρ 13, ρ 14, ρ 15, ρ 16, ρ 17, ρ 18, ρ 19, ρ 20, ρ 21, ρ 22 + 1, ρ 49 + 1, ρ 38, ρ 39, ρ 40, ρ 27, ρ 28, ρ 41, ρ 42, ρ 43, ρ 44, ρ 45, ρ 34, ρ 46, ρ 47] (γ 4)
  have hD : en144 (γ 0) (0, [ρ 22], γ 1) = .inl (0, [ρ 22 + 1], γ 4) := by
    unfold en144
    refine (if_pos (show (0 : Nat) = 0 by decide)).trans ?_
    refine (zLet_eq (show _ = γ 1 from rfl)).trans ?_
    refine (zLet_eq (show _ = ρ 22 from rfl)).trans ?_
    refine (zLet_eq m0).trans ?_
    refine (zLet_eq m1).trans ?_
    refine (zLet_eq m13).trans ?_
    refine (zLet_eq m35).trans ?_
    refine (if_neg (show ¬ (ρ 22 ≥ 4) by omega)).trans ?_
    refine (zLet_eq (show fn141 [] (γ 1) = (0, 1, γ 2) from l0.symm)).trans ?_
    refine (zLet_eq (show _ = γ 2 from rfl)).trans ?_
    refine (if_pos (show (1 : Int) ≤ 1 by omega)).trans ?_
    refine (if_pos (show ρ 34 ≥ 0 by omega)).trans ?_
    refine (zLet_eq (show fn114 [] (γ 2) = (0, ρ 48, γ 3) from l1.symm)).trans ?_
    refine (zLet_eq (show _ = γ 3 from rfl)).trans ?_
    refine (if_pos (show (0 : Int) ≤ ρ 48 by omega)).trans ?_
    refine (zLet_eq (show _ = ρ 48 from rfl)).trans ?_
    refine (zLet_eq m50).trans ?_
    refine (if_neg (show ¬ (ρ 48 = 41) by omega)).trans ?_
    refine (if_pos (show ρ 48 = 44 by omega)).trans ?_
    refine (zLet_eq c4.symm).trans ?_
    rfl
  exact zGoo_ato hJ hD
theorem vn144a0_8 {S : Nat → zSpc} (hS102 : ∀ x g o v gz, S 102 x g o v gz → sn102 x g o v gz) (hS109 : ∀ x g o v gz, S 109 x g o v gz → sn109 x g o v gz) (hS114 : ∀ x g o v gz, S 114 x g o v gz → sn114 x g o v gz) (hS133 : ∀ x g o v gz, S 133 x g o v gz → sn133 x g o v gz) (hS141 : ∀ x g o v gz, S 141 x g o v gz → sn141 x g o v gz) (hS143 : ∀ x g o v gz, S 143 x g o v gz → sn143 x g o v gz) {a : List Int} {g : rHp} : ∀ (ρ : Nat → Int) (γ : Nat → rHp), jn144 a g 0 (zAg (zNA a144_ 0) ρ) (γ 1) → zO 22 S a g q144a0_8 ρ γ → zGl (fun i vs g1 => jn144 a g i vs g1) (sn144 a g) q144a0_8 ρ γ := by
  intro ρ γ hJ h
  obtain ⟨ha, hg, hr, hf, hm, hc, hl⟩ := h
  have ha : a = [ρ 0, ρ 1, ρ 2, ρ 3, ρ 4, ρ 5, ρ 6, ρ 7, ρ 8, ρ 9, ρ 10, ρ 11, ρ 12, ρ 13, ρ 14, ρ 15, ρ 16, ρ 17, ρ 18, ρ 19, ρ 20, ρ 21] := ha
  subst ha
  subst hg
  have hJ : jn144 [ρ 0, ρ 1, ρ 2, ρ 3, ρ 4, ρ 5, ρ 6, ρ 7, ρ 8, ρ 9, ρ 10, ρ 11, ρ 12, ρ 13, ρ 14, ρ 15, ρ 16, ρ 17, ρ 18, ρ 19, ρ 20, ρ 21] (γ 0) 0 [ρ 0, ρ 1, ρ 2, ρ 3, ρ 4, ρ 5, ρ 6, ρ 7, ρ 8, ρ 9, ρ 10, ρ 11, ρ 12, ρ 13, ρ 14, ρ 15, ρ 16, ρ 17, ρ 18, ρ 19, ρ 20, ρ 21, ρ 22, ρ 23, ρ 24, ρ 25, ρ 26, ρ 27, ρ 28, ρ 29, ρ 30, ρ 31, ρ 32, ρ 33, ρ 34, ρ 35, ρ 36] (γ 1) := hJ
  obtain ⟨r0, r1, r2, r3, r4, r5, r6, r7, r8, r9, r10, r11, r12, r13, r14, r15, r16, r17, r18, r19, r20, r21, r22, r23, r24, r25, r26, r27, r28, r29, r30, r31, r32, r33, r34, r35, r36, r37, r38, r39, r40, r41, r42, r43, r44, r45, r46, r47, r48, r49, -⟩ := hr
  have r0 : (0 : Int) ≤ ρ 0 ∧ ρ 0 ≤ 60 := r0
  have r1 : (0 : Int) ≤ ρ 1 ∧ ρ 1 ≤ 60 := r1
  have r2 : (0 : Int) ≤ ρ 2 ∧ ρ 2 ≤ 8 := r2
  have r3 : (0 : Int) ≤ ρ 3 ∧ ρ 3 ≤ 2000 := r3
  have r4 : (1 : Int) ≤ ρ 4 ∧ ρ 4 ≤ 2000 := r4
  have r5 : (0 : Int) ≤ ρ 5 ∧ ρ 5 ≤ 4 := r5
  have r6 : (0 : Int) ≤ ρ 6 ∧ ρ 6 ≤ 4 := r6
  have r7 : ((-1) : Int) ≤ ρ 7 ∧ ρ 7 ≤ 7 := r7
  have r8 : (0 : Int) ≤ ρ 8 ∧ ρ 8 ≤ 8 := r8
  have r9 : (0 : Int) ≤ ρ 9 ∧ ρ 9 ≤ 2 := r9
  have r10 : ((-1) : Int) ≤ ρ 10 ∧ ρ 10 ≤ 19 := r10
  have r11 : (0 : Int) ≤ ρ 11 ∧ ρ 11 ≤ 20 := r11
  have r12 : ((-2147483648) : Int) ≤ ρ 12 ∧ ρ 12 ≤ 2147483647 := r12
  have r13 : ((-2147483648) : Int) ≤ ρ 13 ∧ ρ 13 ≤ 2147483647 := r13
  have r14 : ((-2147483648) : Int) ≤ ρ 14 ∧ ρ 14 ≤ 2147483647 := r14
  have r15 : (0 : Int) ≤ ρ 15 ∧ ρ 15 ≤ 8 := r15
  have r16 : (0 : Int) ≤ ρ 16 ∧ ρ 16 ≤ 32 := r16
  have r17 : (0 : Int) ≤ ρ 17 ∧ ρ 17 ≤ 5120 := r17
  have r18 : ((-2147483648) : Int) ≤ ρ 18 ∧ ρ 18 ≤ 2147483647 := r18
  have r19 : ((-1) : Int) ≤ ρ 19 ∧ ρ 19 ≤ 3 := r19
  have r20 : (0 : Int) ≤ ρ 20 ∧ ρ 20 ≤ 3 := r20
  have r21 : ((-2147483648) : Int) ≤ ρ 21 ∧ ρ 21 ≤ 2147483647 := r21
  have r22 : (0 : Int) ≤ ρ 22 ∧ ρ 22 ≤ 3 := r22
  have r23 : (1 : Int) ≤ ρ 23 ∧ ρ 23 ≤ 2000 := r23
  have r24 : (0 : Int) ≤ ρ 24 ∧ ρ 24 ≤ 4 := r24
  have r25 : (0 : Int) ≤ ρ 25 ∧ ρ 25 ≤ 4 := r25
  have r26 : ((-1) : Int) ≤ ρ 26 ∧ ρ 26 ≤ 7 := r26
  have r27 : (0 : Int) ≤ ρ 27 ∧ ρ 27 ≤ 0 := r27
  have r28 : ((-1) : Int) ≤ ρ 28 ∧ ρ 28 ≤ (-1) := r28
  have r29 : ((-2147483648) : Int) ≤ ρ 29 ∧ ρ 29 ≤ 2147483647 := r29
  have r30 : ((-2147483648) : Int) ≤ ρ 30 ∧ ρ 30 ≤ 2147483647 := r30
  have r31 : (0 : Int) ≤ ρ 31 ∧ ρ 31 ≤ 8 := r31
  have r32 : (0 : Int) ≤ ρ 32 ∧ ρ 32 ≤ 32 := r32
  have r33 : (0 : Int) ≤ ρ 33 ∧ ρ 33 ≤ 5120 := r33
  have r34 : (0 : Int) ≤ ρ 34 ∧ ρ 34 ≤ 3 := r34
  have r35 : (0 : Int) ≤ ρ 35 ∧ ρ 35 ≤ 3 := r35
  have r36 : ((-2147483648) : Int) ≤ ρ 36 ∧ ρ 36 ≤ 2147483647 := r36
  have r37 : (1 : Int) ≤ ρ 37 ∧ ρ 37 ≤ 2000 := r37
  have r38 : (1 : Int) ≤ ρ 38 ∧ ρ 38 ≤ 4 := r38
  have r39 : (0 : Int) ≤ ρ 39 ∧ ρ 39 ≤ 4 := r39
  have r40 : ((-1) : Int) ≤ ρ 40 ∧ ρ 40 ≤ 7 := r40
  have r41 : ((-2147483648) : Int) ≤ ρ 41 ∧ ρ 41 ≤ 2147483647 := r41
  have r42 : ((-2147483648) : Int) ≤ ρ 42 ∧ ρ 42 ≤ 2147483647 := r42
  have r43 : (0 : Int) ≤ ρ 43 ∧ ρ 43 ≤ 8 := r43
  have r44 : (0 : Int) ≤ ρ 44 ∧ ρ 44 ≤ 32 := r44
  have r45 : (0 : Int) ≤ ρ 45 ∧ ρ 45 ≤ 5120 := r45
  have r46 : (0 : Int) ≤ ρ 46 ∧ ρ 46 ≤ 3 := r46
  have r47 : ((-2147483648) : Int) ≤ ρ 47 ∧ ρ 47 ≤ 2147483647 := r47
  have r48 : (0 : Int) ≤ ρ 48 ∧ ρ 48 ≤ 255 := r48
  have r49 : (0 : Int) ≤ ρ 49 ∧ ρ 49 ≤ 2000 := r49
  obtain ⟨f0, f1, f2, f3, f4, f5, f6, f7, f8, f9, f10, f11, f12, f13, f14, f15, f16, f17, f18, f19, f20, f21, f22, -⟩ := hf
  have f0 : (0 : Int) ≤ ρ 49 + -ρ 37 := f0
  have f1 : (0 : Int) ≤ -ρ 49 + ρ 4 + (-1) := f1
  have f2 : (0 : Int) ≤ -ρ 37 + ρ 4 + (-1) := f2
  have f3 : (0 : Int) ≤ 3 * ρ 26 + -ρ 25 + 4 := f3
  have f4 : (0 : Int) ≤ ρ 37 + -ρ 23 + (-1) := f4
  have f5 : (0 : Int) ≤ ρ 38 + -ρ 24 := f5
  have f6 : (0 : Int) ≤ ρ 39 + -ρ 25 := f6
  have f7 : (0 : Int) ≤ ρ 43 + -ρ 31 := f7
  have f8 : (0 : Int) ≤ ρ 44 + -ρ 32 := f8
  have f9 : (0 : Int) ≤ ρ 45 + -ρ 33 := f9
  have f10 : (0 : Int) ≤ -ρ 23 + ρ 4 + (-1) := f10
  have f11 : (0 : Int) ≤ -ρ 38 + ρ 24 + 1 := f11
  have f12 : (0 : Int) ≤ 3 * ρ 40 + -ρ 39 + 4 := f12
  have f13 : (0 : Int) ≤ -ρ 24 + ρ 22 := f13
  have f14 : (0 : Int) ≤ ρ 4 + -ρ 3 + (-1) := f14
  have f15 : (0 : Int) ≤ -ρ 23 + ρ 4 := f15
  have f16 : (0 : Int) ≤ -ρ 22 + ρ 4 + (-1) := f16
  have f17 : (0 : Int) ≤ ρ 33 + -ρ 17 := f17
  have f18 : (0 : Int) ≤ ρ 32 + -ρ 16 := f18
  have f19 : (0 : Int) ≤ ρ 31 + -ρ 15 := f19
  have f20 : (0 : Int) ≤ ρ 23 + -ρ 3 + (-1) := f20
  have f21 : (0 : Int) ≤ ρ 23 + -ρ 22 + (-1) := f21
  have f22 : (0 : Int) ≤ -ρ 34 + ρ 22 + (-1) := f22
  obtain ⟨m0, m1, m2, m3, m4, m5, m6, m7, m8, m9, m10, m11, m12, m13, m14, m15, m16, m17, m18, m19, m20, m21, m22, m23, m24, m25, m26, m27, m28, m29, m30, m31, m32, m33, m34, m35, m36, m37, m38, m39, m40, m41, m42, m43, m44, m45, m46, m47, m48, m49, m50, m51, -⟩ := hm
  have m0 : γ 0 1 0 10 = ρ 0 := m0
  have m1 : γ 0 40 0 (ρ 0) = ρ 1 := m1
  have m2 : γ 0 9 (ρ 1) 2 = ρ 2 := m2
  have m3 : γ 0 2 0 6 = ρ 3 := m3
  have m4 : γ 0 2 0 3 = ρ 4 := m4
  have m5 : γ 0 10 (9 * ρ 1) 5 = ρ 5 := m5
  have m6 : γ 0 10 (9 * ρ 1) 12 = ρ 6 := m6
  have m7 : γ 0 10 (9 * ρ 1) 14 = ρ 7 := m7
  have m8 : γ 0 10 (9 * ρ 1) 4 = ρ 8 := m8
  have m9 : γ 0 2 0 7 = ρ 9 := m9
  have m10 : γ 0 10 (9 * ρ 1) 8 = ρ 10 := m10
  have m11 : γ 0 1 0 7 = ρ 11 := m11
  have m12 : γ 0 2 0 4 = ρ 12 := m12
  have m13 : γ 0 2 0 5 = ρ 13 := m13
  have m14 : γ 0 2 0 9 = ρ 14 := m14
  have m15 : γ 0 2 0 13 = ρ 15 := m15
  have m16 : γ 0 2 0 16 = ρ 16 := m16
  have m17 : γ 0 3 0 1 = ρ 17 := m17
  have m18 : γ 0 10 (9 * ρ 1) 7 = ρ 18 := m18
  have m19 : γ 0 10 (9 * ρ 1) 9 = ρ 19 := m19
  have m20 : γ 0 10 (9 * ρ 1) 13 = ρ 20 := m20
  have m21 : γ 0 10 (9 * ρ 1) 15 = ρ 21 := m21
  have m22 : γ 1 2 0 6 = ρ 23 := m22
  have m23 : γ 1 10 (9 * ρ 1) 5 = ρ 24 := m23
  have m24 : γ 1 10 (9 * ρ 1) 12 = ρ 25 := m24
  have m25 : γ 1 10 (9 * ρ 1) 14 = ρ 26 := m25
  have m26 : γ 1 10 (9 * ρ 1) 4 = ρ 27 := m26
  have m27 : γ 1 10 (9 * ρ 1) 8 = ρ 28 := m27
  have m28 : γ 1 2 0 4 = ρ 12 := m28
  have m29 : γ 1 2 0 5 = ρ 29 := m29
  have m30 : γ 1 2 0 9 = ρ 30 := m30
  have m31 : γ 1 2 0 13 = ρ 31 := m31
  have m32 : γ 1 2 0 16 = ρ 32 := m32
  have m33 : γ 1 3 0 1 = ρ 33 := m33
  have m34 : γ 1 10 (9 * ρ 1) 7 = ρ 14 := m34
  have m35 : γ 1 10 (9 * ρ 1) 9 = ρ 34 := m35
  have m36 : γ 1 10 (9 * ρ 1) 13 = ρ 35 := m36
  have m37 : γ 1 10 (9 * ρ 1) 15 = ρ 36 := m37
  have m38 : γ 2 2 0 6 = ρ 37 := m38
  have m39 : γ 2 10 (9 * ρ 1) 5 = ρ 38 := m39
  have m40 : γ 2 10 (9 * ρ 1) 12 = ρ 39 := m40
  have m41 : γ 2 10 (9 * ρ 1) 14 = ρ 40 := m41
  have m42 : γ 2 2 0 4 = ρ 12 := m42
  have m43 : γ 2 2 0 5 = ρ 41 := m43
  have m44 : γ 2 2 0 9 = ρ 42 := m44
  have m45 : γ 2 2 0 13 = ρ 43 := m45
  have m46 : γ 2 2 0 16 = ρ 44 := m46
  have m47 : γ 2 3 0 1 = ρ 45 := m47
  have m48 : γ 2 10 (9 * ρ 1) 13 = ρ 46 := m48
  have m49 : γ 2 10 (9 * ρ 1) 15 = ρ 47 := m49
  have m50 : γ 3 2 0 6 = ρ 49 := m50
  have m51 : γ 4 2 0 4 = ρ 49 := m51
  obtain ⟨⟨⟨⟨-, c1⟩, c2⟩, c3⟩, c4⟩ := hc
  have c1 : ∀ (G : Nat) (k j : Int), ¬ rMdP m97_ G j → γ 1 G k j = γ 0 G k j := c1
  have c2 : ∀ (G : Nat) (k j : Int), ¬ rMdP m94_ G j → γ 2 G k j = γ 1 G k j := c2
  have c3 : ∀ (G : Nat) (k j : Int), ¬ rMdP m77_ G j → γ 3 G k j = γ 2 G k j := c3
  have c4 : ∀ (G : Nat) (k j : Int), ¬ rMdP m72_ G j → γ 4 G k j = γ 3 G k j := c4
  obtain ⟨l0, l1, l2, l3, l4, -⟩ := hl
  have l0 : sn141 [ρ 0, ρ 1, ρ 2, ρ 23, ρ 4, ρ 24, ρ 25, ρ 26, ρ 27, ρ 12, ρ 29, ρ 30, ρ 31, ρ 32, ρ 33, ρ 35, ρ 36] (γ 1) 0 1 (γ 2) := hS141 _ _ _ _ _ l0
  have l1 : sn114 [ρ 37, ρ 4] (γ 2) 0 (ρ 48) (γ 3) := hS114 _ _ _ _ _ l1
  have l2 : ρ 48 ≠ 41 := l2
  have l3 : ρ 48 ≠ 44 := l3
  have l4 : sn109 [ρ 49, ρ 12] (γ 3) 0 0 (γ 4) := hS109 _ _ _ _ _ l4
  show sn144 [ρ 0, ρ 1, ρ 2, ρ 3, ρ 4, ρ 5, ρ 6, ρ 7, ρ 8, ρ 9, ρ 10, ρ 11, ρ 12, ρ 13, ρ 14, ρ 15, ρ 16, ρ 17, ρ 18, ρ 19, ρ 20, ρ 21] (γ 0) 0 0 (γ 4)
  have hD : en144 (γ 0) (0, [ρ 22], γ 1) = .inr (0, 0, γ 4) := by
    unfold en144
    refine (if_pos (show (0 : Nat) = 0 by decide)).trans ?_
    refine (zLet_eq (show _ = γ 1 from rfl)).trans ?_
    refine (zLet_eq (show _ = ρ 22 from rfl)).trans ?_
    refine (zLet_eq m0).trans ?_
    refine (zLet_eq m1).trans ?_
    refine (zLet_eq m13).trans ?_
    refine (zLet_eq m35).trans ?_
    refine (if_neg (show ¬ (ρ 22 ≥ 4) by omega)).trans ?_
    refine (zLet_eq (show fn141 [] (γ 1) = (0, 1, γ 2) from l0.symm)).trans ?_
    refine (zLet_eq (show _ = γ 2 from rfl)).trans ?_
    refine (if_pos (show (1 : Int) ≤ 1 by omega)).trans ?_
    refine (if_pos (show ρ 34 ≥ 0 by omega)).trans ?_
    refine (zLet_eq (show fn114 [] (γ 2) = (0, ρ 48, γ 3) from l1.symm)).trans ?_
    refine (zLet_eq (show _ = γ 3 from rfl)).trans ?_
    refine (if_pos (show (0 : Int) ≤ ρ 48 by omega)).trans ?_
    refine (zLet_eq (show _ = ρ 48 from rfl)).trans ?_
    refine (zLet_eq m50).trans ?_
    refine (if_neg (show ¬ (ρ 48 = 41) by omega)).trans ?_
    refine (if_neg (show ¬ (ρ 48 = 44) by omega)).trans ?_
    refine (zLet_eq (show fn109 [ρ 49] (γ 3) = (0, 0, γ 4) from l4.symm)).trans ?_
    refine (zLet_eq (show _ = γ 4 from rfl)).trans ?_
    rfl
  exact zGoo_aend hJ hD
theorem vn144a0_9 {S : Nat → zSpc} (hS102 : ∀ x g o v gz, S 102 x g o v gz → sn102 x g o v gz) (hS109 : ∀ x g o v gz, S 109 x g o v gz → sn109 x g o v gz) (hS114 : ∀ x g o v gz, S 114 x g o v gz → sn114 x g o v gz) (hS133 : ∀ x g o v gz, S 133 x g o v gz → sn133 x g o v gz) (hS141 : ∀ x g o v gz, S 141 x g o v gz → sn141 x g o v gz) (hS143 : ∀ x g o v gz, S 143 x g o v gz → sn143 x g o v gz) {a : List Int} {g : rHp} : ∀ (ρ : Nat → Int) (γ : Nat → rHp), jn144 a g 0 (zAg (zNA a144_ 0) ρ) (γ 1) → zO 22 S a g q144a0_9 ρ γ → zGl (fun i vs g1 => jn144 a g i vs g1) (sn144 a g) q144a0_9 ρ γ := by
  intro ρ γ hJ h
  obtain ⟨ha, hg, hr, hf, hm, hc, hl⟩ := h
  have ha : a = [ρ 0, ρ 1, ρ 2, ρ 3, ρ 4, ρ 5, ρ 6, ρ 7, ρ 8, ρ 9, ρ 10, ρ 11, ρ 12, ρ 13, ρ 14, ρ 15, ρ 16, ρ 17, ρ 18, ρ 19, ρ 20, ρ 21] := ha
  subst ha
  subst hg
  have hJ : jn144 [ρ 0, ρ 1, ρ 2, ρ 3, ρ 4, ρ 5, ρ 6, ρ 7, ρ 8, ρ 9, ρ 10, ρ 11, ρ 12, ρ 13, ρ 14, ρ 15, ρ 16, ρ 17, ρ 18, ρ 19, ρ 20, ρ 21] (γ 0) 0 [ρ 0, ρ 1, ρ 2, ρ 3, ρ 4, ρ 5, ρ 6, ρ 7, ρ 8, ρ 9, ρ 10, ρ 11, ρ 12, ρ 13, ρ 14, ρ 15, ρ 16, ρ 17, ρ 18, ρ 19, ρ 20, ρ 21, ρ 22, ρ 23, ρ 24, ρ 25, ρ 26, ρ 27, ρ 28, ρ 29, ρ 30, ρ 31, ρ 32, ρ 33, ρ 34, ρ 35, ρ 36] (γ 1) := hJ
  obtain ⟨r0, r1, r2, r3, r4, r5, r6, r7, r8, r9, r10, r11, r12, r13, r14, r15, r16, r17, r18, r19, r20, r21, r22, r23, r24, r25, r26, r27, r28, r29, r30, r31, r32, r33, r34, r35, r36, r37, r38, r39, r40, r41, r42, r43, r44, r45, r46, r47, r48, -⟩ := hr
  have r0 : (0 : Int) ≤ ρ 0 ∧ ρ 0 ≤ 60 := r0
  have r1 : (0 : Int) ≤ ρ 1 ∧ ρ 1 ≤ 60 := r1
  have r2 : (0 : Int) ≤ ρ 2 ∧ ρ 2 ≤ 8 := r2
  have r3 : (0 : Int) ≤ ρ 3 ∧ ρ 3 ≤ 2000 := r3
  have r4 : (1 : Int) ≤ ρ 4 ∧ ρ 4 ≤ 2000 := r4
  have r5 : (0 : Int) ≤ ρ 5 ∧ ρ 5 ≤ 4 := r5
  have r6 : (0 : Int) ≤ ρ 6 ∧ ρ 6 ≤ 4 := r6
  have r7 : ((-1) : Int) ≤ ρ 7 ∧ ρ 7 ≤ 7 := r7
  have r8 : (0 : Int) ≤ ρ 8 ∧ ρ 8 ≤ 8 := r8
  have r9 : (0 : Int) ≤ ρ 9 ∧ ρ 9 ≤ 2 := r9
  have r10 : ((-1) : Int) ≤ ρ 10 ∧ ρ 10 ≤ 19 := r10
  have r11 : (0 : Int) ≤ ρ 11 ∧ ρ 11 ≤ 20 := r11
  have r12 : ((-2147483648) : Int) ≤ ρ 12 ∧ ρ 12 ≤ 2147483647 := r12
  have r13 : ((-2147483648) : Int) ≤ ρ 13 ∧ ρ 13 ≤ 2147483647 := r13
  have r14 : ((-2147483648) : Int) ≤ ρ 14 ∧ ρ 14 ≤ 2147483647 := r14
  have r15 : (0 : Int) ≤ ρ 15 ∧ ρ 15 ≤ 8 := r15
  have r16 : (0 : Int) ≤ ρ 16 ∧ ρ 16 ≤ 32 := r16
  have r17 : (0 : Int) ≤ ρ 17 ∧ ρ 17 ≤ 5120 := r17
  have r18 : ((-2147483648) : Int) ≤ ρ 18 ∧ ρ 18 ≤ 2147483647 := r18
  have r19 : ((-1) : Int) ≤ ρ 19 ∧ ρ 19 ≤ 3 := r19
  have r20 : (0 : Int) ≤ ρ 20 ∧ ρ 20 ≤ 3 := r20
  have r21 : ((-2147483648) : Int) ≤ ρ 21 ∧ ρ 21 ≤ 2147483647 := r21
  have r22 : (0 : Int) ≤ ρ 22 ∧ ρ 22 ≤ 3 := r22
  have r23 : (1 : Int) ≤ ρ 23 ∧ ρ 23 ≤ 2000 := r23
  have r24 : (0 : Int) ≤ ρ 24 ∧ ρ 24 ≤ 4 := r24
  have r25 : (0 : Int) ≤ ρ 25 ∧ ρ 25 ≤ 4 := r25
  have r26 : ((-1) : Int) ≤ ρ 26 ∧ ρ 26 ≤ 7 := r26
  have r27 : (0 : Int) ≤ ρ 27 ∧ ρ 27 ≤ 0 := r27
  have r28 : ((-1) : Int) ≤ ρ 28 ∧ ρ 28 ≤ (-1) := r28
  have r29 : ((-2147483648) : Int) ≤ ρ 29 ∧ ρ 29 ≤ 2147483647 := r29
  have r30 : ((-2147483648) : Int) ≤ ρ 30 ∧ ρ 30 ≤ 2147483647 := r30
  have r31 : (0 : Int) ≤ ρ 31 ∧ ρ 31 ≤ 8 := r31
  have r32 : (0 : Int) ≤ ρ 32 ∧ ρ 32 ≤ 32 := r32
  have r33 : (0 : Int) ≤ ρ 33 ∧ ρ 33 ≤ 5120 := r33
  have r34 : ((-1) : Int) ≤ ρ 34 ∧ ρ 34 ≤ (-1) := r34
  have r35 : (0 : Int) ≤ ρ 35 ∧ ρ 35 ≤ 3 := r35
  have r36 : ((-2147483648) : Int) ≤ ρ 36 ∧ ρ 36 ≤ 2147483647 := r36
  have r37 : (1 : Int) ≤ ρ 37 ∧ ρ 37 ≤ 2000 := r37
  have r38 : (1 : Int) ≤ ρ 38 ∧ ρ 38 ≤ 4 := r38
  have r39 : (0 : Int) ≤ ρ 39 ∧ ρ 39 ≤ 4 := r39
  have r40 : ((-1) : Int) ≤ ρ 40 ∧ ρ 40 ≤ 7 := r40
  have r41 : ((-2147483648) : Int) ≤ ρ 41 ∧ ρ 41 ≤ 2147483647 := r41
  have r42 : ((-2147483648) : Int) ≤ ρ 42 ∧ ρ 42 ≤ 2147483647 := r42
  have r43 : (0 : Int) ≤ ρ 43 ∧ ρ 43 ≤ 8 := r43
  have r44 : (0 : Int) ≤ ρ 44 ∧ ρ 44 ≤ 32 := r44
  have r45 : (0 : Int) ≤ ρ 45 ∧ ρ 45 ≤ 5120 := r45
  have r46 : (0 : Int) ≤ ρ 46 ∧ ρ 46 ≤ 3 := r46
  have r47 : ((-2147483648) : Int) ≤ ρ 47 ∧ ρ 47 ≤ 2147483647 := r47
  have r48 : (0 : Int) ≤ ρ 48 ∧ ρ 48 ≤ 2000 := r48
  obtain ⟨f0, f1, f2, f3, f4, f5, f6, f7, f8, f9, f10, f11, f12, f13, f14, f15, f16, f17, f18, f19, f20, f21, -⟩ := hf
  have f0 : (0 : Int) ≤ ρ 48 + -ρ 37 := f0
  have f1 : (0 : Int) ≤ ρ 48 + -ρ 4 := f1
  have f2 : (0 : Int) ≤ 3 * ρ 26 + -ρ 25 + 4 := f2
  have f3 : (0 : Int) ≤ ρ 37 + -ρ 23 + (-1) := f3
  have f4 : (0 : Int) ≤ ρ 38 + -ρ 24 := f4
  have f5 : (0 : Int) ≤ ρ 39 + -ρ 25 := f5
  have f6 : (0 : Int) ≤ ρ 43 + -ρ 31 := f6
  have f7 : (0 : Int) ≤ ρ 44 + -ρ 32 := f7
  have f8 : (0 : Int) ≤ ρ 45 + -ρ 33 := f8
  have f9 : (0 : Int) ≤ -ρ 23 + ρ 4 + (-1) := f9
  have f10 : (0 : Int) ≤ -ρ 38 + ρ 24 + 1 := f10
  have f11 : (0 : Int) ≤ 3 * ρ 40 + -ρ 39 + 4 := f11
  have f12 : (0 : Int) ≤ -ρ 24 + ρ 22 := f12
  have f13 : (0 : Int) ≤ ρ 4 + -ρ 3 + (-1) := f13
  have f14 : (0 : Int) ≤ -ρ 23 + ρ 4 := f14
  have f15 : (0 : Int) ≤ -ρ 22 + ρ 4 + (-1) := f15
  have f16 : (0 : Int) ≤ ρ 33 + -ρ 17 := f16
  have f17 : (0 : Int) ≤ ρ 32 + -ρ 16 := f17
  have f18 : (0 : Int) ≤ ρ 31 + -ρ 15 := f18
  have f19 : (0 : Int) ≤ ρ 23 + -ρ 3 + (-1) := f19
  have f20 : (0 : Int) ≤ ρ 23 + -ρ 22 + (-1) := f20
  have f21 : (0 : Int) ≤ -ρ 34 + ρ 22 + (-1) := f21
  obtain ⟨m0, m1, m2, m3, m4, m5, m6, m7, m8, m9, m10, m11, m12, m13, m14, m15, m16, m17, m18, m19, m20, m21, m22, m23, m24, m25, m26, m27, m28, m29, m30, m31, m32, m33, m34, m35, m36, m37, m38, m39, m40, m41, m42, m43, m44, m45, m46, m47, m48, m49, m50, m51, -⟩ := hm
  have m0 : γ 0 1 0 10 = ρ 0 := m0
  have m1 : γ 0 40 0 (ρ 0) = ρ 1 := m1
  have m2 : γ 0 9 (ρ 1) 2 = ρ 2 := m2
  have m3 : γ 0 2 0 6 = ρ 3 := m3
  have m4 : γ 0 2 0 3 = ρ 4 := m4
  have m5 : γ 0 10 (9 * ρ 1) 5 = ρ 5 := m5
  have m6 : γ 0 10 (9 * ρ 1) 12 = ρ 6 := m6
  have m7 : γ 0 10 (9 * ρ 1) 14 = ρ 7 := m7
  have m8 : γ 0 10 (9 * ρ 1) 4 = ρ 8 := m8
  have m9 : γ 0 2 0 7 = ρ 9 := m9
  have m10 : γ 0 10 (9 * ρ 1) 8 = ρ 10 := m10
  have m11 : γ 0 1 0 7 = ρ 11 := m11
  have m12 : γ 0 2 0 4 = ρ 12 := m12
  have m13 : γ 0 2 0 5 = ρ 13 := m13
  have m14 : γ 0 2 0 9 = ρ 14 := m14
  have m15 : γ 0 2 0 13 = ρ 15 := m15
  have m16 : γ 0 2 0 16 = ρ 16 := m16
  have m17 : γ 0 3 0 1 = ρ 17 := m17
  have m18 : γ 0 10 (9 * ρ 1) 7 = ρ 18 := m18
  have m19 : γ 0 10 (9 * ρ 1) 9 = ρ 19 := m19
  have m20 : γ 0 10 (9 * ρ 1) 13 = ρ 20 := m20
  have m21 : γ 0 10 (9 * ρ 1) 15 = ρ 21 := m21
  have m22 : γ 1 2 0 6 = ρ 23 := m22
  have m23 : γ 1 10 (9 * ρ 1) 5 = ρ 24 := m23
  have m24 : γ 1 10 (9 * ρ 1) 12 = ρ 25 := m24
  have m25 : γ 1 10 (9 * ρ 1) 14 = ρ 26 := m25
  have m26 : γ 1 10 (9 * ρ 1) 4 = ρ 27 := m26
  have m27 : γ 1 10 (9 * ρ 1) 8 = ρ 28 := m27
  have m28 : γ 1 2 0 4 = ρ 12 := m28
  have m29 : γ 1 2 0 5 = ρ 29 := m29
  have m30 : γ 1 2 0 9 = ρ 30 := m30
  have m31 : γ 1 2 0 13 = ρ 31 := m31
  have m32 : γ 1 2 0 16 = ρ 32 := m32
  have m33 : γ 1 3 0 1 = ρ 33 := m33
  have m34 : γ 1 10 (9 * ρ 1) 7 = ρ 14 := m34
  have m35 : γ 1 10 (9 * ρ 1) 9 = ρ 34 := m35
  have m36 : γ 1 10 (9 * ρ 1) 13 = ρ 35 := m36
  have m37 : γ 1 10 (9 * ρ 1) 15 = ρ 36 := m37
  have m38 : γ 2 2 0 6 = ρ 37 := m38
  have m39 : γ 2 10 (9 * ρ 1) 5 = ρ 38 := m39
  have m40 : γ 2 10 (9 * ρ 1) 12 = ρ 39 := m40
  have m41 : γ 2 10 (9 * ρ 1) 14 = ρ 40 := m41
  have m42 : γ 2 2 0 4 = ρ 12 := m42
  have m43 : γ 2 2 0 5 = ρ 41 := m43
  have m44 : γ 2 2 0 9 = ρ 42 := m44
  have m45 : γ 2 2 0 13 = ρ 43 := m45
  have m46 : γ 2 2 0 16 = ρ 44 := m46
  have m47 : γ 2 3 0 1 = ρ 45 := m47
  have m48 : γ 2 10 (9 * ρ 1) 13 = ρ 46 := m48
  have m49 : γ 2 10 (9 * ρ 1) 15 = ρ 47 := m49
  have m50 : γ 4 2 0 6 = ρ 48 := m50
  have m51 : γ 5 2 0 4 = ρ 48 := m51
  obtain ⟨⟨⟨⟨⟨-, c1⟩, c2⟩, c3⟩, c4⟩, c5⟩ := hc
  have c1 : ∀ (G : Nat) (k j : Int), ¬ rMdP m97_ G j → γ 1 G k j = γ 0 G k j := c1
  have c2 : ∀ (G : Nat) (k j : Int), ¬ rMdP m94_ G j → γ 2 G k j = γ 1 G k j := c2
  have c3 : ∀ (G : Nat) (k j : Int), ¬ rMdP m0_ G j → γ 3 G k j = γ 2 G k j := c3
  have c4 : ∀ (G : Nat) (k j : Int), ¬ rMdP m77_ G j → γ 4 G k j = γ 3 G k j := c4
  have c5 : ∀ (G : Nat) (k j : Int), ¬ rMdP m72_ G j → γ 5 G k j = γ 4 G k j := c5
  obtain ⟨l0, l1, l2, l3, -⟩ := hl
  have l0 : sn141 [ρ 0, ρ 1, ρ 2, ρ 23, ρ 4, ρ 24, ρ 25, ρ 26, ρ 27, ρ 12, ρ 29, ρ 30, ρ 31, ρ 32, ρ 33, ρ 35, ρ 36] (γ 1) 0 1 (γ 2) := hS141 _ _ _ _ _ l0
  have l1 : sn143 [9 * ρ 1, ρ 22, ρ 13] (γ 2) 0 0 (γ 3) := hS143 _ _ _ _ _ l1
  have l2 : sn114 [ρ 37, ρ 4] (γ 3) 0 (-1) (γ 4) := hS114 _ _ _ _ _ l2
  have l3 : sn109 [ρ 48, ρ 12] (γ 4) 0 0 (γ 5) := hS109 _ _ _ _ _ l3
  show sn144 [ρ 0, ρ 1, ρ 2, ρ 3, ρ 4, ρ 5, ρ 6, ρ 7, ρ 8, ρ 9, ρ 10, ρ 11, ρ 12, ρ 13, ρ 14, ρ 15, ρ 16, ρ 17, ρ 18, ρ 19, ρ 20, ρ 21] (γ 0) 0 0 (γ 5)
  have hD : en144 (γ 0) (0, [ρ 22], γ 1) = .inr (0, 0, γ 5) := by
    unfold en144
    refine (if_pos (show (0 : Nat) = 0 by decide)).trans ?_
    refine (zLet_eq (show _ = γ 1 from rfl)).trans ?_
    refine (zLet_eq (show _ = ρ 22 from rfl)).trans ?_
    refine (zLet_eq m0).trans ?_
    refine (zLet_eq m1).trans ?_
    refine (zLet_eq m13).trans ?_
    refine (zLet_eq m35).trans ?_
    refine (if_neg (show ¬ (ρ 22 ≥ 4) by omega)).trans ?_
    refine (zLet_eq (show fn141 [] (γ 1) = (0, 1, γ 2) from l0.symm)).trans ?_
    refine (zLet_eq (show _ = γ 2 from rfl)).trans ?_
    refine (if_pos (show (1 : Int) ≤ 1 by omega)).trans ?_
    refine (if_neg (show ¬ (ρ 34 ≥ 0) by omega)).trans ?_
    refine (zLet_eq (show fn143 [9 * ρ 1, ρ 22, ρ 13] (γ 2) = (0, 0, γ 3) from l1.symm)).trans ?_
    refine (zLet_eq (show _ = γ 3 from rfl)).trans ?_
    refine (if_neg (show ¬ ((1 : Int) ≤ 0) by omega)).trans ?_
    refine (zLet_eq (show fn114 [] (γ 3) = (0, (-1), γ 4) from l2.symm)).trans ?_
    refine (zLet_eq (show _ = γ 4 from rfl)).trans ?_
    refine (if_neg (show ¬ ((0 : Int) ≤ (-1)) by omega)).trans ?_
    refine (zLet_eq m50).trans ?_
    refine (zLet_eq (show fn109 [ρ 48] (γ 4) = (0, 0, γ 5) from l3.symm)).trans ?_
    refine (zLet_eq (show _ = γ 5 from rfl)).trans ?_
    rfl
  exact zGoo_aend hJ hD
theorem vn144a0_10 {S : Nat → zSpc} (hS102 : ∀ x g o v gz, S 102 x g o v gz → sn102 x g o v gz) (hS109 : ∀ x g o v gz, S 109 x g o v gz → sn109 x g o v gz) (hS114 : ∀ x g o v gz, S 114 x g o v gz → sn114 x g o v gz) (hS133 : ∀ x g o v gz, S 133 x g o v gz → sn133 x g o v gz) (hS141 : ∀ x g o v gz, S 141 x g o v gz → sn141 x g o v gz) (hS143 : ∀ x g o v gz, S 143 x g o v gz → sn143 x g o v gz) {a : List Int} {g : rHp} : ∀ (ρ : Nat → Int) (γ : Nat → rHp), jn144 a g 0 (zAg (zNA a144_ 0) ρ) (γ 1) → zO 22 S a g q144a0_10 ρ γ → zGl (fun i vs g1 => jn144 a g i vs g1) (sn144 a g) q144a0_10 ρ γ := by
  intro ρ γ hJ h
  obtain ⟨ha, hg, hr, hf, hm, hc, hl⟩ := h
  have ha : a = [ρ 0, ρ 1, ρ 2, ρ 3, ρ 4, ρ 5, ρ 6, ρ 7, ρ 8, ρ 9, ρ 10, ρ 11, ρ 12, ρ 13, ρ 14, ρ 15, ρ 16, ρ 17, ρ 18, ρ 19, ρ 20, ρ 21] := ha
  subst ha
  subst hg
  have hJ : jn144 [ρ 0, ρ 1, ρ 2, ρ 3, ρ 4, ρ 5, ρ 6, ρ 7, ρ 8, ρ 9, ρ 10, ρ 11, ρ 12, ρ 13, ρ 14, ρ 15, ρ 16, ρ 17, ρ 18, ρ 19, ρ 20, ρ 21] (γ 0) 0 [ρ 0, ρ 1, ρ 2, ρ 3, ρ 4, ρ 5, ρ 6, ρ 7, ρ 8, ρ 9, ρ 10, ρ 11, ρ 12, ρ 13, ρ 14, ρ 15, ρ 16, ρ 17, ρ 18, ρ 19, ρ 20, ρ 21, ρ 22, ρ 23, ρ 24, ρ 25, ρ 26, ρ 27, ρ 28, ρ 29, ρ 30, ρ 31, ρ 32, ρ 33, ρ 34, ρ 35, ρ 36] (γ 1) := hJ
  obtain ⟨r0, r1, r2, r3, r4, r5, r6, r7, r8, r9, r10, r11, r12, r13, r14, r15, r16, r17, r18, r19, r20, r21, r22, r23, r24, r25, r26, r27, r28, r29, r30, r31, r32, r33, r34, r35, r36, r37, r38, r39, r40, r41, r42, r43, r44, r45, r46, r47, r48, r49, r50, r51, -⟩ := hr
  have r0 : (0 : Int) ≤ ρ 0 ∧ ρ 0 ≤ 60 := r0
  have r1 : (0 : Int) ≤ ρ 1 ∧ ρ 1 ≤ 60 := r1
  have r2 : (0 : Int) ≤ ρ 2 ∧ ρ 2 ≤ 8 := r2
  have r3 : (0 : Int) ≤ ρ 3 ∧ ρ 3 ≤ 2000 := r3
  have r4 : (1 : Int) ≤ ρ 4 ∧ ρ 4 ≤ 2000 := r4
  have r5 : (0 : Int) ≤ ρ 5 ∧ ρ 5 ≤ 4 := r5
  have r6 : (0 : Int) ≤ ρ 6 ∧ ρ 6 ≤ 4 := r6
  have r7 : ((-1) : Int) ≤ ρ 7 ∧ ρ 7 ≤ 7 := r7
  have r8 : (0 : Int) ≤ ρ 8 ∧ ρ 8 ≤ 8 := r8
  have r9 : (0 : Int) ≤ ρ 9 ∧ ρ 9 ≤ 2 := r9
  have r10 : ((-1) : Int) ≤ ρ 10 ∧ ρ 10 ≤ 19 := r10
  have r11 : (0 : Int) ≤ ρ 11 ∧ ρ 11 ≤ 20 := r11
  have r12 : ((-2147483648) : Int) ≤ ρ 12 ∧ ρ 12 ≤ 2147483647 := r12
  have r13 : ((-2147483648) : Int) ≤ ρ 13 ∧ ρ 13 ≤ 2147483647 := r13
  have r14 : ((-2147483648) : Int) ≤ ρ 14 ∧ ρ 14 ≤ 2147483647 := r14
  have r15 : (0 : Int) ≤ ρ 15 ∧ ρ 15 ≤ 8 := r15
  have r16 : (0 : Int) ≤ ρ 16 ∧ ρ 16 ≤ 32 := r16
  have r17 : (0 : Int) ≤ ρ 17 ∧ ρ 17 ≤ 5120 := r17
  have r18 : ((-2147483648) : Int) ≤ ρ 18 ∧ ρ 18 ≤ 2147483647 := r18
  have r19 : ((-1) : Int) ≤ ρ 19 ∧ ρ 19 ≤ 3 := r19
  have r20 : (0 : Int) ≤ ρ 20 ∧ ρ 20 ≤ 3 := r20
  have r21 : ((-2147483648) : Int) ≤ ρ 21 ∧ ρ 21 ≤ 2147483647 := r21
  have r22 : (0 : Int) ≤ ρ 22 ∧ ρ 22 ≤ 3 := r22
  have r23 : (1 : Int) ≤ ρ 23 ∧ ρ 23 ≤ 2000 := r23
  have r24 : (0 : Int) ≤ ρ 24 ∧ ρ 24 ≤ 4 := r24
  have r25 : (0 : Int) ≤ ρ 25 ∧ ρ 25 ≤ 4 := r25
  have r26 : ((-1) : Int) ≤ ρ 26 ∧ ρ 26 ≤ 7 := r26
  have r27 : (0 : Int) ≤ ρ 27 ∧ ρ 27 ≤ 0 := r27
  have r28 : ((-1) : Int) ≤ ρ 28 ∧ ρ 28 ≤ (-1) := r28
  have r29 : ((-2147483648) : Int) ≤ ρ 29 ∧ ρ 29 ≤ 2147483647 := r29
  have r30 : ((-2147483648) : Int) ≤ ρ 30 ∧ ρ 30 ≤ 2147483647 := r30
  have r31 : (0 : Int) ≤ ρ 31 ∧ ρ 31 ≤ 8 := r31
  have r32 : (0 : Int) ≤ ρ 32 ∧ ρ 32 ≤ 32 := r32
  have r33 : (0 : Int) ≤ ρ 33 ∧ ρ 33 ≤ 5120 := r33
  have r34 : ((-1) : Int) ≤ ρ 34 ∧ ρ 34 ≤ (-1) := r34
  have r35 : (0 : Int) ≤ ρ 35 ∧ ρ 35 ≤ 3 := r35
  have r36 : ((-2147483648) : Int) ≤ ρ 36 ∧ ρ 36 ≤ 2147483647 := r36
  have r37 : (1 : Int) ≤ ρ 37 ∧ ρ 37 ≤ 2000 := r37
  have r38 : (1 : Int) ≤ ρ 38 ∧ ρ 38 ≤ 4 := r38
  have r39 : (0 : Int) ≤ ρ 39 ∧ ρ 39 ≤ 4 := r39
  have r40 : ((-1) : Int) ≤ ρ 40 ∧ ρ 40 ≤ 7 := r40
  have r41 : ((-2147483648) : Int) ≤ ρ 41 ∧ ρ 41 ≤ 2147483647 := r41
  have r42 : ((-2147483648) : Int) ≤ ρ 42 ∧ ρ 42 ≤ 2147483647 := r42
  have r43 : (0 : Int) ≤ ρ 43 ∧ ρ 43 ≤ 8 := r43
  have r44 : (0 : Int) ≤ ρ 44 ∧ ρ 44 ≤ 32 := r44
  have r45 : (0 : Int) ≤ ρ 45 ∧ ρ 45 ≤ 5120 := r45
  have r46 : (0 : Int) ≤ ρ 46 ∧ ρ 46 ≤ 3 := r46
  have r47 : ((-2147483648) : Int) ≤ ρ 47 ∧ ρ 47 ≤ 2147483647 := r47
  have r48 : (41 : Int) ≤ ρ 48 ∧ ρ 48 ≤ 41 := r48
  have r49 : (0 : Int) ≤ ρ 49 ∧ ρ 49 ≤ 2000 := r49
  have r50 : ((-1) : Int) ≤ ρ 50 ∧ ρ 50 ≤ (-1) := r50
  have r51 : (0 : Int) ≤ ρ 51 ∧ ρ 51 ≤ 20 := r51
  obtain ⟨f0, f1, f2, f3, f4, f5, f6, f7, f8, f9, f10, f11, f12, f13, f14, f15, f16, f17, f18, f19, f20, f21, f22, f23, -⟩ := hf
  have f0 : (0 : Int) ≤ ρ 51 + -ρ 11 := f0
  have f1 : (0 : Int) ≤ ρ 49 + -ρ 37 := f1
  have f2 : (0 : Int) ≤ -ρ 49 + ρ 4 + (-1) := f2
  have f3 : (0 : Int) ≤ -ρ 37 + ρ 4 + (-1) := f3
  have f4 : (0 : Int) ≤ 3 * ρ 26 + -ρ 25 + 4 := f4
  have f5 : (0 : Int) ≤ ρ 37 + -ρ 23 + (-1) := f5
  have f6 : (0 : Int) ≤ ρ 38 + -ρ 24 := f6
  have f7 : (0 : Int) ≤ ρ 39 + -ρ 25 := f7
  have f8 : (0 : Int) ≤ ρ 43 + -ρ 31 := f8
  have f9 : (0 : Int) ≤ ρ 44 + -ρ 32 := f9
  have f10 : (0 : Int) ≤ ρ 45 + -ρ 33 := f10
  have f11 : (0 : Int) ≤ -ρ 23 + ρ 4 + (-1) := f11
  have f12 : (0 : Int) ≤ -ρ 38 + ρ 24 + 1 := f12
  have f13 : (0 : Int) ≤ 3 * ρ 40 + -ρ 39 + 4 := f13
  have f14 : (0 : Int) ≤ -ρ 24 + ρ 22 := f14
  have f15 : (0 : Int) ≤ ρ 4 + -ρ 3 + (-1) := f15
  have f16 : (0 : Int) ≤ -ρ 23 + ρ 4 := f16
  have f17 : (0 : Int) ≤ -ρ 22 + ρ 4 + (-1) := f17
  have f18 : (0 : Int) ≤ ρ 33 + -ρ 17 := f18
  have f19 : (0 : Int) ≤ ρ 32 + -ρ 16 := f19
  have f20 : (0 : Int) ≤ ρ 31 + -ρ 15 := f20
  have f21 : (0 : Int) ≤ ρ 23 + -ρ 3 + (-1) := f21
  have f22 : (0 : Int) ≤ ρ 23 + -ρ 22 + (-1) := f22
  have f23 : (0 : Int) ≤ -ρ 34 + ρ 22 + (-1) := f23
  obtain ⟨m0, m1, m2, m3, m4, m5, m6, m7, m8, m9, m10, m11, m12, m13, m14, m15, m16, m17, m18, m19, m20, m21, m22, m23, m24, m25, m26, m27, m28, m29, m30, m31, m32, m33, m34, m35, m36, m37, m38, m39, m40, m41, m42, m43, m44, m45, m46, m47, m48, m49, m50, m51, m52, m53, -⟩ := hm
  have m0 : γ 0 1 0 10 = ρ 0 := m0
  have m1 : γ 0 40 0 (ρ 0) = ρ 1 := m1
  have m2 : γ 0 9 (ρ 1) 2 = ρ 2 := m2
  have m3 : γ 0 2 0 6 = ρ 3 := m3
  have m4 : γ 0 2 0 3 = ρ 4 := m4
  have m5 : γ 0 10 (9 * ρ 1) 5 = ρ 5 := m5
  have m6 : γ 0 10 (9 * ρ 1) 12 = ρ 6 := m6
  have m7 : γ 0 10 (9 * ρ 1) 14 = ρ 7 := m7
  have m8 : γ 0 10 (9 * ρ 1) 4 = ρ 8 := m8
  have m9 : γ 0 2 0 7 = ρ 9 := m9
  have m10 : γ 0 10 (9 * ρ 1) 8 = ρ 10 := m10
  have m11 : γ 0 1 0 7 = ρ 11 := m11
  have m12 : γ 0 2 0 4 = ρ 12 := m12
  have m13 : γ 0 2 0 5 = ρ 13 := m13
  have m14 : γ 0 2 0 9 = ρ 14 := m14
  have m15 : γ 0 2 0 13 = ρ 15 := m15
  have m16 : γ 0 2 0 16 = ρ 16 := m16
  have m17 : γ 0 3 0 1 = ρ 17 := m17
  have m18 : γ 0 10 (9 * ρ 1) 7 = ρ 18 := m18
  have m19 : γ 0 10 (9 * ρ 1) 9 = ρ 19 := m19
  have m20 : γ 0 10 (9 * ρ 1) 13 = ρ 20 := m20
  have m21 : γ 0 10 (9 * ρ 1) 15 = ρ 21 := m21
  have m22 : γ 1 2 0 6 = ρ 23 := m22
  have m23 : γ 1 10 (9 * ρ 1) 5 = ρ 24 := m23
  have m24 : γ 1 10 (9 * ρ 1) 12 = ρ 25 := m24
  have m25 : γ 1 10 (9 * ρ 1) 14 = ρ 26 := m25
  have m26 : γ 1 10 (9 * ρ 1) 4 = ρ 27 := m26
  have m27 : γ 1 10 (9 * ρ 1) 8 = ρ 28 := m27
  have m28 : γ 1 2 0 4 = ρ 12 := m28
  have m29 : γ 1 2 0 5 = ρ 29 := m29
  have m30 : γ 1 2 0 9 = ρ 30 := m30
  have m31 : γ 1 2 0 13 = ρ 31 := m31
  have m32 : γ 1 2 0 16 = ρ 32 := m32
  have m33 : γ 1 3 0 1 = ρ 33 := m33
  have m34 : γ 1 10 (9 * ρ 1) 7 = ρ 14 := m34
  have m35 : γ 1 10 (9 * ρ 1) 9 = ρ 34 := m35
  have m36 : γ 1 10 (9 * ρ 1) 13 = ρ 35 := m36
  have m37 : γ 1 10 (9 * ρ 1) 15 = ρ 36 := m37
  have m38 : γ 2 2 0 6 = ρ 37 := m38
  have m39 : γ 2 10 (9 * ρ 1) 5 = ρ 38 := m39
  have m40 : γ 2 10 (9 * ρ 1) 12 = ρ 39 := m40
  have m41 : γ 2 10 (9 * ρ 1) 14 = ρ 40 := m41
  have m42 : γ 2 2 0 4 = ρ 12 := m42
  have m43 : γ 2 2 0 5 = ρ 41 := m43
  have m44 : γ 2 2 0 9 = ρ 42 := m44
  have m45 : γ 2 2 0 13 = ρ 43 := m45
  have m46 : γ 2 2 0 16 = ρ 44 := m46
  have m47 : γ 2 3 0 1 = ρ 45 := m47
  have m48 : γ 2 10 (9 * ρ 1) 13 = ρ 46 := m48
  have m49 : γ 2 10 (9 * ρ 1) 15 = ρ 47 := m49
  have m50 : γ 4 2 0 6 = ρ 49 := m50
  have m51 : γ 6 10 (9 * ρ 1) 8 = ρ 50 := m51
  have m52 : γ 6 1 0 7 = ρ 51 := m52
  have m53 : γ 6 2 0 4 = ρ 14 := m53
  obtain ⟨⟨⟨⟨⟨⟨-, c1⟩, c2⟩, c3⟩, c4⟩, c5⟩, c6⟩ := hc
  have c1 : ∀ (G : Nat) (k j : Int), ¬ rMdP m97_ G j → γ 1 G k j = γ 0 G k j := c1
  have c2 : ∀ (G : Nat) (k j : Int), ¬ rMdP m94_ G j → γ 2 G k j = γ 1 G k j := c2
  have c3 : ∀ (G : Nat) (k j : Int), ¬ rMdP m0_ G j → γ 3 G k j = γ 2 G k j := c3
  have c4 : ∀ (G : Nat) (k j : Int), ¬ rMdP m77_ G j → γ 4 G k j = γ 3 G k j := c4
  have c5 : γ 5 = rUp (γ 4) 2 0 6 (ρ 49 + 1) := c5
  have c6 : ∀ (G : Nat) (k j : Int), ¬ rMdP m87_ G j → γ 6 G k j = γ 5 G k j := c6
  obtain ⟨l0, l1, l2, l3, -⟩ := hl
  have l0 : sn141 [ρ 0, ρ 1, ρ 2, ρ 23, ρ 4, ρ 24, ρ 25, ρ 26, ρ 27, ρ 12, ρ 29, ρ 30, ρ 31, ρ 32, ρ 33, ρ 35, ρ 36] (γ 1) 0 1 (γ 2) := hS141 _ _ _ _ _ l0
  have l1 : sn143 [9 * ρ 1, ρ 22, ρ 13] (γ 2) 0 0 (γ 3) := hS143 _ _ _ _ _ l1
  have l2 : sn114 [ρ 37, ρ 4] (γ 3) 0 (ρ 48) (γ 4) := hS114 _ _ _ _ _ l2
  have l3 : sn133 [ρ 0, ρ 1, ρ 2, ρ 9, ρ 28, ρ 11, ρ 12, ρ 38, ρ 14] (γ 5) 0 0 (γ 6) := hS133 _ _ _ _ _ l3
  show sn144 [ρ 0, ρ 1, ρ 2, ρ 3, ρ 4, ρ 5, ρ 6, ρ 7, ρ 8, ρ 9, ρ 10, ρ 11, ρ 12, ρ 13, ρ 14, ρ 15, ρ 16, ρ 17, ρ 18, ρ 19, ρ 20, ρ 21] (γ 0) 0 0 (γ 6)
  have hD : en144 (γ 0) (0, [ρ 22], γ 1) = .inr (0, 0, γ 6) := by
    unfold en144
    refine (if_pos (show (0 : Nat) = 0 by decide)).trans ?_
    refine (zLet_eq (show _ = γ 1 from rfl)).trans ?_
    refine (zLet_eq (show _ = ρ 22 from rfl)).trans ?_
    refine (zLet_eq m0).trans ?_
    refine (zLet_eq m1).trans ?_
    refine (zLet_eq m13).trans ?_
    refine (zLet_eq m35).trans ?_
    refine (if_neg (show ¬ (ρ 22 ≥ 4) by omega)).trans ?_
    refine (zLet_eq (show fn141 [] (γ 1) = (0, 1, γ 2) from l0.symm)).trans ?_
    refine (zLet_eq (show _ = γ 2 from rfl)).trans ?_
    refine (if_pos (show (1 : Int) ≤ 1 by omega)).trans ?_
    refine (if_neg (show ¬ (ρ 34 ≥ 0) by omega)).trans ?_
    refine (zLet_eq (show fn143 [9 * ρ 1, ρ 22, ρ 13] (γ 2) = (0, 0, γ 3) from l1.symm)).trans ?_
    refine (zLet_eq (show _ = γ 3 from rfl)).trans ?_
    refine (if_neg (show ¬ ((1 : Int) ≤ 0) by omega)).trans ?_
    refine (zLet_eq (show fn114 [] (γ 3) = (0, ρ 48, γ 4) from l2.symm)).trans ?_
    refine (zLet_eq (show _ = γ 4 from rfl)).trans ?_
    refine (if_pos (show (0 : Int) ≤ ρ 48 by omega)).trans ?_
    refine (zLet_eq (show _ = ρ 48 from rfl)).trans ?_
    refine (zLet_eq m50).trans ?_
    refine (if_pos (show ρ 48 = 41 by omega)).trans ?_
    refine (zLet_eq c5.symm).trans ?_
    refine (zLet_eq (show fn133 [] (γ 5) = (0, 0, γ 6) from l3.symm)).trans ?_
    refine (zLet_eq (show _ = γ 6 from rfl)).trans ?_
    refine (if_neg (show ¬ ((1 : Int) ≤ 0) by omega)).trans ?_
    rfl
  exact zGoo_aend hJ hD
theorem vn144a0_11 {S : Nat → zSpc} (hS102 : ∀ x g o v gz, S 102 x g o v gz → sn102 x g o v gz) (hS109 : ∀ x g o v gz, S 109 x g o v gz → sn109 x g o v gz) (hS114 : ∀ x g o v gz, S 114 x g o v gz → sn114 x g o v gz) (hS133 : ∀ x g o v gz, S 133 x g o v gz → sn133 x g o v gz) (hS141 : ∀ x g o v gz, S 141 x g o v gz → sn141 x g o v gz) (hS143 : ∀ x g o v gz, S 143 x g o v gz → sn143 x g o v gz) {a : List Int} {g : rHp} : ∀ (ρ : Nat → Int) (γ : Nat → rHp), jn144 a g 0 (zAg (zNA a144_ 0) ρ) (γ 1) → zO 22 S a g q144a0_11 ρ γ → zGl (fun i vs g1 => jn144 a g i vs g1) (sn144 a g) q144a0_11 ρ γ := by
  intro ρ γ hJ h
  obtain ⟨ha, hg, hr, hf, hm, hc, hl⟩ := h
  have ha : a = [ρ 0, ρ 1, ρ 2, ρ 3, ρ 4, ρ 5, ρ 6, ρ 7, ρ 8, ρ 9, ρ 10, ρ 11, ρ 12, ρ 13, ρ 14, ρ 15, ρ 16, ρ 17, ρ 18, ρ 19, ρ 20, ρ 21] := ha
  subst ha
  subst hg
  have hJ : jn144 [ρ 0, ρ 1, ρ 2, ρ 3, ρ 4, ρ 5, ρ 6, ρ 7, ρ 8, ρ 9, ρ 10, ρ 11, ρ 12, ρ 13, ρ 14, ρ 15, ρ 16, ρ 17, ρ 18, ρ 19, ρ 20, ρ 21] (γ 0) 0 [ρ 0, ρ 1, ρ 2, ρ 3, ρ 4, ρ 5, ρ 6, ρ 7, ρ 8, ρ 9, ρ 10, ρ 11, ρ 12, ρ 13, ρ 14, ρ 15, ρ 16, ρ 17, ρ 18, ρ 19, ρ 20, ρ 21, ρ 22, ρ 23, ρ 24, ρ 25, ρ 26, ρ 27, ρ 28, ρ 29, ρ 30, ρ 31, ρ 32, ρ 33, ρ 34, ρ 35, ρ 36] (γ 1) := hJ
  obtain ⟨r0, r1, r2, r3, r4, r5, r6, r7, r8, r9, r10, r11, r12, r13, r14, r15, r16, r17, r18, r19, r20, r21, r22, r23, r24, r25, r26, r27, r28, r29, r30, r31, r32, r33, r34, r35, r36, r37, r38, r39, r40, r41, r42, r43, r44, r45, r46, r47, r48, r49, r50, -⟩ := hr
  have r0 : (0 : Int) ≤ ρ 0 ∧ ρ 0 ≤ 60 := r0
  have r1 : (0 : Int) ≤ ρ 1 ∧ ρ 1 ≤ 60 := r1
  have r2 : (0 : Int) ≤ ρ 2 ∧ ρ 2 ≤ 8 := r2
  have r3 : (0 : Int) ≤ ρ 3 ∧ ρ 3 ≤ 2000 := r3
  have r4 : (1 : Int) ≤ ρ 4 ∧ ρ 4 ≤ 2000 := r4
  have r5 : (0 : Int) ≤ ρ 5 ∧ ρ 5 ≤ 4 := r5
  have r6 : (0 : Int) ≤ ρ 6 ∧ ρ 6 ≤ 4 := r6
  have r7 : ((-1) : Int) ≤ ρ 7 ∧ ρ 7 ≤ 7 := r7
  have r8 : (0 : Int) ≤ ρ 8 ∧ ρ 8 ≤ 8 := r8
  have r9 : (1 : Int) ≤ ρ 9 ∧ ρ 9 ≤ 1 := r9
  have r10 : ((-1) : Int) ≤ ρ 10 ∧ ρ 10 ≤ 19 := r10
  have r11 : (0 : Int) ≤ ρ 11 ∧ ρ 11 ≤ 20 := r11
  have r12 : ((-2147483648) : Int) ≤ ρ 12 ∧ ρ 12 ≤ 2147483647 := r12
  have r13 : ((-2147483648) : Int) ≤ ρ 13 ∧ ρ 13 ≤ 2147483647 := r13
  have r14 : ((-2147483648) : Int) ≤ ρ 14 ∧ ρ 14 ≤ 2147483647 := r14
  have r15 : (0 : Int) ≤ ρ 15 ∧ ρ 15 ≤ 8 := r15
  have r16 : (0 : Int) ≤ ρ 16 ∧ ρ 16 ≤ 32 := r16
  have r17 : (0 : Int) ≤ ρ 17 ∧ ρ 17 ≤ 5120 := r17
  have r18 : ((-2147483648) : Int) ≤ ρ 18 ∧ ρ 18 ≤ 2147483647 := r18
  have r19 : ((-1) : Int) ≤ ρ 19 ∧ ρ 19 ≤ 3 := r19
  have r20 : (0 : Int) ≤ ρ 20 ∧ ρ 20 ≤ 3 := r20
  have r21 : ((-2147483648) : Int) ≤ ρ 21 ∧ ρ 21 ≤ 2147483647 := r21
  have r22 : (0 : Int) ≤ ρ 22 ∧ ρ 22 ≤ 3 := r22
  have r23 : (1 : Int) ≤ ρ 23 ∧ ρ 23 ≤ 2000 := r23
  have r24 : (0 : Int) ≤ ρ 24 ∧ ρ 24 ≤ 4 := r24
  have r25 : (0 : Int) ≤ ρ 25 ∧ ρ 25 ≤ 4 := r25
  have r26 : ((-1) : Int) ≤ ρ 26 ∧ ρ 26 ≤ 7 := r26
  have r27 : (0 : Int) ≤ ρ 27 ∧ ρ 27 ≤ 0 := r27
  have r28 : ((-1) : Int) ≤ ρ 28 ∧ ρ 28 ≤ (-1) := r28
  have r29 : ((-2147483648) : Int) ≤ ρ 29 ∧ ρ 29 ≤ 2147483647 := r29
  have r30 : ((-2147483648) : Int) ≤ ρ 30 ∧ ρ 30 ≤ 2147483647 := r30
  have r31 : (0 : Int) ≤ ρ 31 ∧ ρ 31 ≤ 8 := r31
  have r32 : (0 : Int) ≤ ρ 32 ∧ ρ 32 ≤ 32 := r32
  have r33 : (0 : Int) ≤ ρ 33 ∧ ρ 33 ≤ 5120 := r33
  have r34 : ((-1) : Int) ≤ ρ 34 ∧ ρ 34 ≤ (-1) := r34
  have r35 : (0 : Int) ≤ ρ 35 ∧ ρ 35 ≤ 3 := r35
  have r36 : ((-2147483648) : Int) ≤ ρ 36 ∧ ρ 36 ≤ 2147483647 := r36
  have r37 : (1 : Int) ≤ ρ 37 ∧ ρ 37 ≤ 2000 := r37
  have r38 : (1 : Int) ≤ ρ 38 ∧ ρ 38 ≤ 4 := r38
  have r39 : (0 : Int) ≤ ρ 39 ∧ ρ 39 ≤ 4 := r39
  have r40 : ((-1) : Int) ≤ ρ 40 ∧ ρ 40 ≤ 7 := r40
  have r41 : ((-2147483648) : Int) ≤ ρ 41 ∧ ρ 41 ≤ 2147483647 := r41
  have r42 : ((-2147483648) : Int) ≤ ρ 42 ∧ ρ 42 ≤ 2147483647 := r42
  have r43 : (0 : Int) ≤ ρ 43 ∧ ρ 43 ≤ 8 := r43
  have r44 : (0 : Int) ≤ ρ 44 ∧ ρ 44 ≤ 32 := r44
  have r45 : (0 : Int) ≤ ρ 45 ∧ ρ 45 ≤ 5120 := r45
  have r46 : (0 : Int) ≤ ρ 46 ∧ ρ 46 ≤ 3 := r46
  have r47 : ((-2147483648) : Int) ≤ ρ 47 ∧ ρ 47 ≤ 2147483647 := r47
  have r48 : (41 : Int) ≤ ρ 48 ∧ ρ 48 ≤ 41 := r48
  have r49 : (0 : Int) ≤ ρ 49 ∧ ρ 49 ≤ 2000 := r49
  have r50 : ((-1) : Int) ≤ ρ 50 ∧ ρ 50 ≤ (-1) := r50
  obtain ⟨f0, f1, f2, f3, f4, f5, f6, f7, f8, f9, f10, f11, f12, f13, f14, f15, f16, f17, f18, f19, f20, f21, f22, -⟩ := hf
  have f0 : (0 : Int) ≤ ρ 49 + -ρ 37 := f0
  have f1 : (0 : Int) ≤ -ρ 49 + ρ 4 + (-1) := f1
  have f2 : (0 : Int) ≤ -ρ 37 + ρ 4 + (-1) := f2
  have f3 : (0 : Int) ≤ 3 * ρ 26 + -ρ 25 + 4 := f3
  have f4 : (0 : Int) ≤ ρ 37 + -ρ 23 + (-1) := f4
  have f5 : (0 : Int) ≤ ρ 38 + -ρ 24 := f5
  have f6 : (0 : Int) ≤ ρ 39 + -ρ 25 := f6
  have f7 : (0 : Int) ≤ ρ 43 + -ρ 31 := f7
  have f8 : (0 : Int) ≤ ρ 44 + -ρ 32 := f8
  have f9 : (0 : Int) ≤ ρ 45 + -ρ 33 := f9
  have f10 : (0 : Int) ≤ -ρ 23 + ρ 4 + (-1) := f10
  have f11 : (0 : Int) ≤ -ρ 38 + ρ 24 + 1 := f11
  have f12 : (0 : Int) ≤ 3 * ρ 40 + -ρ 39 + 4 := f12
  have f13 : (0 : Int) ≤ -ρ 24 + ρ 22 := f13
  have f14 : (0 : Int) ≤ ρ 4 + -ρ 3 + (-1) := f14
  have f15 : (0 : Int) ≤ -ρ 23 + ρ 4 := f15
  have f16 : (0 : Int) ≤ -ρ 22 + ρ 4 + (-1) := f16
  have f17 : (0 : Int) ≤ ρ 33 + -ρ 17 := f17
  have f18 : (0 : Int) ≤ ρ 32 + -ρ 16 := f18
  have f19 : (0 : Int) ≤ ρ 31 + -ρ 15 := f19
  have f20 : (0 : Int) ≤ ρ 23 + -ρ 3 + (-1) := f20
  have f21 : (0 : Int) ≤ ρ 23 + -ρ 22 + (-1) := f21
  have f22 : (0 : Int) ≤ -ρ 34 + ρ 22 + (-1) := f22
  obtain ⟨m0, m1, m2, m3, m4, m5, m6, m7, m8, m9, m10, m11, m12, m13, m14, m15, m16, m17, m18, m19, m20, m21, m22, m23, m24, m25, m26, m27, m28, m29, m30, m31, m32, m33, m34, m35, m36, m37, m38, m39, m40, m41, m42, m43, m44, m45, m46, m47, m48, m49, m50, m51, m52, m53, -⟩ := hm
  have m0 : γ 0 1 0 10 = ρ 0 := m0
  have m1 : γ 0 40 0 (ρ 0) = ρ 1 := m1
  have m2 : γ 0 9 (ρ 1) 2 = ρ 2 := m2
  have m3 : γ 0 2 0 6 = ρ 3 := m3
  have m4 : γ 0 2 0 3 = ρ 4 := m4
  have m5 : γ 0 10 (9 * ρ 1) 5 = ρ 5 := m5
  have m6 : γ 0 10 (9 * ρ 1) 12 = ρ 6 := m6
  have m7 : γ 0 10 (9 * ρ 1) 14 = ρ 7 := m7
  have m8 : γ 0 10 (9 * ρ 1) 4 = ρ 8 := m8
  have m9 : γ 0 2 0 7 = ρ 9 := m9
  have m10 : γ 0 10 (9 * ρ 1) 8 = ρ 10 := m10
  have m11 : γ 0 1 0 7 = ρ 11 := m11
  have m12 : γ 0 2 0 4 = ρ 12 := m12
  have m13 : γ 0 2 0 5 = ρ 13 := m13
  have m14 : γ 0 2 0 9 = ρ 14 := m14
  have m15 : γ 0 2 0 13 = ρ 15 := m15
  have m16 : γ 0 2 0 16 = ρ 16 := m16
  have m17 : γ 0 3 0 1 = ρ 17 := m17
  have m18 : γ 0 10 (9 * ρ 1) 7 = ρ 18 := m18
  have m19 : γ 0 10 (9 * ρ 1) 9 = ρ 19 := m19
  have m20 : γ 0 10 (9 * ρ 1) 13 = ρ 20 := m20
  have m21 : γ 0 10 (9 * ρ 1) 15 = ρ 21 := m21
  have m22 : γ 1 2 0 6 = ρ 23 := m22
  have m23 : γ 1 10 (9 * ρ 1) 5 = ρ 24 := m23
  have m24 : γ 1 10 (9 * ρ 1) 12 = ρ 25 := m24
  have m25 : γ 1 10 (9 * ρ 1) 14 = ρ 26 := m25
  have m26 : γ 1 10 (9 * ρ 1) 4 = ρ 27 := m26
  have m27 : γ 1 10 (9 * ρ 1) 8 = ρ 28 := m27
  have m28 : γ 1 2 0 4 = ρ 12 := m28
  have m29 : γ 1 2 0 5 = ρ 29 := m29
  have m30 : γ 1 2 0 9 = ρ 30 := m30
  have m31 : γ 1 2 0 13 = ρ 31 := m31
  have m32 : γ 1 2 0 16 = ρ 32 := m32
  have m33 : γ 1 3 0 1 = ρ 33 := m33
  have m34 : γ 1 10 (9 * ρ 1) 7 = ρ 14 := m34
  have m35 : γ 1 10 (9 * ρ 1) 9 = ρ 34 := m35
  have m36 : γ 1 10 (9 * ρ 1) 13 = ρ 35 := m36
  have m37 : γ 1 10 (9 * ρ 1) 15 = ρ 36 := m37
  have m38 : γ 2 2 0 6 = ρ 37 := m38
  have m39 : γ 2 10 (9 * ρ 1) 5 = ρ 38 := m39
  have m40 : γ 2 10 (9 * ρ 1) 12 = ρ 39 := m40
  have m41 : γ 2 10 (9 * ρ 1) 14 = ρ 40 := m41
  have m42 : γ 2 2 0 4 = ρ 12 := m42
  have m43 : γ 2 2 0 5 = ρ 41 := m43
  have m44 : γ 2 2 0 9 = ρ 42 := m44
  have m45 : γ 2 2 0 13 = ρ 43 := m45
  have m46 : γ 2 2 0 16 = ρ 44 := m46
  have m47 : γ 2 3 0 1 = ρ 45 := m47
  have m48 : γ 2 10 (9 * ρ 1) 13 = ρ 46 := m48
  have m49 : γ 2 10 (9 * ρ 1) 15 = ρ 47 := m49
  have m50 : γ 4 2 0 6 = ρ 49 := m50
  have m51 : γ 6 10 (9 * ρ 1) 8 = ρ 50 := m51
  have m52 : γ 6 1 0 7 = ρ 11 := m52
  have m53 : γ 6 2 0 4 = ρ 12 := m53
  obtain ⟨⟨⟨⟨⟨⟨-, c1⟩, c2⟩, c3⟩, c4⟩, c5⟩, c6⟩ := hc
  have c1 : ∀ (G : Nat) (k j : Int), ¬ rMdP m97_ G j → γ 1 G k j = γ 0 G k j := c1
  have c2 : ∀ (G : Nat) (k j : Int), ¬ rMdP m94_ G j → γ 2 G k j = γ 1 G k j := c2
  have c3 : ∀ (G : Nat) (k j : Int), ¬ rMdP m0_ G j → γ 3 G k j = γ 2 G k j := c3
  have c4 : ∀ (G : Nat) (k j : Int), ¬ rMdP m77_ G j → γ 4 G k j = γ 3 G k j := c4
  have c5 : γ 5 = rUp (γ 4) 2 0 6 (ρ 49 + 1) := c5
  have c6 : ∀ (G : Nat) (k j : Int), ¬ rMdP m87_ G j → γ 6 G k j = γ 5 G k j := c6
  obtain ⟨l0, l1, l2, l3, -⟩ := hl
  have l0 : sn141 [ρ 0, ρ 1, ρ 2, ρ 23, ρ 4, ρ 24, ρ 25, ρ 26, ρ 27, ρ 12, ρ 29, ρ 30, ρ 31, ρ 32, ρ 33, ρ 35, ρ 36] (γ 1) 0 1 (γ 2) := hS141 _ _ _ _ _ l0
  have l1 : sn143 [9 * ρ 1, ρ 22, ρ 13] (γ 2) 0 0 (γ 3) := hS143 _ _ _ _ _ l1
  have l2 : sn114 [ρ 37, ρ 4] (γ 3) 0 (ρ 48) (γ 4) := hS114 _ _ _ _ _ l2
  have l3 : sn133 [ρ 0, ρ 1, ρ 2, ρ 9, ρ 28, ρ 11, ρ 12, ρ 38, ρ 14] (γ 5) 0 1 (γ 6) := hS133 _ _ _ _ _ l3
  show sn144 [ρ 0, ρ 1, ρ 2, ρ 3, ρ 4, ρ 5, ρ 6, ρ 7, ρ 8, ρ 9, ρ 10, ρ 11, ρ 12, ρ 13, ρ 14, ρ 15, ρ 16, ρ 17, ρ 18, ρ 19, ρ 20, ρ 21] (γ 0) 0 1 (γ 6)
  have hD : en144 (γ 0) (0, [ρ 22], γ 1) = .inr (0, 1, γ 6) := by
    unfold en144
    refine (if_pos (show (0 : Nat) = 0 by decide)).trans ?_
    refine (zLet_eq (show _ = γ 1 from rfl)).trans ?_
    refine (zLet_eq (show _ = ρ 22 from rfl)).trans ?_
    refine (zLet_eq m0).trans ?_
    refine (zLet_eq m1).trans ?_
    refine (zLet_eq m13).trans ?_
    refine (zLet_eq m35).trans ?_
    refine (if_neg (show ¬ (ρ 22 ≥ 4) by omega)).trans ?_
    refine (zLet_eq (show fn141 [] (γ 1) = (0, 1, γ 2) from l0.symm)).trans ?_
    refine (zLet_eq (show _ = γ 2 from rfl)).trans ?_
    refine (if_pos (show (1 : Int) ≤ 1 by omega)).trans ?_
    refine (if_neg (show ¬ (ρ 34 ≥ 0) by omega)).trans ?_
    refine (zLet_eq (show fn143 [9 * ρ 1, ρ 22, ρ 13] (γ 2) = (0, 0, γ 3) from l1.symm)).trans ?_
    refine (zLet_eq (show _ = γ 3 from rfl)).trans ?_
    refine (if_neg (show ¬ ((1 : Int) ≤ 0) by omega)).trans ?_
    refine (zLet_eq (show fn114 [] (γ 3) = (0, ρ 48, γ 4) from l2.symm)).trans ?_
    refine (zLet_eq (show _ = γ 4 from rfl)).trans ?_
    refine (if_pos (show (0 : Int) ≤ ρ 48 by omega)).trans ?_
    refine (zLet_eq (show _ = ρ 48 from rfl)).trans ?_
    refine (zLet_eq m50).trans ?_
    refine (if_pos (show ρ 48 = 41 by omega)).trans ?_
    refine (zLet_eq c5.symm).trans ?_
    refine (zLet_eq (show fn133 [] (γ 5) = (0, 1, γ 6) from l3.symm)).trans ?_
    refine (zLet_eq (show _ = γ 6 from rfl)).trans ?_
    refine (if_pos (show (1 : Int) ≤ 1 by omega)).trans ?_
    rfl
  exact zGoo_aend hJ hD
theorem vn144a0_12 {S : Nat → zSpc} (hS102 : ∀ x g o v gz, S 102 x g o v gz → sn102 x g o v gz) (hS109 : ∀ x g o v gz, S 109 x g o v gz → sn109 x g o v gz) (hS114 : ∀ x g o v gz, S 114 x g o v gz → sn114 x g o v gz) (hS133 : ∀ x g o v gz, S 133 x g o v gz → sn133 x g o v gz) (hS141 : ∀ x g o v gz, S 141 x g o v gz → sn141 x g o v gz) (hS143 : ∀ x g o v gz, S 143 x g o v gz → sn143 x g o v gz) {a : List Int} {g : rHp} : ∀ (ρ : Nat → Int) (γ : Nat → rHp), jn144 a g 0 (zAg (zNA a144_ 0) ρ) (γ 1) → zO 22 S a g q144a0_12 ρ γ → zGl (fun i vs g1 => jn144 a g i vs g1) (sn144 a g) q144a0_12 ρ γ := by
  intro ρ γ hJ h
  obtain ⟨ha, hg, hr, hf, hm, hc, hl⟩ := h
  have ha : a = [ρ 0, ρ 1, ρ 2, ρ 3, ρ 4, ρ 5, ρ 6, ρ 7, ρ 8, ρ 9, ρ 10, ρ 11, ρ 12, ρ 13, ρ 14, ρ 15, ρ 16, ρ 17, ρ 18, ρ 19, ρ 20, ρ 21] := ha
  subst ha
  subst hg
  have hJ : jn144 [ρ 0, ρ 1, ρ 2, ρ 3, ρ 4, ρ 5, ρ 6, ρ 7, ρ 8, ρ 9, ρ 10, ρ 11, ρ 12, ρ 13, ρ 14, ρ 15, ρ 16, ρ 17, ρ 18, ρ 19, ρ 20, ρ 21] (γ 0) 0 [ρ 0, ρ 1, ρ 2, ρ 3, ρ 4, ρ 5, ρ 6, ρ 7, ρ 8, ρ 9, ρ 10, ρ 11, ρ 12, ρ 13, ρ 14, ρ 15, ρ 16, ρ 17, ρ 18, ρ 19, ρ 20, ρ 21, ρ 22, ρ 23, ρ 24, ρ 25, ρ 26, ρ 27, ρ 28, ρ 29, ρ 30, ρ 31, ρ 32, ρ 33, ρ 34, ρ 35, ρ 36] (γ 1) := hJ
  obtain ⟨r0, r1, r2, r3, r4, r5, r6, r7, r8, r9, r10, r11, r12, r13, r14, r15, r16, r17, r18, r19, r20, r21, r22, r23, r24, r25, r26, r27, r28, r29, r30, r31, r32, r33, r34, r35, r36, r37, r38, r39, r40, r41, r42, r43, r44, r45, r46, r47, r48, r49, r50, r51, -⟩ := hr
  have r0 : (0 : Int) ≤ ρ 0 ∧ ρ 0 ≤ 60 := r0
  have r1 : (0 : Int) ≤ ρ 1 ∧ ρ 1 ≤ 60 := r1
  have r2 : (0 : Int) ≤ ρ 2 ∧ ρ 2 ≤ 8 := r2
  have r3 : (0 : Int) ≤ ρ 3 ∧ ρ 3 ≤ 2000 := r3
  have r4 : (1 : Int) ≤ ρ 4 ∧ ρ 4 ≤ 2000 := r4
  have r5 : (0 : Int) ≤ ρ 5 ∧ ρ 5 ≤ 4 := r5
  have r6 : (0 : Int) ≤ ρ 6 ∧ ρ 6 ≤ 4 := r6
  have r7 : ((-1) : Int) ≤ ρ 7 ∧ ρ 7 ≤ 7 := r7
  have r8 : (0 : Int) ≤ ρ 8 ∧ ρ 8 ≤ 8 := r8
  have r9 : (0 : Int) ≤ ρ 9 ∧ ρ 9 ≤ 2 := r9
  have r10 : ((-1) : Int) ≤ ρ 10 ∧ ρ 10 ≤ 19 := r10
  have r11 : (0 : Int) ≤ ρ 11 ∧ ρ 11 ≤ 20 := r11
  have r12 : ((-2147483648) : Int) ≤ ρ 12 ∧ ρ 12 ≤ 2147483647 := r12
  have r13 : ((-2147483648) : Int) ≤ ρ 13 ∧ ρ 13 ≤ 2147483647 := r13
  have r14 : ((-2147483648) : Int) ≤ ρ 14 ∧ ρ 14 ≤ 2147483647 := r14
  have r15 : (0 : Int) ≤ ρ 15 ∧ ρ 15 ≤ 8 := r15
  have r16 : (0 : Int) ≤ ρ 16 ∧ ρ 16 ≤ 32 := r16
  have r17 : (0 : Int) ≤ ρ 17 ∧ ρ 17 ≤ 5120 := r17
  have r18 : ((-2147483648) : Int) ≤ ρ 18 ∧ ρ 18 ≤ 2147483647 := r18
  have r19 : ((-1) : Int) ≤ ρ 19 ∧ ρ 19 ≤ 3 := r19
  have r20 : (0 : Int) ≤ ρ 20 ∧ ρ 20 ≤ 3 := r20
  have r21 : ((-2147483648) : Int) ≤ ρ 21 ∧ ρ 21 ≤ 2147483647 := r21
  have r22 : (0 : Int) ≤ ρ 22 ∧ ρ 22 ≤ 3 := r22
  have r23 : (1 : Int) ≤ ρ 23 ∧ ρ 23 ≤ 2000 := r23
  have r24 : (0 : Int) ≤ ρ 24 ∧ ρ 24 ≤ 4 := r24
  have r25 : (0 : Int) ≤ ρ 25 ∧ ρ 25 ≤ 4 := r25
  have r26 : ((-1) : Int) ≤ ρ 26 ∧ ρ 26 ≤ 7 := r26
  have r27 : (0 : Int) ≤ ρ 27 ∧ ρ 27 ≤ 0 := r27
  have r28 : ((-1) : Int) ≤ ρ 28 ∧ ρ 28 ≤ (-1) := r28
  have r29 : ((-2147483648) : Int) ≤ ρ 29 ∧ ρ 29 ≤ 2147483647 := r29
  have r30 : ((-2147483648) : Int) ≤ ρ 30 ∧ ρ 30 ≤ 2147483647 := r30
  have r31 : (0 : Int) ≤ ρ 31 ∧ ρ 31 ≤ 8 := r31
  have r32 : (0 : Int) ≤ ρ 32 ∧ ρ 32 ≤ 32 := r32
  have r33 : (0 : Int) ≤ ρ 33 ∧ ρ 33 ≤ 5120 := r33
  have r34 : ((-1) : Int) ≤ ρ 34 ∧ ρ 34 ≤ (-1) := r34
  have r35 : (0 : Int) ≤ ρ 35 ∧ ρ 35 ≤ 3 := r35
  have r36 : ((-2147483648) : Int) ≤ ρ 36 ∧ ρ 36 ≤ 2147483647 := r36
  have r37 : (1 : Int) ≤ ρ 37 ∧ ρ 37 ≤ 2000 := r37
  have r38 : (1 : Int) ≤ ρ 38 ∧ ρ 38 ≤ 4 := r38
  have r39 : (0 : Int) ≤ ρ 39 ∧ ρ 39 ≤ 4 := r39
  have r40 : ((-1) : Int) ≤ ρ 40 ∧ ρ 40 ≤ 7 := r40
  have r41 : ((-2147483648) : Int) ≤ ρ 41 ∧ ρ 41 ≤ 2147483647 := r41
  have r42 : ((-2147483648) : Int) ≤ ρ 42 ∧ ρ 42 ≤ 2147483647 := r42
  have r43 : (0 : Int) ≤ ρ 43 ∧ ρ 43 ≤ 8 := r43
  have r44 : (0 : Int) ≤ ρ 44 ∧ ρ 44 ≤ 32 := r44
  have r45 : (0 : Int) ≤ ρ 45 ∧ ρ 45 ≤ 5120 := r45
  have r46 : (0 : Int) ≤ ρ 46 ∧ ρ 46 ≤ 3 := r46
  have r47 : ((-2147483648) : Int) ≤ ρ 47 ∧ ρ 47 ≤ 2147483647 := r47
  have r48 : (41 : Int) ≤ ρ 48 ∧ ρ 48 ≤ 41 := r48
  have r49 : (0 : Int) ≤ ρ 49 ∧ ρ 49 ≤ 2000 := r49
  have r50 : (0 : Int) ≤ ρ 50 ∧ ρ 50 ≤ 19 := r50
  have r51 : (1 : Int) ≤ ρ 51 ∧ ρ 51 ≤ 20 := r51
  obtain ⟨f0, f1, f2, f3, f4, f5, f6, f7, f8, f9, f10, f11, f12, f13, f14, f15, f16, f17, f18, f19, f20, f21, f22, f23, f24, f25, -⟩ := hf
  have f0 : (0 : Int) ≤ ρ 51 + -ρ 50 + (-1) := f0
  have f1 : (0 : Int) ≤ ρ 51 + -ρ 11 := f1
  have f2 : (0 : Int) ≤ -ρ 50 + ρ 11 := f2
  have f3 : (0 : Int) ≤ ρ 49 + -ρ 37 := f3
  have f4 : (0 : Int) ≤ -ρ 49 + ρ 4 + (-1) := f4
  have f5 : (0 : Int) ≤ -ρ 37 + ρ 4 + (-1) := f5
  have f6 : (0 : Int) ≤ 3 * ρ 26 + -ρ 25 + 4 := f6
  have f7 : (0 : Int) ≤ ρ 37 + -ρ 23 + (-1) := f7
  have f8 : (0 : Int) ≤ ρ 38 + -ρ 24 := f8
  have f9 : (0 : Int) ≤ ρ 39 + -ρ 25 := f9
  have f10 : (0 : Int) ≤ ρ 43 + -ρ 31 := f10
  have f11 : (0 : Int) ≤ ρ 44 + -ρ 32 := f11
  have f12 : (0 : Int) ≤ ρ 45 + -ρ 33 := f12
  have f13 : (0 : Int) ≤ -ρ 23 + ρ 4 + (-1) := f13
  have f14 : (0 : Int) ≤ -ρ 38 + ρ 24 + 1 := f14
  have f15 : (0 : Int) ≤ 3 * ρ 40 + -ρ 39 + 4 := f15
  have f16 : (0 : Int) ≤ -ρ 24 + ρ 22 := f16
  have f17 : (0 : Int) ≤ ρ 4 + -ρ 3 + (-1) := f17
  have f18 : (0 : Int) ≤ -ρ 23 + ρ 4 := f18
  have f19 : (0 : Int) ≤ -ρ 22 + ρ 4 + (-1) := f19
  have f20 : (0 : Int) ≤ ρ 33 + -ρ 17 := f20
  have f21 : (0 : Int) ≤ ρ 32 + -ρ 16 := f21
  have f22 : (0 : Int) ≤ ρ 31 + -ρ 15 := f22
  have f23 : (0 : Int) ≤ ρ 23 + -ρ 3 + (-1) := f23
  have f24 : (0 : Int) ≤ ρ 23 + -ρ 22 + (-1) := f24
  have f25 : (0 : Int) ≤ -ρ 34 + ρ 22 + (-1) := f25
  obtain ⟨m0, m1, m2, m3, m4, m5, m6, m7, m8, m9, m10, m11, m12, m13, m14, m15, m16, m17, m18, m19, m20, m21, m22, m23, m24, m25, m26, m27, m28, m29, m30, m31, m32, m33, m34, m35, m36, m37, m38, m39, m40, m41, m42, m43, m44, m45, m46, m47, m48, m49, m50, m51, m52, m53, -⟩ := hm
  have m0 : γ 0 1 0 10 = ρ 0 := m0
  have m1 : γ 0 40 0 (ρ 0) = ρ 1 := m1
  have m2 : γ 0 9 (ρ 1) 2 = ρ 2 := m2
  have m3 : γ 0 2 0 6 = ρ 3 := m3
  have m4 : γ 0 2 0 3 = ρ 4 := m4
  have m5 : γ 0 10 (9 * ρ 1) 5 = ρ 5 := m5
  have m6 : γ 0 10 (9 * ρ 1) 12 = ρ 6 := m6
  have m7 : γ 0 10 (9 * ρ 1) 14 = ρ 7 := m7
  have m8 : γ 0 10 (9 * ρ 1) 4 = ρ 8 := m8
  have m9 : γ 0 2 0 7 = ρ 9 := m9
  have m10 : γ 0 10 (9 * ρ 1) 8 = ρ 10 := m10
  have m11 : γ 0 1 0 7 = ρ 11 := m11
  have m12 : γ 0 2 0 4 = ρ 12 := m12
  have m13 : γ 0 2 0 5 = ρ 13 := m13
  have m14 : γ 0 2 0 9 = ρ 14 := m14
  have m15 : γ 0 2 0 13 = ρ 15 := m15
  have m16 : γ 0 2 0 16 = ρ 16 := m16
  have m17 : γ 0 3 0 1 = ρ 17 := m17
  have m18 : γ 0 10 (9 * ρ 1) 7 = ρ 18 := m18
  have m19 : γ 0 10 (9 * ρ 1) 9 = ρ 19 := m19
  have m20 : γ 0 10 (9 * ρ 1) 13 = ρ 20 := m20
  have m21 : γ 0 10 (9 * ρ 1) 15 = ρ 21 := m21
  have m22 : γ 1 2 0 6 = ρ 23 := m22
  have m23 : γ 1 10 (9 * ρ 1) 5 = ρ 24 := m23
  have m24 : γ 1 10 (9 * ρ 1) 12 = ρ 25 := m24
  have m25 : γ 1 10 (9 * ρ 1) 14 = ρ 26 := m25
  have m26 : γ 1 10 (9 * ρ 1) 4 = ρ 27 := m26
  have m27 : γ 1 10 (9 * ρ 1) 8 = ρ 28 := m27
  have m28 : γ 1 2 0 4 = ρ 12 := m28
  have m29 : γ 1 2 0 5 = ρ 29 := m29
  have m30 : γ 1 2 0 9 = ρ 30 := m30
  have m31 : γ 1 2 0 13 = ρ 31 := m31
  have m32 : γ 1 2 0 16 = ρ 32 := m32
  have m33 : γ 1 3 0 1 = ρ 33 := m33
  have m34 : γ 1 10 (9 * ρ 1) 7 = ρ 14 := m34
  have m35 : γ 1 10 (9 * ρ 1) 9 = ρ 34 := m35
  have m36 : γ 1 10 (9 * ρ 1) 13 = ρ 35 := m36
  have m37 : γ 1 10 (9 * ρ 1) 15 = ρ 36 := m37
  have m38 : γ 2 2 0 6 = ρ 37 := m38
  have m39 : γ 2 10 (9 * ρ 1) 5 = ρ 38 := m39
  have m40 : γ 2 10 (9 * ρ 1) 12 = ρ 39 := m40
  have m41 : γ 2 10 (9 * ρ 1) 14 = ρ 40 := m41
  have m42 : γ 2 2 0 4 = ρ 12 := m42
  have m43 : γ 2 2 0 5 = ρ 41 := m43
  have m44 : γ 2 2 0 9 = ρ 42 := m44
  have m45 : γ 2 2 0 13 = ρ 43 := m45
  have m46 : γ 2 2 0 16 = ρ 44 := m46
  have m47 : γ 2 3 0 1 = ρ 45 := m47
  have m48 : γ 2 10 (9 * ρ 1) 13 = ρ 46 := m48
  have m49 : γ 2 10 (9 * ρ 1) 15 = ρ 47 := m49
  have m50 : γ 4 2 0 6 = ρ 49 := m50
  have m51 : γ 6 10 (9 * ρ 1) 8 = ρ 50 := m51
  have m52 : γ 6 1 0 7 = ρ 51 := m52
  have m53 : γ 6 2 0 4 = ρ 12 := m53
  obtain ⟨⟨⟨⟨⟨⟨-, c1⟩, c2⟩, c3⟩, c4⟩, c5⟩, c6⟩ := hc
  have c1 : ∀ (G : Nat) (k j : Int), ¬ rMdP m97_ G j → γ 1 G k j = γ 0 G k j := c1
  have c2 : ∀ (G : Nat) (k j : Int), ¬ rMdP m94_ G j → γ 2 G k j = γ 1 G k j := c2
  have c3 : ∀ (G : Nat) (k j : Int), ¬ rMdP m0_ G j → γ 3 G k j = γ 2 G k j := c3
  have c4 : ∀ (G : Nat) (k j : Int), ¬ rMdP m77_ G j → γ 4 G k j = γ 3 G k j := c4
  have c5 : γ 5 = rUp (γ 4) 2 0 6 (ρ 49 + 1) := c5
  have c6 : ∀ (G : Nat) (k j : Int), ¬ rMdP m87_ G j → γ 6 G k j = γ 5 G k j := c6
  obtain ⟨l0, l1, l2, l3, -⟩ := hl
  have l0 : sn141 [ρ 0, ρ 1, ρ 2, ρ 23, ρ 4, ρ 24, ρ 25, ρ 26, ρ 27, ρ 12, ρ 29, ρ 30, ρ 31, ρ 32, ρ 33, ρ 35, ρ 36] (γ 1) 0 1 (γ 2) := hS141 _ _ _ _ _ l0
  have l1 : sn143 [9 * ρ 1, ρ 22, ρ 13] (γ 2) 0 0 (γ 3) := hS143 _ _ _ _ _ l1
  have l2 : sn114 [ρ 37, ρ 4] (γ 3) 0 (ρ 48) (γ 4) := hS114 _ _ _ _ _ l2
  have l3 : sn133 [ρ 0, ρ 1, ρ 2, ρ 9, ρ 28, ρ 11, ρ 12, ρ 38, ρ 14] (γ 5) 0 1 (γ 6) := hS133 _ _ _ _ _ l3
  show sn144 [ρ 0, ρ 1, ρ 2, ρ 3, ρ 4, ρ 5, ρ 6, ρ 7, ρ 8, ρ 9, ρ 10, ρ 11, ρ 12, ρ 13, ρ 14, ρ 15, ρ 16, ρ 17, ρ 18, ρ 19, ρ 20, ρ 21] (γ 0) 0 1 (γ 6)
  have hD : en144 (γ 0) (0, [ρ 22], γ 1) = .inr (0, 1, γ 6) := by
    unfold en144
    refine (if_pos (show (0 : Nat) = 0 by decide)).trans ?_
    refine (zLet_eq (show _ = γ 1 from rfl)).trans ?_
    refine (zLet_eq (show _ = ρ 22 from rfl)).trans ?_
    refine (zLet_eq m0).trans ?_
    refine (zLet_eq m1).trans ?_
    refine (zLet_eq m13).trans ?_
    refine (zLet_eq m35).trans ?_
    refine (if_neg (show ¬ (ρ 22 ≥ 4) by omega)).trans ?_
    refine (zLet_eq (show fn141 [] (γ 1) = (0, 1, γ 2) from l0.symm)).trans ?_
    refine (zLet_eq (show _ = γ 2 from rfl)).trans ?_
    refine (if_pos (show (1 : Int) ≤ 1 by omega)).trans ?_
    refine (if_neg (show ¬ (ρ 34 ≥ 0) by omega)).trans ?_
    refine (zLet_eq (show fn143 [9 * ρ 1, ρ 22, ρ 13] (γ 2) = (0, 0, γ 3) from l1.symm)).trans ?_
    refine (zLet_eq (show _ = γ 3 from rfl)).trans ?_
    refine (if_neg (show ¬ ((1 : Int) ≤ 0) by omega)).trans ?_
    refine (zLet_eq (show fn114 [] (γ 3) = (0, ρ 48, γ 4) from l2.symm)).trans ?_
    refine (zLet_eq (show _ = γ 4 from rfl)).trans ?_
    refine (if_pos (show (0 : Int) ≤ ρ 48 by omega)).trans ?_
    refine (zLet_eq (show _ = ρ 48 from rfl)).trans ?_
    refine (zLet_eq m50).trans ?_
    refine (if_pos (show ρ 48 = 41 by omega)).trans ?_
    refine (zLet_eq c5.symm).trans ?_
    refine (zLet_eq (show fn133 [] (γ 5) = (0, 1, γ 6) from l3.symm)).trans ?_
    refine (zLet_eq (show _ = γ 6 from rfl)).trans ?_
    refine (if_pos (show (1 : Int) ≤ 1 by omega)).trans ?_
    rfl
  exact zGoo_aend hJ hD
theorem vn144a0_13 {S : Nat → zSpc} (hS102 : ∀ x g o v gz, S 102 x g o v gz → sn102 x g o v gz) (hS109 : ∀ x g o v gz, S 109 x g o v gz → sn109 x g o v gz) (hS114 : ∀ x g o v gz, S 114 x g o v gz → sn114 x g o v gz) (hS133 : ∀ x g o v gz, S 133 x g o v gz → sn133 x g o v gz) (hS141 : ∀ x g o v gz, S 141 x g o v gz → sn141 x g o v gz) (hS143 : ∀ x g o v gz, S 143 x g o v gz → sn143 x g o v gz) {a : List Int} {g : rHp} : ∀ (ρ : Nat → Int) (γ : Nat → rHp), jn144 a g 0 (zAg (zNA a144_ 0) ρ) (γ 1) → zO 22 S a g q144a0_13 ρ γ → zGl (fun i vs g1 => jn144 a g i vs g1) (sn144 a g) q144a0_13 ρ γ := by
  intro ρ γ hJ h
  obtain ⟨ha, hg, hr, hf, hm, hc, hl⟩ := h
  have ha : a = [ρ 0, ρ 1, ρ 2, ρ 3, ρ 4, ρ 5, ρ 6, ρ 7, ρ 8, ρ 9, ρ 10, ρ 11, ρ 12, ρ 13, ρ 14, ρ 15, ρ 16, ρ 17, ρ 18, ρ 19, ρ 20, ρ 21] := ha
  subst ha
  subst hg
  have hJ : jn144 [ρ 0, ρ 1, ρ 2, ρ 3, ρ 4, ρ 5, ρ 6, ρ 7, ρ 8, ρ 9, ρ 10, ρ 11, ρ 12, ρ 13, ρ 14, ρ 15, ρ 16, ρ 17, ρ 18, ρ 19, ρ 20, ρ 21] (γ 0) 0 [ρ 0, ρ 1, ρ 2, ρ 3, ρ 4, ρ 5, ρ 6, ρ 7, ρ 8, ρ 9, ρ 10, ρ 11, ρ 12, ρ 13, ρ 14, ρ 15, ρ 16, ρ 17, ρ 18, ρ 19, ρ 20, ρ 21, ρ 22, ρ 23, ρ 24, ρ 25, ρ 26, ρ 27, ρ 28, ρ 29, ρ 30, ρ 31, ρ 32, ρ 33, ρ 34, ρ 35, ρ 36] (γ 1) := hJ
  obtain ⟨r0, r1, r2, r3, r4, r5, r6, r7, r8, r9, r10, r11, r12, r13, r14, r15, r16, r17, r18, r19, r20, r21, r22, r23, r24, r25, r26, r27, r28, r29, r30, r31, r32, r33, r34, r35, r36, r37, r38, r39, r40, r41, r42, r43, r44, r45, r46, r47, r48, r49, -⟩ := hr
  have r0 : (0 : Int) ≤ ρ 0 ∧ ρ 0 ≤ 60 := r0
  have r1 : (0 : Int) ≤ ρ 1 ∧ ρ 1 ≤ 60 := r1
  have r2 : (0 : Int) ≤ ρ 2 ∧ ρ 2 ≤ 8 := r2
  have r3 : (0 : Int) ≤ ρ 3 ∧ ρ 3 ≤ 2000 := r3
  have r4 : (1 : Int) ≤ ρ 4 ∧ ρ 4 ≤ 2000 := r4
  have r5 : (0 : Int) ≤ ρ 5 ∧ ρ 5 ≤ 4 := r5
  have r6 : (0 : Int) ≤ ρ 6 ∧ ρ 6 ≤ 4 := r6
  have r7 : ((-1) : Int) ≤ ρ 7 ∧ ρ 7 ≤ 7 := r7
  have r8 : (0 : Int) ≤ ρ 8 ∧ ρ 8 ≤ 8 := r8
  have r9 : (0 : Int) ≤ ρ 9 ∧ ρ 9 ≤ 2 := r9
  have r10 : ((-1) : Int) ≤ ρ 10 ∧ ρ 10 ≤ 19 := r10
  have r11 : (0 : Int) ≤ ρ 11 ∧ ρ 11 ≤ 20 := r11
  have r12 : ((-2147483648) : Int) ≤ ρ 12 ∧ ρ 12 ≤ 2147483647 := r12
  have r13 : ((-2147483648) : Int) ≤ ρ 13 ∧ ρ 13 ≤ 2147483647 := r13
  have r14 : ((-2147483648) : Int) ≤ ρ 14 ∧ ρ 14 ≤ 2147483647 := r14
  have r15 : (0 : Int) ≤ ρ 15 ∧ ρ 15 ≤ 8 := r15
  have r16 : (0 : Int) ≤ ρ 16 ∧ ρ 16 ≤ 32 := r16
  have r17 : (0 : Int) ≤ ρ 17 ∧ ρ 17 ≤ 5120 := r17
  have r18 : ((-2147483648) : Int) ≤ ρ 18 ∧ ρ 18 ≤ 2147483647 := r18
  have r19 : ((-1) : Int) ≤ ρ 19 ∧ ρ 19 ≤ 3 := r19
  have r20 : (0 : Int) ≤ ρ 20 ∧ ρ 20 ≤ 3 := r20
  have r21 : ((-2147483648) : Int) ≤ ρ 21 ∧ ρ 21 ≤ 2147483647 := r21
  have r22 : (0 : Int) ≤ ρ 22 ∧ ρ 22 ≤ 3 := r22
  have r23 : (1 : Int) ≤ ρ 23 ∧ ρ 23 ≤ 2000 := r23
  have r24 : (0 : Int) ≤ ρ 24 ∧ ρ 24 ≤ 4 := r24
  have r25 : (0 : Int) ≤ ρ 25 ∧ ρ 25 ≤ 4 := r25
  have r26 : ((-1) : Int) ≤ ρ 26 ∧ ρ 26 ≤ 7 := r26
  have r27 : (0 : Int) ≤ ρ 27 ∧ ρ 27 ≤ 0 := r27
  have r28 : ((-1) : Int) ≤ ρ 28 ∧ ρ 28 ≤ (-1) := r28
  have r29 : ((-2147483648) : Int) ≤ ρ 29 ∧ ρ 29 ≤ 2147483647 := r29
  have r30 : ((-2147483648) : Int) ≤ ρ 30 ∧ ρ 30 ≤ 2147483647 := r30
  have r31 : (0 : Int) ≤ ρ 31 ∧ ρ 31 ≤ 8 := r31
  have r32 : (0 : Int) ≤ ρ 32 ∧ ρ 32 ≤ 32 := r32
  have r33 : (0 : Int) ≤ ρ 33 ∧ ρ 33 ≤ 5120 := r33
  have r34 : ((-1) : Int) ≤ ρ 34 ∧ ρ 34 ≤ (-1) := r34
  have r35 : (0 : Int) ≤ ρ 35 ∧ ρ 35 ≤ 3 := r35
  have r36 : ((-2147483648) : Int) ≤ ρ 36 ∧ ρ 36 ≤ 2147483647 := r36
  have r37 : (1 : Int) ≤ ρ 37 ∧ ρ 37 ≤ 2000 := r37
  have r38 : (1 : Int) ≤ ρ 38 ∧ ρ 38 ≤ 4 := r38
  have r39 : (0 : Int) ≤ ρ 39 ∧ ρ 39 ≤ 4 := r39
  have r40 : ((-1) : Int) ≤ ρ 40 ∧ ρ 40 ≤ 7 := r40
  have r41 : ((-2147483648) : Int) ≤ ρ 41 ∧ ρ 41 ≤ 2147483647 := r41
  have r42 : ((-2147483648) : Int) ≤ ρ 42 ∧ ρ 42 ≤ 2147483647 := r42
  have r43 : (0 : Int) ≤ ρ 43 ∧ ρ 43 ≤ 8 := r43
  have r44 : (0 : Int) ≤ ρ 44 ∧ ρ 44 ≤ 32 := r44
  have r45 : (0 : Int) ≤ ρ 45 ∧ ρ 45 ≤ 5120 := r45
  have r46 : (0 : Int) ≤ ρ 46 ∧ ρ 46 ≤ 3 := r46
  have r47 : ((-2147483648) : Int) ≤ ρ 47 ∧ ρ 47 ≤ 2147483647 := r47
  have r48 : (44 : Int) ≤ ρ 48 ∧ ρ 48 ≤ 44 := r48
  have r49 : (0 : Int) ≤ ρ 49 ∧ ρ 49 ≤ 2000 := r49
  obtain ⟨f0, f1, f2, f3, f4, f5, f6, f7, f8, f9, f10, f11, f12, f13, f14, f15, f16, f17, f18, f19, f20, f21, f22, -⟩ := hf
  have f0 : (0 : Int) ≤ ρ 49 + -ρ 37 := f0
  have f1 : (0 : Int) ≤ -ρ 49 + ρ 4 + (-1) := f1
  have f2 : (0 : Int) ≤ -ρ 37 + ρ 4 + (-1) := f2
  have f3 : (0 : Int) ≤ 3 * ρ 26 + -ρ 25 + 4 := f3
  have f4 : (0 : Int) ≤ ρ 37 + -ρ 23 + (-1) := f4
  have f5 : (0 : Int) ≤ ρ 38 + -ρ 24 := f5
  have f6 : (0 : Int) ≤ ρ 39 + -ρ 25 := f6
  have f7 : (0 : Int) ≤ ρ 43 + -ρ 31 := f7
  have f8 : (0 : Int) ≤ ρ 44 + -ρ 32 := f8
  have f9 : (0 : Int) ≤ ρ 45 + -ρ 33 := f9
  have f10 : (0 : Int) ≤ -ρ 23 + ρ 4 + (-1) := f10
  have f11 : (0 : Int) ≤ -ρ 38 + ρ 24 + 1 := f11
  have f12 : (0 : Int) ≤ 3 * ρ 40 + -ρ 39 + 4 := f12
  have f13 : (0 : Int) ≤ -ρ 24 + ρ 22 := f13
  have f14 : (0 : Int) ≤ ρ 4 + -ρ 3 + (-1) := f14
  have f15 : (0 : Int) ≤ -ρ 23 + ρ 4 := f15
  have f16 : (0 : Int) ≤ -ρ 22 + ρ 4 + (-1) := f16
  have f17 : (0 : Int) ≤ ρ 33 + -ρ 17 := f17
  have f18 : (0 : Int) ≤ ρ 32 + -ρ 16 := f18
  have f19 : (0 : Int) ≤ ρ 31 + -ρ 15 := f19
  have f20 : (0 : Int) ≤ ρ 23 + -ρ 3 + (-1) := f20
  have f21 : (0 : Int) ≤ ρ 23 + -ρ 22 + (-1) := f21
  have f22 : (0 : Int) ≤ -ρ 34 + ρ 22 + (-1) := f22
  obtain ⟨m0, m1, m2, m3, m4, m5, m6, m7, m8, m9, m10, m11, m12, m13, m14, m15, m16, m17, m18, m19, m20, m21, m22, m23, m24, m25, m26, m27, m28, m29, m30, m31, m32, m33, m34, m35, m36, m37, m38, m39, m40, m41, m42, m43, m44, m45, m46, m47, m48, m49, m50, -⟩ := hm
  have m0 : γ 0 1 0 10 = ρ 0 := m0
  have m1 : γ 0 40 0 (ρ 0) = ρ 1 := m1
  have m2 : γ 0 9 (ρ 1) 2 = ρ 2 := m2
  have m3 : γ 0 2 0 6 = ρ 3 := m3
  have m4 : γ 0 2 0 3 = ρ 4 := m4
  have m5 : γ 0 10 (9 * ρ 1) 5 = ρ 5 := m5
  have m6 : γ 0 10 (9 * ρ 1) 12 = ρ 6 := m6
  have m7 : γ 0 10 (9 * ρ 1) 14 = ρ 7 := m7
  have m8 : γ 0 10 (9 * ρ 1) 4 = ρ 8 := m8
  have m9 : γ 0 2 0 7 = ρ 9 := m9
  have m10 : γ 0 10 (9 * ρ 1) 8 = ρ 10 := m10
  have m11 : γ 0 1 0 7 = ρ 11 := m11
  have m12 : γ 0 2 0 4 = ρ 12 := m12
  have m13 : γ 0 2 0 5 = ρ 13 := m13
  have m14 : γ 0 2 0 9 = ρ 14 := m14
  have m15 : γ 0 2 0 13 = ρ 15 := m15
  have m16 : γ 0 2 0 16 = ρ 16 := m16
  have m17 : γ 0 3 0 1 = ρ 17 := m17
  have m18 : γ 0 10 (9 * ρ 1) 7 = ρ 18 := m18
  have m19 : γ 0 10 (9 * ρ 1) 9 = ρ 19 := m19
  have m20 : γ 0 10 (9 * ρ 1) 13 = ρ 20 := m20
  have m21 : γ 0 10 (9 * ρ 1) 15 = ρ 21 := m21
  have m22 : γ 1 2 0 6 = ρ 23 := m22
  have m23 : γ 1 10 (9 * ρ 1) 5 = ρ 24 := m23
  have m24 : γ 1 10 (9 * ρ 1) 12 = ρ 25 := m24
  have m25 : γ 1 10 (9 * ρ 1) 14 = ρ 26 := m25
  have m26 : γ 1 10 (9 * ρ 1) 4 = ρ 27 := m26
  have m27 : γ 1 10 (9 * ρ 1) 8 = ρ 28 := m27
  have m28 : γ 1 2 0 4 = ρ 12 := m28
  have m29 : γ 1 2 0 5 = ρ 29 := m29
  have m30 : γ 1 2 0 9 = ρ 30 := m30
  have m31 : γ 1 2 0 13 = ρ 31 := m31
  have m32 : γ 1 2 0 16 = ρ 32 := m32
  have m33 : γ 1 3 0 1 = ρ 33 := m33
  have m34 : γ 1 10 (9 * ρ 1) 7 = ρ 14 := m34
  have m35 : γ 1 10 (9 * ρ 1) 9 = ρ 34 := m35
  have m36 : γ 1 10 (9 * ρ 1) 13 = ρ 35 := m36
  have m37 : γ 1 10 (9 * ρ 1) 15 = ρ 36 := m37
  have m38 : γ 2 2 0 6 = ρ 37 := m38
  have m39 : γ 2 10 (9 * ρ 1) 5 = ρ 38 := m39
  have m40 : γ 2 10 (9 * ρ 1) 12 = ρ 39 := m40
  have m41 : γ 2 10 (9 * ρ 1) 14 = ρ 40 := m41
  have m42 : γ 2 2 0 4 = ρ 12 := m42
  have m43 : γ 2 2 0 5 = ρ 41 := m43
  have m44 : γ 2 2 0 9 = ρ 42 := m44
  have m45 : γ 2 2 0 13 = ρ 43 := m45
  have m46 : γ 2 2 0 16 = ρ 44 := m46
  have m47 : γ 2 3 0 1 = ρ 45 := m47
  have m48 : γ 2 10 (9 * ρ 1) 13 = ρ 46 := m48
  have m49 : γ 2 10 (9 * ρ 1) 15 = ρ 47 := m49
  have m50 : γ 4 2 0 6 = ρ 49 := m50
  obtain ⟨⟨⟨⟨⟨-, c1⟩, c2⟩, c3⟩, c4⟩, c5⟩ := hc
  have c1 : ∀ (G : Nat) (k j : Int), ¬ rMdP m97_ G j → γ 1 G k j = γ 0 G k j := c1
  have c2 : ∀ (G : Nat) (k j : Int), ¬ rMdP m94_ G j → γ 2 G k j = γ 1 G k j := c2
  have c3 : ∀ (G : Nat) (k j : Int), ¬ rMdP m0_ G j → γ 3 G k j = γ 2 G k j := c3
  have c4 : ∀ (G : Nat) (k j : Int), ¬ rMdP m77_ G j → γ 4 G k j = γ 3 G k j := c4
  have c5 : γ 5 = rUp (γ 4) 2 0 6 (ρ 49 + 1) := c5
  obtain ⟨l0, l1, l2, l3, -⟩ := hl
  have l0 : sn141 [ρ 0, ρ 1, ρ 2, ρ 23, ρ 4, ρ 24, ρ 25, ρ 26, ρ 27, ρ 12, ρ 29, ρ 30, ρ 31, ρ 32, ρ 33, ρ 35, ρ 36] (γ 1) 0 1 (γ 2) := hS141 _ _ _ _ _ l0
  have l1 : sn143 [9 * ρ 1, ρ 22, ρ 13] (γ 2) 0 0 (γ 3) := hS143 _ _ _ _ _ l1
  have l2 : sn114 [ρ 37, ρ 4] (γ 3) 0 (ρ 48) (γ 4) := hS114 _ _ _ _ _ l2
  have l3 : ρ 48 ≠ 41 := l3
  show jn144 [ρ 0, ρ 1, ρ 2, ρ 3, ρ 4, ρ 5, ρ 6, ρ 7, ρ 8, ρ 9, ρ 10, ρ 11, ρ 12, ρ 13, ρ 14, ρ 15, ρ 16, ρ 17, ρ 18, ρ 19, ρ 20, ρ 21] (γ 0) 0 [ρ 0, ρ 1, ρ 2, ρ 3, ρ 4, ρ 5, ρ 6, ρ 7, ρ 8, ρ 9, ρ 10, ρ 11, ρ 12, ρ 13, ρ 14, ρ 15, ρ 16, ρ 17, ρ 18, ρ 19, ρ 20, ρ 21, ρ 22 + 1, ρ 49 + 1, ρ 38, ρ 39, ρ 40, ρ 27, ρ 28, ρ 41, ρ 42, ρ 43, ρ 44, ρ 45, ρ 34, ρ 46, ρ 47] (γ 5)
  have hD : en144 (γ 0) (0, [ρ 22], γ 1) = .inl (0, [ρ 22 + 1], γ 5) := by
    unfold en144
    refine (if_pos (show (0 : Nat) = 0 by decide)).trans ?_
    refine (zLet_eq (show _ = γ 1 from rfl)).trans ?_
    refine (zLet_eq (show _ = ρ 22 from rfl)).trans ?_
    refine (zLet_eq m0).trans ?_
    refine (zLet_eq m1).trans ?_
    refine (zLet_eq m13).trans ?_
    refine (zLet_eq m35).trans ?_
    refine (if_neg (show ¬ (ρ 22 ≥ 4) by omega)).trans ?_
    refine (zLet_eq (show fn141 [] (γ 1) = (0, 1, γ 2) from l0.symm)).trans ?_
    refine (zLet_eq (show _ = γ 2 from rfl)).trans ?_
    refine (if_pos (show (1 : Int) ≤ 1 by omega)).trans ?_
    refine (if_neg (show ¬ (ρ 34 ≥ 0) by omega)).trans ?_
    refine (zLet_eq (show fn143 [9 * ρ 1, ρ 22, ρ 13] (γ 2) = (0, 0, γ 3) from l1.symm)).trans ?_
    refine (zLet_eq (show _ = γ 3 from rfl)).trans ?_
    refine (if_neg (show ¬ ((1 : Int) ≤ 0) by omega)).trans ?_
    refine (zLet_eq (show fn114 [] (γ 3) = (0, ρ 48, γ 4) from l2.symm)).trans ?_
    refine (zLet_eq (show _ = γ 4 from rfl)).trans ?_
    refine (if_pos (show (0 : Int) ≤ ρ 48 by omega)).trans ?_
    refine (zLet_eq (show _ = ρ 48 from rfl)).trans ?_
    refine (zLet_eq m50).trans ?_
    refine (if_neg (show ¬ (ρ 48 = 41) by omega)).trans ?_
    refine (if_pos (show ρ 48 = 44 by omega)).trans ?_
    refine (zLet_eq c5.symm).trans ?_
    rfl
  exact zGoo_ato hJ hD
theorem vn144a0_14 {S : Nat → zSpc} (hS102 : ∀ x g o v gz, S 102 x g o v gz → sn102 x g o v gz) (hS109 : ∀ x g o v gz, S 109 x g o v gz → sn109 x g o v gz) (hS114 : ∀ x g o v gz, S 114 x g o v gz → sn114 x g o v gz) (hS133 : ∀ x g o v gz, S 133 x g o v gz → sn133 x g o v gz) (hS141 : ∀ x g o v gz, S 141 x g o v gz → sn141 x g o v gz) (hS143 : ∀ x g o v gz, S 143 x g o v gz → sn143 x g o v gz) {a : List Int} {g : rHp} : ∀ (ρ : Nat → Int) (γ : Nat → rHp), jn144 a g 0 (zAg (zNA a144_ 0) ρ) (γ 1) → zO 22 S a g q144a0_14 ρ γ → zGl (fun i vs g1 => jn144 a g i vs g1) (sn144 a g) q144a0_14 ρ γ := by
  intro ρ γ hJ h
  obtain ⟨ha, hg, hr, hf, hm, hc, hl⟩ := h
  have ha : a = [ρ 0, ρ 1, ρ 2, ρ 3, ρ 4, ρ 5, ρ 6, ρ 7, ρ 8, ρ 9, ρ 10, ρ 11, ρ 12, ρ 13, ρ 14, ρ 15, ρ 16, ρ 17, ρ 18, ρ 19, ρ 20, ρ 21] := ha
  subst ha
  subst hg
  have hJ : jn144 [ρ 0, ρ 1, ρ 2, ρ 3, ρ 4, ρ 5, ρ 6, ρ 7, ρ 8, ρ 9, ρ 10, ρ 11, ρ 12, ρ 13, ρ 14, ρ 15, ρ 16, ρ 17, ρ 18, ρ 19, ρ 20, ρ 21] (γ 0) 0 [ρ 0, ρ 1, ρ 2, ρ 3, ρ 4, ρ 5, ρ 6, ρ 7, ρ 8, ρ 9, ρ 10, ρ 11, ρ 12, ρ 13, ρ 14, ρ 15, ρ 16, ρ 17, ρ 18, ρ 19, ρ 20, ρ 21, ρ 22, ρ 23, ρ 24, ρ 25, ρ 26, ρ 27, ρ 28, ρ 29, ρ 30, ρ 31, ρ 32, ρ 33, ρ 34, ρ 35, ρ 36] (γ 1) := hJ
  obtain ⟨r0, r1, r2, r3, r4, r5, r6, r7, r8, r9, r10, r11, r12, r13, r14, r15, r16, r17, r18, r19, r20, r21, r22, r23, r24, r25, r26, r27, r28, r29, r30, r31, r32, r33, r34, r35, r36, r37, r38, r39, r40, r41, r42, r43, r44, r45, r46, r47, r48, r49, -⟩ := hr
  have r0 : (0 : Int) ≤ ρ 0 ∧ ρ 0 ≤ 60 := r0
  have r1 : (0 : Int) ≤ ρ 1 ∧ ρ 1 ≤ 60 := r1
  have r2 : (0 : Int) ≤ ρ 2 ∧ ρ 2 ≤ 8 := r2
  have r3 : (0 : Int) ≤ ρ 3 ∧ ρ 3 ≤ 2000 := r3
  have r4 : (1 : Int) ≤ ρ 4 ∧ ρ 4 ≤ 2000 := r4
  have r5 : (0 : Int) ≤ ρ 5 ∧ ρ 5 ≤ 4 := r5
  have r6 : (0 : Int) ≤ ρ 6 ∧ ρ 6 ≤ 4 := r6
  have r7 : ((-1) : Int) ≤ ρ 7 ∧ ρ 7 ≤ 7 := r7
  have r8 : (0 : Int) ≤ ρ 8 ∧ ρ 8 ≤ 8 := r8
  have r9 : (0 : Int) ≤ ρ 9 ∧ ρ 9 ≤ 2 := r9
  have r10 : ((-1) : Int) ≤ ρ 10 ∧ ρ 10 ≤ 19 := r10
  have r11 : (0 : Int) ≤ ρ 11 ∧ ρ 11 ≤ 20 := r11
  have r12 : ((-2147483648) : Int) ≤ ρ 12 ∧ ρ 12 ≤ 2147483647 := r12
  have r13 : ((-2147483648) : Int) ≤ ρ 13 ∧ ρ 13 ≤ 2147483647 := r13
  have r14 : ((-2147483648) : Int) ≤ ρ 14 ∧ ρ 14 ≤ 2147483647 := r14
  have r15 : (0 : Int) ≤ ρ 15 ∧ ρ 15 ≤ 8 := r15
  have r16 : (0 : Int) ≤ ρ 16 ∧ ρ 16 ≤ 32 := r16
  have r17 : (0 : Int) ≤ ρ 17 ∧ ρ 17 ≤ 5120 := r17
  have r18 : ((-2147483648) : Int) ≤ ρ 18 ∧ ρ 18 ≤ 2147483647 := r18
  have r19 : ((-1) : Int) ≤ ρ 19 ∧ ρ 19 ≤ 3 := r19
  have r20 : (0 : Int) ≤ ρ 20 ∧ ρ 20 ≤ 3 := r20
  have r21 : ((-2147483648) : Int) ≤ ρ 21 ∧ ρ 21 ≤ 2147483647 := r21
  have r22 : (0 : Int) ≤ ρ 22 ∧ ρ 22 ≤ 3 := r22
  have r23 : (1 : Int) ≤ ρ 23 ∧ ρ 23 ≤ 2000 := r23
  have r24 : (0 : Int) ≤ ρ 24 ∧ ρ 24 ≤ 4 := r24
  have r25 : (0 : Int) ≤ ρ 25 ∧ ρ 25 ≤ 4 := r25
  have r26 : ((-1) : Int) ≤ ρ 26 ∧ ρ 26 ≤ 7 := r26
  have r27 : (0 : Int) ≤ ρ 27 ∧ ρ 27 ≤ 0 := r27
  have r28 : ((-1) : Int) ≤ ρ 28 ∧ ρ 28 ≤ (-1) := r28
  have r29 : ((-2147483648) : Int) ≤ ρ 29 ∧ ρ 29 ≤ 2147483647 := r29
  have r30 : ((-2147483648) : Int) ≤ ρ 30 ∧ ρ 30 ≤ 2147483647 := r30
  have r31 : (0 : Int) ≤ ρ 31 ∧ ρ 31 ≤ 8 := r31
  have r32 : (0 : Int) ≤ ρ 32 ∧ ρ 32 ≤ 32 := r32
  have r33 : (0 : Int) ≤ ρ 33 ∧ ρ 33 ≤ 5120 := r33
  have r34 : ((-1) : Int) ≤ ρ 34 ∧ ρ 34 ≤ (-1) := r34
  have r35 : (0 : Int) ≤ ρ 35 ∧ ρ 35 ≤ 3 := r35
  have r36 : ((-2147483648) : Int) ≤ ρ 36 ∧ ρ 36 ≤ 2147483647 := r36
  have r37 : (1 : Int) ≤ ρ 37 ∧ ρ 37 ≤ 2000 := r37
  have r38 : (1 : Int) ≤ ρ 38 ∧ ρ 38 ≤ 4 := r38
  have r39 : (0 : Int) ≤ ρ 39 ∧ ρ 39 ≤ 4 := r39
  have r40 : ((-1) : Int) ≤ ρ 40 ∧ ρ 40 ≤ 7 := r40
  have r41 : ((-2147483648) : Int) ≤ ρ 41 ∧ ρ 41 ≤ 2147483647 := r41
  have r42 : ((-2147483648) : Int) ≤ ρ 42 ∧ ρ 42 ≤ 2147483647 := r42
  have r43 : (0 : Int) ≤ ρ 43 ∧ ρ 43 ≤ 8 := r43
  have r44 : (0 : Int) ≤ ρ 44 ∧ ρ 44 ≤ 32 := r44
  have r45 : (0 : Int) ≤ ρ 45 ∧ ρ 45 ≤ 5120 := r45
  have r46 : (0 : Int) ≤ ρ 46 ∧ ρ 46 ≤ 3 := r46
  have r47 : ((-2147483648) : Int) ≤ ρ 47 ∧ ρ 47 ≤ 2147483647 := r47
  have r48 : (0 : Int) ≤ ρ 48 ∧ ρ 48 ≤ 255 := r48
  have r49 : (0 : Int) ≤ ρ 49 ∧ ρ 49 ≤ 2000 := r49
  obtain ⟨f0, f1, f2, f3, f4, f5, f6, f7, f8, f9, f10, f11, f12, f13, f14, f15, f16, f17, f18, f19, f20, f21, f22, -⟩ := hf
  have f0 : (0 : Int) ≤ ρ 49 + -ρ 37 := f0
  have f1 : (0 : Int) ≤ -ρ 49 + ρ 4 + (-1) := f1
  have f2 : (0 : Int) ≤ -ρ 37 + ρ 4 + (-1) := f2
  have f3 : (0 : Int) ≤ 3 * ρ 26 + -ρ 25 + 4 := f3
  have f4 : (0 : Int) ≤ ρ 37 + -ρ 23 + (-1) := f4
  have f5 : (0 : Int) ≤ ρ 38 + -ρ 24 := f5
  have f6 : (0 : Int) ≤ ρ 39 + -ρ 25 := f6
  have f7 : (0 : Int) ≤ ρ 43 + -ρ 31 := f7
  have f8 : (0 : Int) ≤ ρ 44 + -ρ 32 := f8
  have f9 : (0 : Int) ≤ ρ 45 + -ρ 33 := f9
  have f10 : (0 : Int) ≤ -ρ 23 + ρ 4 + (-1) := f10
  have f11 : (0 : Int) ≤ -ρ 38 + ρ 24 + 1 := f11
  have f12 : (0 : Int) ≤ 3 * ρ 40 + -ρ 39 + 4 := f12
  have f13 : (0 : Int) ≤ -ρ 24 + ρ 22 := f13
  have f14 : (0 : Int) ≤ ρ 4 + -ρ 3 + (-1) := f14
  have f15 : (0 : Int) ≤ -ρ 23 + ρ 4 := f15
  have f16 : (0 : Int) ≤ -ρ 22 + ρ 4 + (-1) := f16
  have f17 : (0 : Int) ≤ ρ 33 + -ρ 17 := f17
  have f18 : (0 : Int) ≤ ρ 32 + -ρ 16 := f18
  have f19 : (0 : Int) ≤ ρ 31 + -ρ 15 := f19
  have f20 : (0 : Int) ≤ ρ 23 + -ρ 3 + (-1) := f20
  have f21 : (0 : Int) ≤ ρ 23 + -ρ 22 + (-1) := f21
  have f22 : (0 : Int) ≤ -ρ 34 + ρ 22 + (-1) := f22
  obtain ⟨m0, m1, m2, m3, m4, m5, m6, m7, m8, m9, m10, m11, m12, m13, m14, m15, m16, m17, m18, m19, m20, m21, m22, m23, m24, m25, m26, m27, m28, m29, m30, m31, m32, m33, m34, m35, m36, m37, m38, m39, m40, m41, m42, m43, m44, m45, m46, m47, m48, m49, m50, m51, -⟩ := hm
  have m0 : γ 0 1 0 10 = ρ 0 := m0
  have m1 : γ 0 40 0 (ρ 0) = ρ 1 := m1
  have m2 : γ 0 9 (ρ 1) 2 = ρ 2 := m2
  have m3 : γ 0 2 0 6 = ρ 3 := m3
  have m4 : γ 0 2 0 3 = ρ 4 := m4
  have m5 : γ 0 10 (9 * ρ 1) 5 = ρ 5 := m5
  have m6 : γ 0 10 (9 * ρ 1) 12 = ρ 6 := m6
  have m7 : γ 0 10 (9 * ρ 1) 14 = ρ 7 := m7
  have m8 : γ 0 10 (9 * ρ 1) 4 = ρ 8 := m8
  have m9 : γ 0 2 0 7 = ρ 9 := m9
  have m10 : γ 0 10 (9 * ρ 1) 8 = ρ 10 := m10
  have m11 : γ 0 1 0 7 = ρ 11 := m11
  have m12 : γ 0 2 0 4 = ρ 12 := m12
  have m13 : γ 0 2 0 5 = ρ 13 := m13
  have m14 : γ 0 2 0 9 = ρ 14 := m14
  have m15 : γ 0 2 0 13 = ρ 15 := m15
  have m16 : γ 0 2 0 16 = ρ 16 := m16
  have m17 : γ 0 3 0 1 = ρ 17 := m17
  have m18 : γ 0 10 (9 * ρ 1) 7 = ρ 18 := m18
  have m19 : γ 0 10 (9 * ρ 1) 9 = ρ 19 := m19
  have m20 : γ 0 10 (9 * ρ 1) 13 = ρ 20 := m20
  have m21 : γ 0 10 (9 * ρ 1) 15 = ρ 21 := m21
  have m22 : γ 1 2 0 6 = ρ 23 := m22
  have m23 : γ 1 10 (9 * ρ 1) 5 = ρ 24 := m23
  have m24 : γ 1 10 (9 * ρ 1) 12 = ρ 25 := m24
  have m25 : γ 1 10 (9 * ρ 1) 14 = ρ 26 := m25
  have m26 : γ 1 10 (9 * ρ 1) 4 = ρ 27 := m26
  have m27 : γ 1 10 (9 * ρ 1) 8 = ρ 28 := m27
  have m28 : γ 1 2 0 4 = ρ 12 := m28
  have m29 : γ 1 2 0 5 = ρ 29 := m29
  have m30 : γ 1 2 0 9 = ρ 30 := m30
  have m31 : γ 1 2 0 13 = ρ 31 := m31
  have m32 : γ 1 2 0 16 = ρ 32 := m32
  have m33 : γ 1 3 0 1 = ρ 33 := m33
  have m34 : γ 1 10 (9 * ρ 1) 7 = ρ 14 := m34
  have m35 : γ 1 10 (9 * ρ 1) 9 = ρ 34 := m35
  have m36 : γ 1 10 (9 * ρ 1) 13 = ρ 35 := m36
  have m37 : γ 1 10 (9 * ρ 1) 15 = ρ 36 := m37
  have m38 : γ 2 2 0 6 = ρ 37 := m38
  have m39 : γ 2 10 (9 * ρ 1) 5 = ρ 38 := m39
  have m40 : γ 2 10 (9 * ρ 1) 12 = ρ 39 := m40
  have m41 : γ 2 10 (9 * ρ 1) 14 = ρ 40 := m41
  have m42 : γ 2 2 0 4 = ρ 12 := m42
  have m43 : γ 2 2 0 5 = ρ 41 := m43
  have m44 : γ 2 2 0 9 = ρ 42 := m44
  have m45 : γ 2 2 0 13 = ρ 43 := m45
  have m46 : γ 2 2 0 16 = ρ 44 := m46
  have m47 : γ 2 3 0 1 = ρ 45 := m47
  have m48 : γ 2 10 (9 * ρ 1) 13 = ρ 46 := m48
  have m49 : γ 2 10 (9 * ρ 1) 15 = ρ 47 := m49
  have m50 : γ 4 2 0 6 = ρ 49 := m50
  have m51 : γ 5 2 0 4 = ρ 49 := m51
  obtain ⟨⟨⟨⟨⟨-, c1⟩, c2⟩, c3⟩, c4⟩, c5⟩ := hc
  have c1 : ∀ (G : Nat) (k j : Int), ¬ rMdP m97_ G j → γ 1 G k j = γ 0 G k j := c1
  have c2 : ∀ (G : Nat) (k j : Int), ¬ rMdP m94_ G j → γ 2 G k j = γ 1 G k j := c2
  have c3 : ∀ (G : Nat) (k j : Int), ¬ rMdP m0_ G j → γ 3 G k j = γ 2 G k j := c3
  have c4 : ∀ (G : Nat) (k j : Int), ¬ rMdP m77_ G j → γ 4 G k j = γ 3 G k j := c4
  have c5 : ∀ (G : Nat) (k j : Int), ¬ rMdP m72_ G j → γ 5 G k j = γ 4 G k j := c5
  obtain ⟨l0, l1, l2, l3, l4, l5, -⟩ := hl
  have l0 : sn141 [ρ 0, ρ 1, ρ 2, ρ 23, ρ 4, ρ 24, ρ 25, ρ 26, ρ 27, ρ 12, ρ 29, ρ 30, ρ 31, ρ 32, ρ 33, ρ 35, ρ 36] (γ 1) 0 1 (γ 2) := hS141 _ _ _ _ _ l0
  have l1 : sn143 [9 * ρ 1, ρ 22, ρ 13] (γ 2) 0 0 (γ 3) := hS143 _ _ _ _ _ l1
  have l2 : sn114 [ρ 37, ρ 4] (γ 3) 0 (ρ 48) (γ 4) := hS114 _ _ _ _ _ l2
  have l3 : ρ 48 ≠ 41 := l3
  have l4 : ρ 48 ≠ 44 := l4
  have l5 : sn109 [ρ 49, ρ 12] (γ 4) 0 0 (γ 5) := hS109 _ _ _ _ _ l5
  show sn144 [ρ 0, ρ 1, ρ 2, ρ 3, ρ 4, ρ 5, ρ 6, ρ 7, ρ 8, ρ 9, ρ 10, ρ 11, ρ 12, ρ 13, ρ 14, ρ 15, ρ 16, ρ 17, ρ 18, ρ 19, ρ 20, ρ 21] (γ 0) 0 0 (γ 5)
  have hD : en144 (γ 0) (0, [ρ 22], γ 1) = .inr (0, 0, γ 5) := by
    unfold en144
    refine (if_pos (show (0 : Nat) = 0 by decide)).trans ?_
    refine (zLet_eq (show _ = γ 1 from rfl)).trans ?_
    refine (zLet_eq (show _ = ρ 22 from rfl)).trans ?_
    refine (zLet_eq m0).trans ?_
    refine (zLet_eq m1).trans ?_
    refine (zLet_eq m13).trans ?_
    refine (zLet_eq m35).trans ?_
    refine (if_neg (show ¬ (ρ 22 ≥ 4) by omega)).trans ?_
    refine (zLet_eq (show fn141 [] (γ 1) = (0, 1, γ 2) from l0.symm)).trans ?_
    refine (zLet_eq (show _ = γ 2 from rfl)).trans ?_
    refine (if_pos (show (1 : Int) ≤ 1 by omega)).trans ?_
    refine (if_neg (show ¬ (ρ 34 ≥ 0) by omega)).trans ?_
    refine (zLet_eq (show fn143 [9 * ρ 1, ρ 22, ρ 13] (γ 2) = (0, 0, γ 3) from l1.symm)).trans ?_
    refine (zLet_eq (show _ = γ 3 from rfl)).trans ?_
    refine (if_neg (show ¬ ((1 : Int) ≤ 0) by omega)).trans ?_
    refine (zLet_eq (show fn114 [] (γ 3) = (0, ρ 48, γ 4) from l2.symm)).trans ?_
    refine (zLet_eq (show _ = γ 4 from rfl)).trans ?_
    refine (if_pos (show (0 : Int) ≤ ρ 48 by omega)).trans ?_
    refine (zLet_eq (show _ = ρ 48 from rfl)).trans ?_
    refine (zLet_eq m50).trans ?_
    refine (if_neg (show ¬ (ρ 48 = 41) by omega)).trans ?_
    refine (if_neg (show ¬ (ρ 48 = 44) by omega)).trans ?_
    refine (zLet_eq (show fn109 [ρ 49] (γ 4) = (0, 0, γ 5) from l5.symm)).trans ?_
    refine (zLet_eq (show _ = γ 5 from rfl)).trans ?_
    rfl
  exact zGoo_aend hJ hD
theorem vn144a0_15 {S : Nat → zSpc} (hS102 : ∀ x g o v gz, S 102 x g o v gz → sn102 x g o v gz) (hS109 : ∀ x g o v gz, S 109 x g o v gz → sn109 x g o v gz) (hS114 : ∀ x g o v gz, S 114 x g o v gz → sn114 x g o v gz) (hS133 : ∀ x g o v gz, S 133 x g o v gz → sn133 x g o v gz) (hS141 : ∀ x g o v gz, S 141 x g o v gz → sn141 x g o v gz) (hS143 : ∀ x g o v gz, S 143 x g o v gz → sn143 x g o v gz) {a : List Int} {g : rHp} : ∀ (ρ : Nat → Int) (γ : Nat → rHp), jn144 a g 0 (zAg (zNA a144_ 0) ρ) (γ 1) → zO 22 S a g q144a0_15 ρ γ → zGl (fun i vs g1 => jn144 a g i vs g1) (sn144 a g) q144a0_15 ρ γ := by
  intro ρ γ hJ h
  obtain ⟨ha, hg, hr, hf, hm, hc, hl⟩ := h
  have ha : a = [ρ 0, ρ 1, ρ 2, ρ 3, ρ 4, ρ 5, ρ 6, ρ 7, ρ 8, ρ 9, ρ 10, ρ 11, ρ 12, ρ 13, ρ 14, ρ 15, ρ 16, ρ 17, ρ 18, ρ 19, ρ 20, ρ 21] := ha
  subst ha
  subst hg
  have hJ : jn144 [ρ 0, ρ 1, ρ 2, ρ 3, ρ 4, ρ 5, ρ 6, ρ 7, ρ 8, ρ 9, ρ 10, ρ 11, ρ 12, ρ 13, ρ 14, ρ 15, ρ 16, ρ 17, ρ 18, ρ 19, ρ 20, ρ 21] (γ 0) 0 [ρ 0, ρ 1, ρ 2, ρ 3, ρ 4, ρ 5, ρ 6, ρ 7, ρ 8, ρ 9, ρ 10, ρ 11, ρ 12, ρ 13, ρ 14, ρ 15, ρ 16, ρ 17, ρ 18, ρ 19, ρ 20, ρ 21, ρ 22, ρ 23, ρ 24, ρ 25, ρ 26, ρ 27, ρ 28, ρ 29, ρ 30, ρ 31, ρ 32, ρ 33, ρ 34, ρ 35, ρ 36] (γ 1) := hJ
  obtain ⟨r0, r1, r2, r3, r4, r5, r6, r7, r8, r9, r10, r11, r12, r13, r14, r15, r16, r17, r18, r19, r20, r21, r22, r23, r24, r25, r26, r27, r28, r29, r30, r31, r32, r33, r34, r35, r36, r37, r38, r39, r40, r41, r42, r43, r44, r45, r46, r47, r48, -⟩ := hr
  have r0 : (0 : Int) ≤ ρ 0 ∧ ρ 0 ≤ 60 := r0
  have r1 : (0 : Int) ≤ ρ 1 ∧ ρ 1 ≤ 60 := r1
  have r2 : (0 : Int) ≤ ρ 2 ∧ ρ 2 ≤ 8 := r2
  have r3 : (0 : Int) ≤ ρ 3 ∧ ρ 3 ≤ 2000 := r3
  have r4 : (1 : Int) ≤ ρ 4 ∧ ρ 4 ≤ 2000 := r4
  have r5 : (0 : Int) ≤ ρ 5 ∧ ρ 5 ≤ 4 := r5
  have r6 : (0 : Int) ≤ ρ 6 ∧ ρ 6 ≤ 4 := r6
  have r7 : ((-1) : Int) ≤ ρ 7 ∧ ρ 7 ≤ 7 := r7
  have r8 : (0 : Int) ≤ ρ 8 ∧ ρ 8 ≤ 8 := r8
  have r9 : (0 : Int) ≤ ρ 9 ∧ ρ 9 ≤ 2 := r9
  have r10 : ((-1) : Int) ≤ ρ 10 ∧ ρ 10 ≤ 19 := r10
  have r11 : (0 : Int) ≤ ρ 11 ∧ ρ 11 ≤ 20 := r11
  have r12 : ((-2147483648) : Int) ≤ ρ 12 ∧ ρ 12 ≤ 2147483647 := r12
  have r13 : ((-2147483648) : Int) ≤ ρ 13 ∧ ρ 13 ≤ 2147483647 := r13
  have r14 : ((-2147483648) : Int) ≤ ρ 14 ∧ ρ 14 ≤ 2147483647 := r14
  have r15 : (0 : Int) ≤ ρ 15 ∧ ρ 15 ≤ 8 := r15
  have r16 : (0 : Int) ≤ ρ 16 ∧ ρ 16 ≤ 32 := r16
  have r17 : (0 : Int) ≤ ρ 17 ∧ ρ 17 ≤ 5120 := r17
  have r18 : ((-2147483648) : Int) ≤ ρ 18 ∧ ρ 18 ≤ 2147483647 := r18
  have r19 : ((-1) : Int) ≤ ρ 19 ∧ ρ 19 ≤ 3 := r19
  have r20 : (0 : Int) ≤ ρ 20 ∧ ρ 20 ≤ 3 := r20
  have r21 : ((-2147483648) : Int) ≤ ρ 21 ∧ ρ 21 ≤ 2147483647 := r21
  have r22 : (0 : Int) ≤ ρ 22 ∧ ρ 22 ≤ 3 := r22
  have r23 : (1 : Int) ≤ ρ 23 ∧ ρ 23 ≤ 2000 := r23
  have r24 : (0 : Int) ≤ ρ 24 ∧ ρ 24 ≤ 4 := r24
  have r25 : (0 : Int) ≤ ρ 25 ∧ ρ 25 ≤ 4 := r25
  have r26 : ((-1) : Int) ≤ ρ 26 ∧ ρ 26 ≤ 7 := r26
  have r27 : (0 : Int) ≤ ρ 27 ∧ ρ 27 ≤ 0 := r27
  have r28 : ((-1) : Int) ≤ ρ 28 ∧ ρ 28 ≤ (-1) := r28
  have r29 : ((-2147483648) : Int) ≤ ρ 29 ∧ ρ 29 ≤ 2147483647 := r29
  have r30 : ((-2147483648) : Int) ≤ ρ 30 ∧ ρ 30 ≤ 2147483647 := r30
  have r31 : (0 : Int) ≤ ρ 31 ∧ ρ 31 ≤ 8 := r31
  have r32 : (0 : Int) ≤ ρ 32 ∧ ρ 32 ≤ 32 := r32
  have r33 : (0 : Int) ≤ ρ 33 ∧ ρ 33 ≤ 5120 := r33
  have r34 : ((-1) : Int) ≤ ρ 34 ∧ ρ 34 ≤ (-1) := r34
  have r35 : (0 : Int) ≤ ρ 35 ∧ ρ 35 ≤ 3 := r35
  have r36 : ((-2147483648) : Int) ≤ ρ 36 ∧ ρ 36 ≤ 2147483647 := r36
  have r37 : (1 : Int) ≤ ρ 37 ∧ ρ 37 ≤ 2000 := r37
  have r38 : (1 : Int) ≤ ρ 38 ∧ ρ 38 ≤ 4 := r38
  have r39 : (0 : Int) ≤ ρ 39 ∧ ρ 39 ≤ 4 := r39
  have r40 : ((-1) : Int) ≤ ρ 40 ∧ ρ 40 ≤ 7 := r40
  have r41 : ((-2147483648) : Int) ≤ ρ 41 ∧ ρ 41 ≤ 2147483647 := r41
  have r42 : ((-2147483648) : Int) ≤ ρ 42 ∧ ρ 42 ≤ 2147483647 := r42
  have r43 : (0 : Int) ≤ ρ 43 ∧ ρ 43 ≤ 8 := r43
  have r44 : (0 : Int) ≤ ρ 44 ∧ ρ 44 ≤ 32 := r44
  have r45 : (0 : Int) ≤ ρ 45 ∧ ρ 45 ≤ 5120 := r45
  have r46 : (0 : Int) ≤ ρ 46 ∧ ρ 46 ≤ 3 := r46
  have r47 : ((-2147483648) : Int) ≤ ρ 47 ∧ ρ 47 ≤ 2147483647 := r47
  have r48 : (0 : Int) ≤ ρ 48 ∧ ρ 48 ≤ 2000 := r48
  obtain ⟨f0, f1, f2, f3, f4, f5, f6, f7, f8, f9, f10, f11, f12, f13, f14, f15, f16, f17, f18, f19, f20, f21, -⟩ := hf
  have f0 : (0 : Int) ≤ ρ 48 + -ρ 37 := f0
  have f1 : (0 : Int) ≤ ρ 48 + -ρ 4 := f1
  have f2 : (0 : Int) ≤ 3 * ρ 26 + -ρ 25 + 4 := f2
  have f3 : (0 : Int) ≤ ρ 37 + -ρ 23 + (-1) := f3
  have f4 : (0 : Int) ≤ ρ 38 + -ρ 24 := f4
  have f5 : (0 : Int) ≤ ρ 39 + -ρ 25 := f5
  have f6 : (0 : Int) ≤ ρ 43 + -ρ 31 := f6
  have f7 : (0 : Int) ≤ ρ 44 + -ρ 32 := f7
  have f8 : (0 : Int) ≤ ρ 45 + -ρ 33 := f8
  have f9 : (0 : Int) ≤ -ρ 23 + ρ 4 + (-1) := f9
  have f10 : (0 : Int) ≤ -ρ 38 + ρ 24 + 1 := f10
  have f11 : (0 : Int) ≤ 3 * ρ 40 + -ρ 39 + 4 := f11
  have f12 : (0 : Int) ≤ -ρ 24 + ρ 22 := f12
  have f13 : (0 : Int) ≤ ρ 4 + -ρ 3 + (-1) := f13
  have f14 : (0 : Int) ≤ -ρ 23 + ρ 4 := f14
  have f15 : (0 : Int) ≤ -ρ 22 + ρ 4 + (-1) := f15
  have f16 : (0 : Int) ≤ ρ 33 + -ρ 17 := f16
  have f17 : (0 : Int) ≤ ρ 32 + -ρ 16 := f17
  have f18 : (0 : Int) ≤ ρ 31 + -ρ 15 := f18
  have f19 : (0 : Int) ≤ ρ 23 + -ρ 3 + (-1) := f19
  have f20 : (0 : Int) ≤ ρ 23 + -ρ 22 + (-1) := f20
  have f21 : (0 : Int) ≤ -ρ 34 + ρ 22 + (-1) := f21
  obtain ⟨m0, m1, m2, m3, m4, m5, m6, m7, m8, m9, m10, m11, m12, m13, m14, m15, m16, m17, m18, m19, m20, m21, m22, m23, m24, m25, m26, m27, m28, m29, m30, m31, m32, m33, m34, m35, m36, m37, m38, m39, m40, m41, m42, m43, m44, m45, m46, m47, m48, m49, m50, m51, -⟩ := hm
  have m0 : γ 0 1 0 10 = ρ 0 := m0
  have m1 : γ 0 40 0 (ρ 0) = ρ 1 := m1
  have m2 : γ 0 9 (ρ 1) 2 = ρ 2 := m2
  have m3 : γ 0 2 0 6 = ρ 3 := m3
  have m4 : γ 0 2 0 3 = ρ 4 := m4
  have m5 : γ 0 10 (9 * ρ 1) 5 = ρ 5 := m5
  have m6 : γ 0 10 (9 * ρ 1) 12 = ρ 6 := m6
  have m7 : γ 0 10 (9 * ρ 1) 14 = ρ 7 := m7
  have m8 : γ 0 10 (9 * ρ 1) 4 = ρ 8 := m8
  have m9 : γ 0 2 0 7 = ρ 9 := m9
  have m10 : γ 0 10 (9 * ρ 1) 8 = ρ 10 := m10
  have m11 : γ 0 1 0 7 = ρ 11 := m11
  have m12 : γ 0 2 0 4 = ρ 12 := m12
  have m13 : γ 0 2 0 5 = ρ 13 := m13
  have m14 : γ 0 2 0 9 = ρ 14 := m14
  have m15 : γ 0 2 0 13 = ρ 15 := m15
  have m16 : γ 0 2 0 16 = ρ 16 := m16
  have m17 : γ 0 3 0 1 = ρ 17 := m17
  have m18 : γ 0 10 (9 * ρ 1) 7 = ρ 18 := m18
  have m19 : γ 0 10 (9 * ρ 1) 9 = ρ 19 := m19
  have m20 : γ 0 10 (9 * ρ 1) 13 = ρ 20 := m20
  have m21 : γ 0 10 (9 * ρ 1) 15 = ρ 21 := m21
  have m22 : γ 1 2 0 6 = ρ 23 := m22
  have m23 : γ 1 10 (9 * ρ 1) 5 = ρ 24 := m23
  have m24 : γ 1 10 (9 * ρ 1) 12 = ρ 25 := m24
  have m25 : γ 1 10 (9 * ρ 1) 14 = ρ 26 := m25
  have m26 : γ 1 10 (9 * ρ 1) 4 = ρ 27 := m26
  have m27 : γ 1 10 (9 * ρ 1) 8 = ρ 28 := m27
  have m28 : γ 1 2 0 4 = ρ 12 := m28
  have m29 : γ 1 2 0 5 = ρ 29 := m29
  have m30 : γ 1 2 0 9 = ρ 30 := m30
  have m31 : γ 1 2 0 13 = ρ 31 := m31
  have m32 : γ 1 2 0 16 = ρ 32 := m32
  have m33 : γ 1 3 0 1 = ρ 33 := m33
  have m34 : γ 1 10 (9 * ρ 1) 7 = ρ 14 := m34
  have m35 : γ 1 10 (9 * ρ 1) 9 = ρ 34 := m35
  have m36 : γ 1 10 (9 * ρ 1) 13 = ρ 35 := m36
  have m37 : γ 1 10 (9 * ρ 1) 15 = ρ 36 := m37
  have m38 : γ 2 2 0 6 = ρ 37 := m38
  have m39 : γ 2 10 (9 * ρ 1) 5 = ρ 38 := m39
  have m40 : γ 2 10 (9 * ρ 1) 12 = ρ 39 := m40
  have m41 : γ 2 10 (9 * ρ 1) 14 = ρ 40 := m41
  have m42 : γ 2 2 0 4 = ρ 12 := m42
  have m43 : γ 2 2 0 5 = ρ 41 := m43
  have m44 : γ 2 2 0 9 = ρ 42 := m44
  have m45 : γ 2 2 0 13 = ρ 43 := m45
  have m46 : γ 2 2 0 16 = ρ 44 := m46
  have m47 : γ 2 3 0 1 = ρ 45 := m47
  have m48 : γ 2 10 (9 * ρ 1) 13 = ρ 46 := m48
  have m49 : γ 2 10 (9 * ρ 1) 15 = ρ 47 := m49
  have m50 : γ 5 2 0 6 = ρ 48 := m50
  have m51 : γ 6 2 0 4 = ρ 48 := m51
  obtain ⟨⟨⟨⟨⟨⟨-, c1⟩, c2⟩, c3⟩, c4⟩, c5⟩, c6⟩ := hc
  have c1 : ∀ (G : Nat) (k j : Int), ¬ rMdP m97_ G j → γ 1 G k j = γ 0 G k j := c1
  have c2 : ∀ (G : Nat) (k j : Int), ¬ rMdP m94_ G j → γ 2 G k j = γ 1 G k j := c2
  have c3 : ∀ (G : Nat) (k j : Int), ¬ rMdP m0_ G j → γ 3 G k j = γ 2 G k j := c3
  have c4 : γ 4 = rUp (γ 3) 10 (9 * ρ 1) 9 (ρ 22) := c4
  have c5 : ∀ (G : Nat) (k j : Int), ¬ rMdP m77_ G j → γ 5 G k j = γ 4 G k j := c5
  have c6 : ∀ (G : Nat) (k j : Int), ¬ rMdP m72_ G j → γ 6 G k j = γ 5 G k j := c6
  obtain ⟨l0, l1, l2, l3, -⟩ := hl
  have l0 : sn141 [ρ 0, ρ 1, ρ 2, ρ 23, ρ 4, ρ 24, ρ 25, ρ 26, ρ 27, ρ 12, ρ 29, ρ 30, ρ 31, ρ 32, ρ 33, ρ 35, ρ 36] (γ 1) 0 1 (γ 2) := hS141 _ _ _ _ _ l0
  have l1 : sn143 [9 * ρ 1, ρ 22, ρ 13] (γ 2) 0 1 (γ 3) := hS143 _ _ _ _ _ l1
  have l2 : sn114 [ρ 37, ρ 4] (γ 4) 0 (-1) (γ 5) := hS114 _ _ _ _ _ l2
  have l3 : sn109 [ρ 48, ρ 12] (γ 5) 0 0 (γ 6) := hS109 _ _ _ _ _ l3
  show sn144 [ρ 0, ρ 1, ρ 2, ρ 3, ρ 4, ρ 5, ρ 6, ρ 7, ρ 8, ρ 9, ρ 10, ρ 11, ρ 12, ρ 13, ρ 14, ρ 15, ρ 16, ρ 17, ρ 18, ρ 19, ρ 20, ρ 21] (γ 0) 0 0 (γ 6)
  have hD : en144 (γ 0) (0, [ρ 22], γ 1) = .inr (0, 0, γ 6) := by
    unfold en144
    refine (if_pos (show (0 : Nat) = 0 by decide)).trans ?_
    refine (zLet_eq (show _ = γ 1 from rfl)).trans ?_
    refine (zLet_eq (show _ = ρ 22 from rfl)).trans ?_
    refine (zLet_eq m0).trans ?_
    refine (zLet_eq m1).trans ?_
    refine (zLet_eq m13).trans ?_
    refine (zLet_eq m35).trans ?_
    refine (if_neg (show ¬ (ρ 22 ≥ 4) by omega)).trans ?_
    refine (zLet_eq (show fn141 [] (γ 1) = (0, 1, γ 2) from l0.symm)).trans ?_
    refine (zLet_eq (show _ = γ 2 from rfl)).trans ?_
    refine (if_pos (show (1 : Int) ≤ 1 by omega)).trans ?_
    refine (if_neg (show ¬ (ρ 34 ≥ 0) by omega)).trans ?_
    refine (zLet_eq (show fn143 [9 * ρ 1, ρ 22, ρ 13] (γ 2) = (0, 1, γ 3) from l1.symm)).trans ?_
    refine (zLet_eq (show _ = γ 3 from rfl)).trans ?_
    refine (if_pos (show (1 : Int) ≤ 1 by omega)).trans ?_
    refine (zLet_eq c4.symm).trans ?_
    refine (zLet_eq (show fn114 [] (γ 4) = (0, (-1), γ 5) from l2.symm)).trans ?_
    refine (zLet_eq (show _ = γ 5 from rfl)).trans ?_
    refine (if_neg (show ¬ ((0 : Int) ≤ (-1)) by omega)).trans ?_
    refine (zLet_eq m50).trans ?_
    refine (zLet_eq (show fn109 [ρ 48] (γ 5) = (0, 0, γ 6) from l3.symm)).trans ?_
    refine (zLet_eq (show _ = γ 6 from rfl)).trans ?_
    rfl
  exact zGoo_aend hJ hD
theorem vn144a0_16 {S : Nat → zSpc} (hS102 : ∀ x g o v gz, S 102 x g o v gz → sn102 x g o v gz) (hS109 : ∀ x g o v gz, S 109 x g o v gz → sn109 x g o v gz) (hS114 : ∀ x g o v gz, S 114 x g o v gz → sn114 x g o v gz) (hS133 : ∀ x g o v gz, S 133 x g o v gz → sn133 x g o v gz) (hS141 : ∀ x g o v gz, S 141 x g o v gz → sn141 x g o v gz) (hS143 : ∀ x g o v gz, S 143 x g o v gz → sn143 x g o v gz) {a : List Int} {g : rHp} : ∀ (ρ : Nat → Int) (γ : Nat → rHp), jn144 a g 0 (zAg (zNA a144_ 0) ρ) (γ 1) → zO 22 S a g q144a0_16 ρ γ → zGl (fun i vs g1 => jn144 a g i vs g1) (sn144 a g) q144a0_16 ρ γ := by
  intro ρ γ hJ h
  obtain ⟨ha, hg, hr, hf, hm, hc, hl⟩ := h
  have ha : a = [ρ 0, ρ 1, ρ 2, ρ 3, ρ 4, ρ 5, ρ 6, ρ 7, ρ 8, ρ 9, ρ 10, ρ 11, ρ 12, ρ 13, ρ 14, ρ 15, ρ 16, ρ 17, ρ 18, ρ 19, ρ 20, ρ 21] := ha
  subst ha
  subst hg
  have hJ : jn144 [ρ 0, ρ 1, ρ 2, ρ 3, ρ 4, ρ 5, ρ 6, ρ 7, ρ 8, ρ 9, ρ 10, ρ 11, ρ 12, ρ 13, ρ 14, ρ 15, ρ 16, ρ 17, ρ 18, ρ 19, ρ 20, ρ 21] (γ 0) 0 [ρ 0, ρ 1, ρ 2, ρ 3, ρ 4, ρ 5, ρ 6, ρ 7, ρ 8, ρ 9, ρ 10, ρ 11, ρ 12, ρ 13, ρ 14, ρ 15, ρ 16, ρ 17, ρ 18, ρ 19, ρ 20, ρ 21, ρ 22, ρ 23, ρ 24, ρ 25, ρ 26, ρ 27, ρ 28, ρ 29, ρ 30, ρ 31, ρ 32, ρ 33, ρ 34, ρ 35, ρ 36] (γ 1) := hJ
  obtain ⟨r0, r1, r2, r3, r4, r5, r6, r7, r8, r9, r10, r11, r12, r13, r14, r15, r16, r17, r18, r19, r20, r21, r22, r23, r24, r25, r26, r27, r28, r29, r30, r31, r32, r33, r34, r35, r36, r37, r38, r39, r40, r41, r42, r43, r44, r45, r46, r47, r48, r49, r50, r51, -⟩ := hr
  have r0 : (0 : Int) ≤ ρ 0 ∧ ρ 0 ≤ 60 := r0
  have r1 : (0 : Int) ≤ ρ 1 ∧ ρ 1 ≤ 60 := r1
  have r2 : (0 : Int) ≤ ρ 2 ∧ ρ 2 ≤ 8 := r2
  have r3 : (0 : Int) ≤ ρ 3 ∧ ρ 3 ≤ 2000 := r3
  have r4 : (1 : Int) ≤ ρ 4 ∧ ρ 4 ≤ 2000 := r4
  have r5 : (0 : Int) ≤ ρ 5 ∧ ρ 5 ≤ 4 := r5
  have r6 : (0 : Int) ≤ ρ 6 ∧ ρ 6 ≤ 4 := r6
  have r7 : ((-1) : Int) ≤ ρ 7 ∧ ρ 7 ≤ 7 := r7
  have r8 : (0 : Int) ≤ ρ 8 ∧ ρ 8 ≤ 8 := r8
  have r9 : (0 : Int) ≤ ρ 9 ∧ ρ 9 ≤ 2 := r9
  have r10 : ((-1) : Int) ≤ ρ 10 ∧ ρ 10 ≤ 19 := r10
  have r11 : (0 : Int) ≤ ρ 11 ∧ ρ 11 ≤ 20 := r11
  have r12 : ((-2147483648) : Int) ≤ ρ 12 ∧ ρ 12 ≤ 2147483647 := r12
  have r13 : ((-2147483648) : Int) ≤ ρ 13 ∧ ρ 13 ≤ 2147483647 := r13
  have r14 : ((-2147483648) : Int) ≤ ρ 14 ∧ ρ 14 ≤ 2147483647 := r14
  have r15 : (0 : Int) ≤ ρ 15 ∧ ρ 15 ≤ 8 := r15
  have r16 : (0 : Int) ≤ ρ 16 ∧ ρ 16 ≤ 32 := r16
  have r17 : (0 : Int) ≤ ρ 17 ∧ ρ 17 ≤ 5120 := r17
  have r18 : ((-2147483648) : Int) ≤ ρ 18 ∧ ρ 18 ≤ 2147483647 := r18
  have r19 : ((-1) : Int) ≤ ρ 19 ∧ ρ 19 ≤ 3 := r19
  have r20 : (0 : Int) ≤ ρ 20 ∧ ρ 20 ≤ 3 := r20
  have r21 : ((-2147483648) : Int) ≤ ρ 21 ∧ ρ 21 ≤ 2147483647 := r21
  have r22 : (0 : Int) ≤ ρ 22 ∧ ρ 22 ≤ 3 := r22
  have r23 : (1 : Int) ≤ ρ 23 ∧ ρ 23 ≤ 2000 := r23
  have r24 : (0 : Int) ≤ ρ 24 ∧ ρ 24 ≤ 4 := r24
  have r25 : (0 : Int) ≤ ρ 25 ∧ ρ 25 ≤ 4 := r25
  have r26 : ((-1) : Int) ≤ ρ 26 ∧ ρ 26 ≤ 7 := r26
  have r27 : (0 : Int) ≤ ρ 27 ∧ ρ 27 ≤ 0 := r27
  have r28 : ((-1) : Int) ≤ ρ 28 ∧ ρ 28 ≤ (-1) := r28
  have r29 : ((-2147483648) : Int) ≤ ρ 29 ∧ ρ 29 ≤ 2147483647 := r29
  have r30 : ((-2147483648) : Int) ≤ ρ 30 ∧ ρ 30 ≤ 2147483647 := r30
  have r31 : (0 : Int) ≤ ρ 31 ∧ ρ 31 ≤ 8 := r31
  have r32 : (0 : Int) ≤ ρ 32 ∧ ρ 32 ≤ 32 := r32
  have r33 : (0 : Int) ≤ ρ 33 ∧ ρ 33 ≤ 5120 := r33
  have r34 : ((-1) : Int) ≤ ρ 34 ∧ ρ 34 ≤ (-1) := r34
  have r35 : (0 : Int) ≤ ρ 35 ∧ ρ 35 ≤ 3 := r35
  have r36 : ((-2147483648) : Int) ≤ ρ 36 ∧ ρ 36 ≤ 2147483647 := r36
  have r37 : (1 : Int) ≤ ρ 37 ∧ ρ 37 ≤ 2000 := r37
  have r38 : (1 : Int) ≤ ρ 38 ∧ ρ 38 ≤ 4 := r38
  have r39 : (0 : Int) ≤ ρ 39 ∧ ρ 39 ≤ 4 := r39
  have r40 : ((-1) : Int) ≤ ρ 40 ∧ ρ 40 ≤ 7 := r40
  have r41 : ((-2147483648) : Int) ≤ ρ 41 ∧ ρ 41 ≤ 2147483647 := r41
  have r42 : ((-2147483648) : Int) ≤ ρ 42 ∧ ρ 42 ≤ 2147483647 := r42
  have r43 : (0 : Int) ≤ ρ 43 ∧ ρ 43 ≤ 8 := r43
  have r44 : (0 : Int) ≤ ρ 44 ∧ ρ 44 ≤ 32 := r44
  have r45 : (0 : Int) ≤ ρ 45 ∧ ρ 45 ≤ 5120 := r45
  have r46 : (0 : Int) ≤ ρ 46 ∧ ρ 46 ≤ 3 := r46
  have r47 : ((-2147483648) : Int) ≤ ρ 47 ∧ ρ 47 ≤ 2147483647 := r47
  have r48 : (41 : Int) ≤ ρ 48 ∧ ρ 48 ≤ 41 := r48
  have r49 : (0 : Int) ≤ ρ 49 ∧ ρ 49 ≤ 2000 := r49
  have r50 : ((-1) : Int) ≤ ρ 50 ∧ ρ 50 ≤ (-1) := r50
  have r51 : (0 : Int) ≤ ρ 51 ∧ ρ 51 ≤ 20 := r51
  obtain ⟨f0, f1, f2, f3, f4, f5, f6, f7, f8, f9, f10, f11, f12, f13, f14, f15, f16, f17, f18, f19, f20, f21, f22, f23, -⟩ := hf
  have f0 : (0 : Int) ≤ ρ 51 + -ρ 11 := f0
  have f1 : (0 : Int) ≤ ρ 49 + -ρ 37 := f1
  have f2 : (0 : Int) ≤ -ρ 49 + ρ 4 + (-1) := f2
  have f3 : (0 : Int) ≤ -ρ 37 + ρ 4 + (-1) := f3
  have f4 : (0 : Int) ≤ 3 * ρ 26 + -ρ 25 + 4 := f4
  have f5 : (0 : Int) ≤ ρ 37 + -ρ 23 + (-1) := f5
  have f6 : (0 : Int) ≤ ρ 38 + -ρ 24 := f6
  have f7 : (0 : Int) ≤ ρ 39 + -ρ 25 := f7
  have f8 : (0 : Int) ≤ ρ 43 + -ρ 31 := f8
  have f9 : (0 : Int) ≤ ρ 44 + -ρ 32 := f9
  have f10 : (0 : Int) ≤ ρ 45 + -ρ 33 := f10
  have f11 : (0 : Int) ≤ -ρ 23 + ρ 4 + (-1) := f11
  have f12 : (0 : Int) ≤ -ρ 38 + ρ 24 + 1 := f12
  have f13 : (0 : Int) ≤ 3 * ρ 40 + -ρ 39 + 4 := f13
  have f14 : (0 : Int) ≤ -ρ 24 + ρ 22 := f14
  have f15 : (0 : Int) ≤ ρ 4 + -ρ 3 + (-1) := f15
  have f16 : (0 : Int) ≤ -ρ 23 + ρ 4 := f16
  have f17 : (0 : Int) ≤ -ρ 22 + ρ 4 + (-1) := f17
  have f18 : (0 : Int) ≤ ρ 33 + -ρ 17 := f18
  have f19 : (0 : Int) ≤ ρ 32 + -ρ 16 := f19
  have f20 : (0 : Int) ≤ ρ 31 + -ρ 15 := f20
  have f21 : (0 : Int) ≤ ρ 23 + -ρ 3 + (-1) := f21
  have f22 : (0 : Int) ≤ ρ 23 + -ρ 22 + (-1) := f22
  have f23 : (0 : Int) ≤ -ρ 34 + ρ 22 + (-1) := f23
  obtain ⟨m0, m1, m2, m3, m4, m5, m6, m7, m8, m9, m10, m11, m12, m13, m14, m15, m16, m17, m18, m19, m20, m21, m22, m23, m24, m25, m26, m27, m28, m29, m30, m31, m32, m33, m34, m35, m36, m37, m38, m39, m40, m41, m42, m43, m44, m45, m46, m47, m48, m49, m50, m51, m52, m53, -⟩ := hm
  have m0 : γ 0 1 0 10 = ρ 0 := m0
  have m1 : γ 0 40 0 (ρ 0) = ρ 1 := m1
  have m2 : γ 0 9 (ρ 1) 2 = ρ 2 := m2
  have m3 : γ 0 2 0 6 = ρ 3 := m3
  have m4 : γ 0 2 0 3 = ρ 4 := m4
  have m5 : γ 0 10 (9 * ρ 1) 5 = ρ 5 := m5
  have m6 : γ 0 10 (9 * ρ 1) 12 = ρ 6 := m6
  have m7 : γ 0 10 (9 * ρ 1) 14 = ρ 7 := m7
  have m8 : γ 0 10 (9 * ρ 1) 4 = ρ 8 := m8
  have m9 : γ 0 2 0 7 = ρ 9 := m9
  have m10 : γ 0 10 (9 * ρ 1) 8 = ρ 10 := m10
  have m11 : γ 0 1 0 7 = ρ 11 := m11
  have m12 : γ 0 2 0 4 = ρ 12 := m12
  have m13 : γ 0 2 0 5 = ρ 13 := m13
  have m14 : γ 0 2 0 9 = ρ 14 := m14
  have m15 : γ 0 2 0 13 = ρ 15 := m15
  have m16 : γ 0 2 0 16 = ρ 16 := m16
  have m17 : γ 0 3 0 1 = ρ 17 := m17
  have m18 : γ 0 10 (9 * ρ 1) 7 = ρ 18 := m18
  have m19 : γ 0 10 (9 * ρ 1) 9 = ρ 19 := m19
  have m20 : γ 0 10 (9 * ρ 1) 13 = ρ 20 := m20
  have m21 : γ 0 10 (9 * ρ 1) 15 = ρ 21 := m21
  have m22 : γ 1 2 0 6 = ρ 23 := m22
  have m23 : γ 1 10 (9 * ρ 1) 5 = ρ 24 := m23
  have m24 : γ 1 10 (9 * ρ 1) 12 = ρ 25 := m24
  have m25 : γ 1 10 (9 * ρ 1) 14 = ρ 26 := m25
  have m26 : γ 1 10 (9 * ρ 1) 4 = ρ 27 := m26
  have m27 : γ 1 10 (9 * ρ 1) 8 = ρ 28 := m27
  have m28 : γ 1 2 0 4 = ρ 12 := m28
  have m29 : γ 1 2 0 5 = ρ 29 := m29
  have m30 : γ 1 2 0 9 = ρ 30 := m30
  have m31 : γ 1 2 0 13 = ρ 31 := m31
  have m32 : γ 1 2 0 16 = ρ 32 := m32
  have m33 : γ 1 3 0 1 = ρ 33 := m33
  have m34 : γ 1 10 (9 * ρ 1) 7 = ρ 14 := m34
  have m35 : γ 1 10 (9 * ρ 1) 9 = ρ 34 := m35
  have m36 : γ 1 10 (9 * ρ 1) 13 = ρ 35 := m36
  have m37 : γ 1 10 (9 * ρ 1) 15 = ρ 36 := m37
  have m38 : γ 2 2 0 6 = ρ 37 := m38
  have m39 : γ 2 10 (9 * ρ 1) 5 = ρ 38 := m39
  have m40 : γ 2 10 (9 * ρ 1) 12 = ρ 39 := m40
  have m41 : γ 2 10 (9 * ρ 1) 14 = ρ 40 := m41
  have m42 : γ 2 2 0 4 = ρ 12 := m42
  have m43 : γ 2 2 0 5 = ρ 41 := m43
  have m44 : γ 2 2 0 9 = ρ 42 := m44
  have m45 : γ 2 2 0 13 = ρ 43 := m45
  have m46 : γ 2 2 0 16 = ρ 44 := m46
  have m47 : γ 2 3 0 1 = ρ 45 := m47
  have m48 : γ 2 10 (9 * ρ 1) 13 = ρ 46 := m48
  have m49 : γ 2 10 (9 * ρ 1) 15 = ρ 47 := m49
  have m50 : γ 5 2 0 6 = ρ 49 := m50
  have m51 : γ 7 10 (9 * ρ 1) 8 = ρ 50 := m51
  have m52 : γ 7 1 0 7 = ρ 51 := m52
  have m53 : γ 7 2 0 4 = ρ 14 := m53
  obtain ⟨⟨⟨⟨⟨⟨⟨-, c1⟩, c2⟩, c3⟩, c4⟩, c5⟩, c6⟩, c7⟩ := hc
  have c1 : ∀ (G : Nat) (k j : Int), ¬ rMdP m97_ G j → γ 1 G k j = γ 0 G k j := c1
  have c2 : ∀ (G : Nat) (k j : Int), ¬ rMdP m94_ G j → γ 2 G k j = γ 1 G k j := c2
  have c3 : ∀ (G : Nat) (k j : Int), ¬ rMdP m0_ G j → γ 3 G k j = γ 2 G k j := c3
  have c4 : γ 4 = rUp (γ 3) 10 (9 * ρ 1) 9 (ρ 22) := c4
  have c5 : ∀ (G : Nat) (k j : Int), ¬ rMdP m77_ G j → γ 5 G k j = γ 4 G k j := c5
  have c6 : γ 6 = rUp (γ 5) 2 0 6 (ρ 49 + 1) := c6
  have c7 : ∀ (G : Nat) (k j : Int), ¬ rMdP m87_ G j → γ 7 G k j = γ 6 G k j := c7
  obtain ⟨l0, l1, l2, l3, -⟩ := hl
  have l0 : sn141 [ρ 0, ρ 1, ρ 2, ρ 23, ρ 4, ρ 24, ρ 25, ρ 26, ρ 27, ρ 12, ρ 29, ρ 30, ρ 31, ρ 32, ρ 33, ρ 35, ρ 36] (γ 1) 0 1 (γ 2) := hS141 _ _ _ _ _ l0
  have l1 : sn143 [9 * ρ 1, ρ 22, ρ 13] (γ 2) 0 1 (γ 3) := hS143 _ _ _ _ _ l1
  have l2 : sn114 [ρ 37, ρ 4] (γ 4) 0 (ρ 48) (γ 5) := hS114 _ _ _ _ _ l2
  have l3 : sn133 [ρ 0, ρ 1, ρ 2, ρ 9, ρ 28, ρ 11, ρ 12, ρ 38, ρ 14] (γ 6) 0 0 (γ 7) := hS133 _ _ _ _ _ l3
  show sn144 [ρ 0, ρ 1, ρ 2, ρ 3, ρ 4, ρ 5, ρ 6, ρ 7, ρ 8, ρ 9, ρ 10, ρ 11, ρ 12, ρ 13, ρ 14, ρ 15, ρ 16, ρ 17, ρ 18, ρ 19, ρ 20, ρ 21] (γ 0) 0 0 (γ 7)
  have hD : en144 (γ 0) (0, [ρ 22], γ 1) = .inr (0, 0, γ 7) := by
    unfold en144
    refine (if_pos (show (0 : Nat) = 0 by decide)).trans ?_
    refine (zLet_eq (show _ = γ 1 from rfl)).trans ?_
    refine (zLet_eq (show _ = ρ 22 from rfl)).trans ?_
    refine (zLet_eq m0).trans ?_
    refine (zLet_eq m1).trans ?_
    refine (zLet_eq m13).trans ?_
    refine (zLet_eq m35).trans ?_
    refine (if_neg (show ¬ (ρ 22 ≥ 4) by omega)).trans ?_
    refine (zLet_eq (show fn141 [] (γ 1) = (0, 1, γ 2) from l0.symm)).trans ?_
    refine (zLet_eq (show _ = γ 2 from rfl)).trans ?_
    refine (if_pos (show (1 : Int) ≤ 1 by omega)).trans ?_
    refine (if_neg (show ¬ (ρ 34 ≥ 0) by omega)).trans ?_
    refine (zLet_eq (show fn143 [9 * ρ 1, ρ 22, ρ 13] (γ 2) = (0, 1, γ 3) from l1.symm)).trans ?_
    refine (zLet_eq (show _ = γ 3 from rfl)).trans ?_
    refine (if_pos (show (1 : Int) ≤ 1 by omega)).trans ?_
    refine (zLet_eq c4.symm).trans ?_
    refine (zLet_eq (show fn114 [] (γ 4) = (0, ρ 48, γ 5) from l2.symm)).trans ?_
    refine (zLet_eq (show _ = γ 5 from rfl)).trans ?_
    refine (if_pos (show (0 : Int) ≤ ρ 48 by omega)).trans ?_
    refine (zLet_eq (show _ = ρ 48 from rfl)).trans ?_
    refine (zLet_eq m50).trans ?_
    refine (if_pos (show ρ 48 = 41 by omega)).trans ?_
    refine (zLet_eq c6.symm).trans ?_
    refine (zLet_eq (show fn133 [] (γ 6) = (0, 0, γ 7) from l3.symm)).trans ?_
    refine (zLet_eq (show _ = γ 7 from rfl)).trans ?_
    refine (if_neg (show ¬ ((1 : Int) ≤ 0) by omega)).trans ?_
    rfl
  exact zGoo_aend hJ hD
theorem vn144a0_17 {S : Nat → zSpc} (hS102 : ∀ x g o v gz, S 102 x g o v gz → sn102 x g o v gz) (hS109 : ∀ x g o v gz, S 109 x g o v gz → sn109 x g o v gz) (hS114 : ∀ x g o v gz, S 114 x g o v gz → sn114 x g o v gz) (hS133 : ∀ x g o v gz, S 133 x g o v gz → sn133 x g o v gz) (hS141 : ∀ x g o v gz, S 141 x g o v gz → sn141 x g o v gz) (hS143 : ∀ x g o v gz, S 143 x g o v gz → sn143 x g o v gz) {a : List Int} {g : rHp} : ∀ (ρ : Nat → Int) (γ : Nat → rHp), jn144 a g 0 (zAg (zNA a144_ 0) ρ) (γ 1) → zO 22 S a g q144a0_17 ρ γ → zGl (fun i vs g1 => jn144 a g i vs g1) (sn144 a g) q144a0_17 ρ γ := by
  intro ρ γ hJ h
  obtain ⟨ha, hg, hr, hf, hm, hc, hl⟩ := h
  have ha : a = [ρ 0, ρ 1, ρ 2, ρ 3, ρ 4, ρ 5, ρ 6, ρ 7, ρ 8, ρ 9, ρ 10, ρ 11, ρ 12, ρ 13, ρ 14, ρ 15, ρ 16, ρ 17, ρ 18, ρ 19, ρ 20, ρ 21] := ha
  subst ha
  subst hg
  have hJ : jn144 [ρ 0, ρ 1, ρ 2, ρ 3, ρ 4, ρ 5, ρ 6, ρ 7, ρ 8, ρ 9, ρ 10, ρ 11, ρ 12, ρ 13, ρ 14, ρ 15, ρ 16, ρ 17, ρ 18, ρ 19, ρ 20, ρ 21] (γ 0) 0 [ρ 0, ρ 1, ρ 2, ρ 3, ρ 4, ρ 5, ρ 6, ρ 7, ρ 8, ρ 9, ρ 10, ρ 11, ρ 12, ρ 13, ρ 14, ρ 15, ρ 16, ρ 17, ρ 18, ρ 19, ρ 20, ρ 21, ρ 22, ρ 23, ρ 24, ρ 25, ρ 26, ρ 27, ρ 28, ρ 29, ρ 30, ρ 31, ρ 32, ρ 33, ρ 34, ρ 35, ρ 36] (γ 1) := hJ
  obtain ⟨r0, r1, r2, r3, r4, r5, r6, r7, r8, r9, r10, r11, r12, r13, r14, r15, r16, r17, r18, r19, r20, r21, r22, r23, r24, r25, r26, r27, r28, r29, r30, r31, r32, r33, r34, r35, r36, r37, r38, r39, r40, r41, r42, r43, r44, r45, r46, r47, r48, r49, r50, -⟩ := hr
  have r0 : (0 : Int) ≤ ρ 0 ∧ ρ 0 ≤ 60 := r0
  have r1 : (0 : Int) ≤ ρ 1 ∧ ρ 1 ≤ 60 := r1
  have r2 : (0 : Int) ≤ ρ 2 ∧ ρ 2 ≤ 8 := r2
  have r3 : (0 : Int) ≤ ρ 3 ∧ ρ 3 ≤ 2000 := r3
  have r4 : (1 : Int) ≤ ρ 4 ∧ ρ 4 ≤ 2000 := r4
  have r5 : (0 : Int) ≤ ρ 5 ∧ ρ 5 ≤ 4 := r5
  have r6 : (0 : Int) ≤ ρ 6 ∧ ρ 6 ≤ 4 := r6
  have r7 : ((-1) : Int) ≤ ρ 7 ∧ ρ 7 ≤ 7 := r7
  have r8 : (0 : Int) ≤ ρ 8 ∧ ρ 8 ≤ 8 := r8
  have r9 : (1 : Int) ≤ ρ 9 ∧ ρ 9 ≤ 1 := r9
  have r10 : ((-1) : Int) ≤ ρ 10 ∧ ρ 10 ≤ 19 := r10
  have r11 : (0 : Int) ≤ ρ 11 ∧ ρ 11 ≤ 20 := r11
  have r12 : ((-2147483648) : Int) ≤ ρ 12 ∧ ρ 12 ≤ 2147483647 := r12
  have r13 : ((-2147483648) : Int) ≤ ρ 13 ∧ ρ 13 ≤ 2147483647 := r13
  have r14 : ((-2147483648) : Int) ≤ ρ 14 ∧ ρ 14 ≤ 2147483647 := r14
  have r15 : (0 : Int) ≤ ρ 15 ∧ ρ 15 ≤ 8 := r15
  have r16 : (0 : Int) ≤ ρ 16 ∧ ρ 16 ≤ 32 := r16
  have r17 : (0 : Int) ≤ ρ 17 ∧ ρ 17 ≤ 5120 := r17
  have r18 : ((-2147483648) : Int) ≤ ρ 18 ∧ ρ 18 ≤ 2147483647 := r18
  have r19 : ((-1) : Int) ≤ ρ 19 ∧ ρ 19 ≤ 3 := r19
  have r20 : (0 : Int) ≤ ρ 20 ∧ ρ 20 ≤ 3 := r20
  have r21 : ((-2147483648) : Int) ≤ ρ 21 ∧ ρ 21 ≤ 2147483647 := r21
  have r22 : (0 : Int) ≤ ρ 22 ∧ ρ 22 ≤ 3 := r22
  have r23 : (1 : Int) ≤ ρ 23 ∧ ρ 23 ≤ 2000 := r23
  have r24 : (0 : Int) ≤ ρ 24 ∧ ρ 24 ≤ 4 := r24
  have r25 : (0 : Int) ≤ ρ 25 ∧ ρ 25 ≤ 4 := r25
  have r26 : ((-1) : Int) ≤ ρ 26 ∧ ρ 26 ≤ 7 := r26
  have r27 : (0 : Int) ≤ ρ 27 ∧ ρ 27 ≤ 0 := r27
  have r28 : ((-1) : Int) ≤ ρ 28 ∧ ρ 28 ≤ (-1) := r28
  have r29 : ((-2147483648) : Int) ≤ ρ 29 ∧ ρ 29 ≤ 2147483647 := r29
  have r30 : ((-2147483648) : Int) ≤ ρ 30 ∧ ρ 30 ≤ 2147483647 := r30
  have r31 : (0 : Int) ≤ ρ 31 ∧ ρ 31 ≤ 8 := r31
  have r32 : (0 : Int) ≤ ρ 32 ∧ ρ 32 ≤ 32 := r32
  have r33 : (0 : Int) ≤ ρ 33 ∧ ρ 33 ≤ 5120 := r33
  have r34 : ((-1) : Int) ≤ ρ 34 ∧ ρ 34 ≤ (-1) := r34
  have r35 : (0 : Int) ≤ ρ 35 ∧ ρ 35 ≤ 3 := r35
  have r36 : ((-2147483648) : Int) ≤ ρ 36 ∧ ρ 36 ≤ 2147483647 := r36
  have r37 : (1 : Int) ≤ ρ 37 ∧ ρ 37 ≤ 2000 := r37
  have r38 : (1 : Int) ≤ ρ 38 ∧ ρ 38 ≤ 4 := r38
  have r39 : (0 : Int) ≤ ρ 39 ∧ ρ 39 ≤ 4 := r39
  have r40 : ((-1) : Int) ≤ ρ 40 ∧ ρ 40 ≤ 7 := r40
  have r41 : ((-2147483648) : Int) ≤ ρ 41 ∧ ρ 41 ≤ 2147483647 := r41
  have r42 : ((-2147483648) : Int) ≤ ρ 42 ∧ ρ 42 ≤ 2147483647 := r42
  have r43 : (0 : Int) ≤ ρ 43 ∧ ρ 43 ≤ 8 := r43
  have r44 : (0 : Int) ≤ ρ 44 ∧ ρ 44 ≤ 32 := r44
  have r45 : (0 : Int) ≤ ρ 45 ∧ ρ 45 ≤ 5120 := r45
  have r46 : (0 : Int) ≤ ρ 46 ∧ ρ 46 ≤ 3 := r46
  have r47 : ((-2147483648) : Int) ≤ ρ 47 ∧ ρ 47 ≤ 2147483647 := r47
  have r48 : (41 : Int) ≤ ρ 48 ∧ ρ 48 ≤ 41 := r48
  have r49 : (0 : Int) ≤ ρ 49 ∧ ρ 49 ≤ 2000 := r49
  have r50 : ((-1) : Int) ≤ ρ 50 ∧ ρ 50 ≤ (-1) := r50
  obtain ⟨f0, f1, f2, f3, f4, f5, f6, f7, f8, f9, f10, f11, f12, f13, f14, f15, f16, f17, f18, f19, f20, f21, f22, -⟩ := hf
  have f0 : (0 : Int) ≤ ρ 49 + -ρ 37 := f0
  have f1 : (0 : Int) ≤ -ρ 49 + ρ 4 + (-1) := f1
  have f2 : (0 : Int) ≤ -ρ 37 + ρ 4 + (-1) := f2
  have f3 : (0 : Int) ≤ 3 * ρ 26 + -ρ 25 + 4 := f3
  have f4 : (0 : Int) ≤ ρ 37 + -ρ 23 + (-1) := f4
  have f5 : (0 : Int) ≤ ρ 38 + -ρ 24 := f5
  have f6 : (0 : Int) ≤ ρ 39 + -ρ 25 := f6
  have f7 : (0 : Int) ≤ ρ 43 + -ρ 31 := f7
  have f8 : (0 : Int) ≤ ρ 44 + -ρ 32 := f8
  have f9 : (0 : Int) ≤ ρ 45 + -ρ 33 := f9
  have f10 : (0 : Int) ≤ -ρ 23 + ρ 4 + (-1) := f10
  have f11 : (0 : Int) ≤ -ρ 38 + ρ 24 + 1 := f11
  have f12 : (0 : Int) ≤ 3 * ρ 40 + -ρ 39 + 4 := f12
  have f13 : (0 : Int) ≤ -ρ 24 + ρ 22 := f13
  have f14 : (0 : Int) ≤ ρ 4 + -ρ 3 + (-1) := f14
  have f15 : (0 : Int) ≤ -ρ 23 + ρ 4 := f15
  have f16 : (0 : Int) ≤ -ρ 22 + ρ 4 + (-1) := f16
  have f17 : (0 : Int) ≤ ρ 33 + -ρ 17 := f17
  have f18 : (0 : Int) ≤ ρ 32 + -ρ 16 := f18
  have f19 : (0 : Int) ≤ ρ 31 + -ρ 15 := f19
  have f20 : (0 : Int) ≤ ρ 23 + -ρ 3 + (-1) := f20
  have f21 : (0 : Int) ≤ ρ 23 + -ρ 22 + (-1) := f21
  have f22 : (0 : Int) ≤ -ρ 34 + ρ 22 + (-1) := f22
  obtain ⟨m0, m1, m2, m3, m4, m5, m6, m7, m8, m9, m10, m11, m12, m13, m14, m15, m16, m17, m18, m19, m20, m21, m22, m23, m24, m25, m26, m27, m28, m29, m30, m31, m32, m33, m34, m35, m36, m37, m38, m39, m40, m41, m42, m43, m44, m45, m46, m47, m48, m49, m50, m51, m52, m53, -⟩ := hm
  have m0 : γ 0 1 0 10 = ρ 0 := m0
  have m1 : γ 0 40 0 (ρ 0) = ρ 1 := m1
  have m2 : γ 0 9 (ρ 1) 2 = ρ 2 := m2
  have m3 : γ 0 2 0 6 = ρ 3 := m3
  have m4 : γ 0 2 0 3 = ρ 4 := m4
  have m5 : γ 0 10 (9 * ρ 1) 5 = ρ 5 := m5
  have m6 : γ 0 10 (9 * ρ 1) 12 = ρ 6 := m6
  have m7 : γ 0 10 (9 * ρ 1) 14 = ρ 7 := m7
  have m8 : γ 0 10 (9 * ρ 1) 4 = ρ 8 := m8
  have m9 : γ 0 2 0 7 = ρ 9 := m9
  have m10 : γ 0 10 (9 * ρ 1) 8 = ρ 10 := m10
  have m11 : γ 0 1 0 7 = ρ 11 := m11
  have m12 : γ 0 2 0 4 = ρ 12 := m12
  have m13 : γ 0 2 0 5 = ρ 13 := m13
  have m14 : γ 0 2 0 9 = ρ 14 := m14
  have m15 : γ 0 2 0 13 = ρ 15 := m15
  have m16 : γ 0 2 0 16 = ρ 16 := m16
  have m17 : γ 0 3 0 1 = ρ 17 := m17
  have m18 : γ 0 10 (9 * ρ 1) 7 = ρ 18 := m18
  have m19 : γ 0 10 (9 * ρ 1) 9 = ρ 19 := m19
  have m20 : γ 0 10 (9 * ρ 1) 13 = ρ 20 := m20
  have m21 : γ 0 10 (9 * ρ 1) 15 = ρ 21 := m21
  have m22 : γ 1 2 0 6 = ρ 23 := m22
  have m23 : γ 1 10 (9 * ρ 1) 5 = ρ 24 := m23
  have m24 : γ 1 10 (9 * ρ 1) 12 = ρ 25 := m24
  have m25 : γ 1 10 (9 * ρ 1) 14 = ρ 26 := m25
  have m26 : γ 1 10 (9 * ρ 1) 4 = ρ 27 := m26
  have m27 : γ 1 10 (9 * ρ 1) 8 = ρ 28 := m27
  have m28 : γ 1 2 0 4 = ρ 12 := m28
  have m29 : γ 1 2 0 5 = ρ 29 := m29
  have m30 : γ 1 2 0 9 = ρ 30 := m30
  have m31 : γ 1 2 0 13 = ρ 31 := m31
  have m32 : γ 1 2 0 16 = ρ 32 := m32
  have m33 : γ 1 3 0 1 = ρ 33 := m33
  have m34 : γ 1 10 (9 * ρ 1) 7 = ρ 14 := m34
  have m35 : γ 1 10 (9 * ρ 1) 9 = ρ 34 := m35
  have m36 : γ 1 10 (9 * ρ 1) 13 = ρ 35 := m36
  have m37 : γ 1 10 (9 * ρ 1) 15 = ρ 36 := m37
  have m38 : γ 2 2 0 6 = ρ 37 := m38
  have m39 : γ 2 10 (9 * ρ 1) 5 = ρ 38 := m39
  have m40 : γ 2 10 (9 * ρ 1) 12 = ρ 39 := m40
  have m41 : γ 2 10 (9 * ρ 1) 14 = ρ 40 := m41
  have m42 : γ 2 2 0 4 = ρ 12 := m42
  have m43 : γ 2 2 0 5 = ρ 41 := m43
  have m44 : γ 2 2 0 9 = ρ 42 := m44
  have m45 : γ 2 2 0 13 = ρ 43 := m45
  have m46 : γ 2 2 0 16 = ρ 44 := m46
  have m47 : γ 2 3 0 1 = ρ 45 := m47
  have m48 : γ 2 10 (9 * ρ 1) 13 = ρ 46 := m48
  have m49 : γ 2 10 (9 * ρ 1) 15 = ρ 47 := m49
  have m50 : γ 5 2 0 6 = ρ 49 := m50
  have m51 : γ 7 10 (9 * ρ 1) 8 = ρ 50 := m51
  have m52 : γ 7 1 0 7 = ρ 11 := m52
  have m53 : γ 7 2 0 4 = ρ 12 := m53
  obtain ⟨⟨⟨⟨⟨⟨⟨-, c1⟩, c2⟩, c3⟩, c4⟩, c5⟩, c6⟩, c7⟩ := hc
  have c1 : ∀ (G : Nat) (k j : Int), ¬ rMdP m97_ G j → γ 1 G k j = γ 0 G k j := c1
  have c2 : ∀ (G : Nat) (k j : Int), ¬ rMdP m94_ G j → γ 2 G k j = γ 1 G k j := c2
  have c3 : ∀ (G : Nat) (k j : Int), ¬ rMdP m0_ G j → γ 3 G k j = γ 2 G k j := c3
  have c4 : γ 4 = rUp (γ 3) 10 (9 * ρ 1) 9 (ρ 22) := c4
  have c5 : ∀ (G : Nat) (k j : Int), ¬ rMdP m77_ G j → γ 5 G k j = γ 4 G k j := c5
  have c6 : γ 6 = rUp (γ 5) 2 0 6 (ρ 49 + 1) := c6
  have c7 : ∀ (G : Nat) (k j : Int), ¬ rMdP m87_ G j → γ 7 G k j = γ 6 G k j := c7
  obtain ⟨l0, l1, l2, l3, -⟩ := hl
  have l0 : sn141 [ρ 0, ρ 1, ρ 2, ρ 23, ρ 4, ρ 24, ρ 25, ρ 26, ρ 27, ρ 12, ρ 29, ρ 30, ρ 31, ρ 32, ρ 33, ρ 35, ρ 36] (γ 1) 0 1 (γ 2) := hS141 _ _ _ _ _ l0
  have l1 : sn143 [9 * ρ 1, ρ 22, ρ 13] (γ 2) 0 1 (γ 3) := hS143 _ _ _ _ _ l1
  have l2 : sn114 [ρ 37, ρ 4] (γ 4) 0 (ρ 48) (γ 5) := hS114 _ _ _ _ _ l2
  have l3 : sn133 [ρ 0, ρ 1, ρ 2, ρ 9, ρ 28, ρ 11, ρ 12, ρ 38, ρ 14] (γ 6) 0 1 (γ 7) := hS133 _ _ _ _ _ l3
  show sn144 [ρ 0, ρ 1, ρ 2, ρ 3, ρ 4, ρ 5, ρ 6, ρ 7, ρ 8, ρ 9, ρ 10, ρ 11, ρ 12, ρ 13, ρ 14, ρ 15, ρ 16, ρ 17, ρ 18, ρ 19, ρ 20, ρ 21] (γ 0) 0 1 (γ 7)
  have hD : en144 (γ 0) (0, [ρ 22], γ 1) = .inr (0, 1, γ 7) := by
    unfold en144
    refine (if_pos (show (0 : Nat) = 0 by decide)).trans ?_
    refine (zLet_eq (show _ = γ 1 from rfl)).trans ?_
    refine (zLet_eq (show _ = ρ 22 from rfl)).trans ?_
    refine (zLet_eq m0).trans ?_
    refine (zLet_eq m1).trans ?_
    refine (zLet_eq m13).trans ?_
    refine (zLet_eq m35).trans ?_
    refine (if_neg (show ¬ (ρ 22 ≥ 4) by omega)).trans ?_
    refine (zLet_eq (show fn141 [] (γ 1) = (0, 1, γ 2) from l0.symm)).trans ?_
    refine (zLet_eq (show _ = γ 2 from rfl)).trans ?_
    refine (if_pos (show (1 : Int) ≤ 1 by omega)).trans ?_
    refine (if_neg (show ¬ (ρ 34 ≥ 0) by omega)).trans ?_
    refine (zLet_eq (show fn143 [9 * ρ 1, ρ 22, ρ 13] (γ 2) = (0, 1, γ 3) from l1.symm)).trans ?_
    refine (zLet_eq (show _ = γ 3 from rfl)).trans ?_
    refine (if_pos (show (1 : Int) ≤ 1 by omega)).trans ?_
    refine (zLet_eq c4.symm).trans ?_
    refine (zLet_eq (show fn114 [] (γ 4) = (0, ρ 48, γ 5) from l2.symm)).trans ?_
    refine (zLet_eq (show _ = γ 5 from rfl)).trans ?_
    refine (if_pos (show (0 : Int) ≤ ρ 48 by omega)).trans ?_
    refine (zLet_eq (show _ = ρ 48 from rfl)).trans ?_
    refine (zLet_eq m50).trans ?_
    refine (if_pos (show ρ 48 = 41 by omega)).trans ?_
    refine (zLet_eq c6.symm).trans ?_
    refine (zLet_eq (show fn133 [] (γ 6) = (0, 1, γ 7) from l3.symm)).trans ?_
    refine (zLet_eq (show _ = γ 7 from rfl)).trans ?_
    refine (if_pos (show (1 : Int) ≤ 1 by omega)).trans ?_
    rfl
  exact zGoo_aend hJ hD
theorem vn144a0_18 {S : Nat → zSpc} (hS102 : ∀ x g o v gz, S 102 x g o v gz → sn102 x g o v gz) (hS109 : ∀ x g o v gz, S 109 x g o v gz → sn109 x g o v gz) (hS114 : ∀ x g o v gz, S 114 x g o v gz → sn114 x g o v gz) (hS133 : ∀ x g o v gz, S 133 x g o v gz → sn133 x g o v gz) (hS141 : ∀ x g o v gz, S 141 x g o v gz → sn141 x g o v gz) (hS143 : ∀ x g o v gz, S 143 x g o v gz → sn143 x g o v gz) {a : List Int} {g : rHp} : ∀ (ρ : Nat → Int) (γ : Nat → rHp), jn144 a g 0 (zAg (zNA a144_ 0) ρ) (γ 1) → zO 22 S a g q144a0_18 ρ γ → zGl (fun i vs g1 => jn144 a g i vs g1) (sn144 a g) q144a0_18 ρ γ := by
  intro ρ γ hJ h
  obtain ⟨ha, hg, hr, hf, hm, hc, hl⟩ := h
  have ha : a = [ρ 0, ρ 1, ρ 2, ρ 3, ρ 4, ρ 5, ρ 6, ρ 7, ρ 8, ρ 9, ρ 10, ρ 11, ρ 12, ρ 13, ρ 14, ρ 15, ρ 16, ρ 17, ρ 18, ρ 19, ρ 20, ρ 21] := ha
  subst ha
  subst hg
  have hJ : jn144 [ρ 0, ρ 1, ρ 2, ρ 3, ρ 4, ρ 5, ρ 6, ρ 7, ρ 8, ρ 9, ρ 10, ρ 11, ρ 12, ρ 13, ρ 14, ρ 15, ρ 16, ρ 17, ρ 18, ρ 19, ρ 20, ρ 21] (γ 0) 0 [ρ 0, ρ 1, ρ 2, ρ 3, ρ 4, ρ 5, ρ 6, ρ 7, ρ 8, ρ 9, ρ 10, ρ 11, ρ 12, ρ 13, ρ 14, ρ 15, ρ 16, ρ 17, ρ 18, ρ 19, ρ 20, ρ 21, ρ 22, ρ 23, ρ 24, ρ 25, ρ 26, ρ 27, ρ 28, ρ 29, ρ 30, ρ 31, ρ 32, ρ 33, ρ 34, ρ 35, ρ 36] (γ 1) := hJ
  obtain ⟨r0, r1, r2, r3, r4, r5, r6, r7, r8, r9, r10, r11, r12, r13, r14, r15, r16, r17, r18, r19, r20, r21, r22, r23, r24, r25, r26, r27, r28, r29, r30, r31, r32, r33, r34, r35, r36, r37, r38, r39, r40, r41, r42, r43, r44, r45, r46, r47, r48, r49, r50, r51, -⟩ := hr
  have r0 : (0 : Int) ≤ ρ 0 ∧ ρ 0 ≤ 60 := r0
  have r1 : (0 : Int) ≤ ρ 1 ∧ ρ 1 ≤ 60 := r1
  have r2 : (0 : Int) ≤ ρ 2 ∧ ρ 2 ≤ 8 := r2
  have r3 : (0 : Int) ≤ ρ 3 ∧ ρ 3 ≤ 2000 := r3
  have r4 : (1 : Int) ≤ ρ 4 ∧ ρ 4 ≤ 2000 := r4
  have r5 : (0 : Int) ≤ ρ 5 ∧ ρ 5 ≤ 4 := r5
  have r6 : (0 : Int) ≤ ρ 6 ∧ ρ 6 ≤ 4 := r6
  have r7 : ((-1) : Int) ≤ ρ 7 ∧ ρ 7 ≤ 7 := r7
  have r8 : (0 : Int) ≤ ρ 8 ∧ ρ 8 ≤ 8 := r8
  have r9 : (0 : Int) ≤ ρ 9 ∧ ρ 9 ≤ 2 := r9
  have r10 : ((-1) : Int) ≤ ρ 10 ∧ ρ 10 ≤ 19 := r10
  have r11 : (0 : Int) ≤ ρ 11 ∧ ρ 11 ≤ 20 := r11
  have r12 : ((-2147483648) : Int) ≤ ρ 12 ∧ ρ 12 ≤ 2147483647 := r12
  have r13 : ((-2147483648) : Int) ≤ ρ 13 ∧ ρ 13 ≤ 2147483647 := r13
  have r14 : ((-2147483648) : Int) ≤ ρ 14 ∧ ρ 14 ≤ 2147483647 := r14
  have r15 : (0 : Int) ≤ ρ 15 ∧ ρ 15 ≤ 8 := r15
  have r16 : (0 : Int) ≤ ρ 16 ∧ ρ 16 ≤ 32 := r16
  have r17 : (0 : Int) ≤ ρ 17 ∧ ρ 17 ≤ 5120 := r17
  have r18 : ((-2147483648) : Int) ≤ ρ 18 ∧ ρ 18 ≤ 2147483647 := r18
  have r19 : ((-1) : Int) ≤ ρ 19 ∧ ρ 19 ≤ 3 := r19
  have r20 : (0 : Int) ≤ ρ 20 ∧ ρ 20 ≤ 3 := r20
  have r21 : ((-2147483648) : Int) ≤ ρ 21 ∧ ρ 21 ≤ 2147483647 := r21
  have r22 : (0 : Int) ≤ ρ 22 ∧ ρ 22 ≤ 3 := r22
  have r23 : (1 : Int) ≤ ρ 23 ∧ ρ 23 ≤ 2000 := r23
  have r24 : (0 : Int) ≤ ρ 24 ∧ ρ 24 ≤ 4 := r24
  have r25 : (0 : Int) ≤ ρ 25 ∧ ρ 25 ≤ 4 := r25
  have r26 : ((-1) : Int) ≤ ρ 26 ∧ ρ 26 ≤ 7 := r26
  have r27 : (0 : Int) ≤ ρ 27 ∧ ρ 27 ≤ 0 := r27
  have r28 : ((-1) : Int) ≤ ρ 28 ∧ ρ 28 ≤ (-1) := r28
  have r29 : ((-2147483648) : Int) ≤ ρ 29 ∧ ρ 29 ≤ 2147483647 := r29
  have r30 : ((-2147483648) : Int) ≤ ρ 30 ∧ ρ 30 ≤ 2147483647 := r30
  have r31 : (0 : Int) ≤ ρ 31 ∧ ρ 31 ≤ 8 := r31
  have r32 : (0 : Int) ≤ ρ 32 ∧ ρ 32 ≤ 32 := r32
  have r33 : (0 : Int) ≤ ρ 33 ∧ ρ 33 ≤ 5120 := r33
  have r34 : ((-1) : Int) ≤ ρ 34 ∧ ρ 34 ≤ (-1) := r34
  have r35 : (0 : Int) ≤ ρ 35 ∧ ρ 35 ≤ 3 := r35
  have r36 : ((-2147483648) : Int) ≤ ρ 36 ∧ ρ 36 ≤ 2147483647 := r36
  have r37 : (1 : Int) ≤ ρ 37 ∧ ρ 37 ≤ 2000 := r37
  have r38 : (1 : Int) ≤ ρ 38 ∧ ρ 38 ≤ 4 := r38
  have r39 : (0 : Int) ≤ ρ 39 ∧ ρ 39 ≤ 4 := r39
  have r40 : ((-1) : Int) ≤ ρ 40 ∧ ρ 40 ≤ 7 := r40
  have r41 : ((-2147483648) : Int) ≤ ρ 41 ∧ ρ 41 ≤ 2147483647 := r41
  have r42 : ((-2147483648) : Int) ≤ ρ 42 ∧ ρ 42 ≤ 2147483647 := r42
  have r43 : (0 : Int) ≤ ρ 43 ∧ ρ 43 ≤ 8 := r43
  have r44 : (0 : Int) ≤ ρ 44 ∧ ρ 44 ≤ 32 := r44
  have r45 : (0 : Int) ≤ ρ 45 ∧ ρ 45 ≤ 5120 := r45
  have r46 : (0 : Int) ≤ ρ 46 ∧ ρ 46 ≤ 3 := r46
  have r47 : ((-2147483648) : Int) ≤ ρ 47 ∧ ρ 47 ≤ 2147483647 := r47
  have r48 : (41 : Int) ≤ ρ 48 ∧ ρ 48 ≤ 41 := r48
  have r49 : (0 : Int) ≤ ρ 49 ∧ ρ 49 ≤ 2000 := r49
  have r50 : (0 : Int) ≤ ρ 50 ∧ ρ 50 ≤ 19 := r50
  have r51 : (1 : Int) ≤ ρ 51 ∧ ρ 51 ≤ 20 := r51
  obtain ⟨f0, f1, f2, f3, f4, f5, f6, f7, f8, f9, f10, f11, f12, f13, f14, f15, f16, f17, f18, f19, f20, f21, f22, f23, f24, f25, -⟩ := hf
  have f0 : (0 : Int) ≤ ρ 51 + -ρ 50 + (-1) := f0
  have f1 : (0 : Int) ≤ ρ 51 + -ρ 11 := f1
  have f2 : (0 : Int) ≤ -ρ 50 + ρ 11 := f2
  have f3 : (0 : Int) ≤ ρ 49 + -ρ 37 := f3
  have f4 : (0 : Int) ≤ -ρ 49 + ρ 4 + (-1) := f4
  have f5 : (0 : Int) ≤ -ρ 37 + ρ 4 + (-1) := f5
  have f6 : (0 : Int) ≤ 3 * ρ 26 + -ρ 25 + 4 := f6
  have f7 : (0 : Int) ≤ ρ 37 + -ρ 23 + (-1) := f7
  have f8 : (0 : Int) ≤ ρ 38 + -ρ 24 := f8
  have f9 : (0 : Int) ≤ ρ 39 + -ρ 25 := f9
  have f10 : (0 : Int) ≤ ρ 43 + -ρ 31 := f10
  have f11 : (0 : Int) ≤ ρ 44 + -ρ 32 := f11
  have f12 : (0 : Int) ≤ ρ 45 + -ρ 33 := f12
  have f13 : (0 : Int) ≤ -ρ 23 + ρ 4 + (-1) := f13
  have f14 : (0 : Int) ≤ -ρ 38 + ρ 24 + 1 := f14
  have f15 : (0 : Int) ≤ 3 * ρ 40 + -ρ 39 + 4 := f15
  have f16 : (0 : Int) ≤ -ρ 24 + ρ 22 := f16
  have f17 : (0 : Int) ≤ ρ 4 + -ρ 3 + (-1) := f17
  have f18 : (0 : Int) ≤ -ρ 23 + ρ 4 := f18
  have f19 : (0 : Int) ≤ -ρ 22 + ρ 4 + (-1) := f19
  have f20 : (0 : Int) ≤ ρ 33 + -ρ 17 := f20
  have f21 : (0 : Int) ≤ ρ 32 + -ρ 16 := f21
  have f22 : (0 : Int) ≤ ρ 31 + -ρ 15 := f22
  have f23 : (0 : Int) ≤ ρ 23 + -ρ 3 + (-1) := f23
  have f24 : (0 : Int) ≤ ρ 23 + -ρ 22 + (-1) := f24
  have f25 : (0 : Int) ≤ -ρ 34 + ρ 22 + (-1) := f25
  obtain ⟨m0, m1, m2, m3, m4, m5, m6, m7, m8, m9, m10, m11, m12, m13, m14, m15, m16, m17, m18, m19, m20, m21, m22, m23, m24, m25, m26, m27, m28, m29, m30, m31, m32, m33, m34, m35, m36, m37, m38, m39, m40, m41, m42, m43, m44, m45, m46, m47, m48, m49, m50, m51, m52, m53, -⟩ := hm
  have m0 : γ 0 1 0 10 = ρ 0 := m0
  have m1 : γ 0 40 0 (ρ 0) = ρ 1 := m1
  have m2 : γ 0 9 (ρ 1) 2 = ρ 2 := m2
  have m3 : γ 0 2 0 6 = ρ 3 := m3
  have m4 : γ 0 2 0 3 = ρ 4 := m4
  have m5 : γ 0 10 (9 * ρ 1) 5 = ρ 5 := m5
  have m6 : γ 0 10 (9 * ρ 1) 12 = ρ 6 := m6
  have m7 : γ 0 10 (9 * ρ 1) 14 = ρ 7 := m7
  have m8 : γ 0 10 (9 * ρ 1) 4 = ρ 8 := m8
  have m9 : γ 0 2 0 7 = ρ 9 := m9
  have m10 : γ 0 10 (9 * ρ 1) 8 = ρ 10 := m10
  have m11 : γ 0 1 0 7 = ρ 11 := m11
  have m12 : γ 0 2 0 4 = ρ 12 := m12
  have m13 : γ 0 2 0 5 = ρ 13 := m13
  have m14 : γ 0 2 0 9 = ρ 14 := m14
  have m15 : γ 0 2 0 13 = ρ 15 := m15
  have m16 : γ 0 2 0 16 = ρ 16 := m16
  have m17 : γ 0 3 0 1 = ρ 17 := m17
  have m18 : γ 0 10 (9 * ρ 1) 7 = ρ 18 := m18
  have m19 : γ 0 10 (9 * ρ 1) 9 = ρ 19 := m19
  have m20 : γ 0 10 (9 * ρ 1) 13 = ρ 20 := m20
  have m21 : γ 0 10 (9 * ρ 1) 15 = ρ 21 := m21
  have m22 : γ 1 2 0 6 = ρ 23 := m22
  have m23 : γ 1 10 (9 * ρ 1) 5 = ρ 24 := m23
  have m24 : γ 1 10 (9 * ρ 1) 12 = ρ 25 := m24
  have m25 : γ 1 10 (9 * ρ 1) 14 = ρ 26 := m25
  have m26 : γ 1 10 (9 * ρ 1) 4 = ρ 27 := m26
  have m27 : γ 1 10 (9 * ρ 1) 8 = ρ 28 := m27
  have m28 : γ 1 2 0 4 = ρ 12 := m28
  have m29 : γ 1 2 0 5 = ρ 29 := m29
  have m30 : γ 1 2 0 9 = ρ 30 := m30
  have m31 : γ 1 2 0 13 = ρ 31 := m31
  have m32 : γ 1 2 0 16 = ρ 32 := m32
  have m33 : γ 1 3 0 1 = ρ 33 := m33
  have m34 : γ 1 10 (9 * ρ 1) 7 = ρ 14 := m34
  have m35 : γ 1 10 (9 * ρ 1) 9 = ρ 34 := m35
  have m36 : γ 1 10 (9 * ρ 1) 13 = ρ 35 := m36
  have m37 : γ 1 10 (9 * ρ 1) 15 = ρ 36 := m37
  have m38 : γ 2 2 0 6 = ρ 37 := m38
  have m39 : γ 2 10 (9 * ρ 1) 5 = ρ 38 := m39
  have m40 : γ 2 10 (9 * ρ 1) 12 = ρ 39 := m40
  have m41 : γ 2 10 (9 * ρ 1) 14 = ρ 40 := m41
  have m42 : γ 2 2 0 4 = ρ 12 := m42
  have m43 : γ 2 2 0 5 = ρ 41 := m43
  have m44 : γ 2 2 0 9 = ρ 42 := m44
  have m45 : γ 2 2 0 13 = ρ 43 := m45
  have m46 : γ 2 2 0 16 = ρ 44 := m46
  have m47 : γ 2 3 0 1 = ρ 45 := m47
  have m48 : γ 2 10 (9 * ρ 1) 13 = ρ 46 := m48
  have m49 : γ 2 10 (9 * ρ 1) 15 = ρ 47 := m49
  have m50 : γ 5 2 0 6 = ρ 49 := m50
  have m51 : γ 7 10 (9 * ρ 1) 8 = ρ 50 := m51
  have m52 : γ 7 1 0 7 = ρ 51 := m52
  have m53 : γ 7 2 0 4 = ρ 12 := m53
  obtain ⟨⟨⟨⟨⟨⟨⟨-, c1⟩, c2⟩, c3⟩, c4⟩, c5⟩, c6⟩, c7⟩ := hc
  have c1 : ∀ (G : Nat) (k j : Int), ¬ rMdP m97_ G j → γ 1 G k j = γ 0 G k j := c1
  have c2 : ∀ (G : Nat) (k j : Int), ¬ rMdP m94_ G j → γ 2 G k j = γ 1 G k j := c2
  have c3 : ∀ (G : Nat) (k j : Int), ¬ rMdP m0_ G j → γ 3 G k j = γ 2 G k j := c3
  have c4 : γ 4 = rUp (γ 3) 10 (9 * ρ 1) 9 (ρ 22) := c4
  have c5 : ∀ (G : Nat) (k j : Int), ¬ rMdP m77_ G j → γ 5 G k j = γ 4 G k j := c5
  have c6 : γ 6 = rUp (γ 5) 2 0 6 (ρ 49 + 1) := c6
  have c7 : ∀ (G : Nat) (k j : Int), ¬ rMdP m87_ G j → γ 7 G k j = γ 6 G k j := c7
  obtain ⟨l0, l1, l2, l3, -⟩ := hl
  have l0 : sn141 [ρ 0, ρ 1, ρ 2, ρ 23, ρ 4, ρ 24, ρ 25, ρ 26, ρ 27, ρ 12, ρ 29, ρ 30, ρ 31, ρ 32, ρ 33, ρ 35, ρ 36] (γ 1) 0 1 (γ 2) := hS141 _ _ _ _ _ l0
  have l1 : sn143 [9 * ρ 1, ρ 22, ρ 13] (γ 2) 0 1 (γ 3) := hS143 _ _ _ _ _ l1
  have l2 : sn114 [ρ 37, ρ 4] (γ 4) 0 (ρ 48) (γ 5) := hS114 _ _ _ _ _ l2
  have l3 : sn133 [ρ 0, ρ 1, ρ 2, ρ 9, ρ 28, ρ 11, ρ 12, ρ 38, ρ 14] (γ 6) 0 1 (γ 7) := hS133 _ _ _ _ _ l3
  show sn144 [ρ 0, ρ 1, ρ 2, ρ 3, ρ 4, ρ 5, ρ 6, ρ 7, ρ 8, ρ 9, ρ 10, ρ 11, ρ 12, ρ 13, ρ 14, ρ 15, ρ 16, ρ 17, ρ 18, ρ 19, ρ 20, ρ 21] (γ 0) 0 1 (γ 7)
  have hD : en144 (γ 0) (0, [ρ 22], γ 1) = .inr (0, 1, γ 7) := by
    unfold en144
    refine (if_pos (show (0 : Nat) = 0 by decide)).trans ?_
    refine (zLet_eq (show _ = γ 1 from rfl)).trans ?_
    refine (zLet_eq (show _ = ρ 22 from rfl)).trans ?_
    refine (zLet_eq m0).trans ?_
    refine (zLet_eq m1).trans ?_
    refine (zLet_eq m13).trans ?_
    refine (zLet_eq m35).trans ?_
    refine (if_neg (show ¬ (ρ 22 ≥ 4) by omega)).trans ?_
    refine (zLet_eq (show fn141 [] (γ 1) = (0, 1, γ 2) from l0.symm)).trans ?_
    refine (zLet_eq (show _ = γ 2 from rfl)).trans ?_
    refine (if_pos (show (1 : Int) ≤ 1 by omega)).trans ?_
    refine (if_neg (show ¬ (ρ 34 ≥ 0) by omega)).trans ?_
    refine (zLet_eq (show fn143 [9 * ρ 1, ρ 22, ρ 13] (γ 2) = (0, 1, γ 3) from l1.symm)).trans ?_
    refine (zLet_eq (show _ = γ 3 from rfl)).trans ?_
    refine (if_pos (show (1 : Int) ≤ 1 by omega)).trans ?_
    refine (zLet_eq c4.symm).trans ?_
    refine (zLet_eq (show fn114 [] (γ 4) = (0, ρ 48, γ 5) from l2.symm)).trans ?_
    refine (zLet_eq (show _ = γ 5 from rfl)).trans ?_
    refine (if_pos (show (0 : Int) ≤ ρ 48 by omega)).trans ?_
    refine (zLet_eq (show _ = ρ 48 from rfl)).trans ?_
    refine (zLet_eq m50).trans ?_
    refine (if_pos (show ρ 48 = 41 by omega)).trans ?_
    refine (zLet_eq c6.symm).trans ?_
    refine (zLet_eq (show fn133 [] (γ 6) = (0, 1, γ 7) from l3.symm)).trans ?_
    refine (zLet_eq (show _ = γ 7 from rfl)).trans ?_
    refine (if_pos (show (1 : Int) ≤ 1 by omega)).trans ?_
    rfl
  exact zGoo_aend hJ hD
theorem vn144a0_19 {S : Nat → zSpc} (hS102 : ∀ x g o v gz, S 102 x g o v gz → sn102 x g o v gz) (hS109 : ∀ x g o v gz, S 109 x g o v gz → sn109 x g o v gz) (hS114 : ∀ x g o v gz, S 114 x g o v gz → sn114 x g o v gz) (hS133 : ∀ x g o v gz, S 133 x g o v gz → sn133 x g o v gz) (hS141 : ∀ x g o v gz, S 141 x g o v gz → sn141 x g o v gz) (hS143 : ∀ x g o v gz, S 143 x g o v gz → sn143 x g o v gz) {a : List Int} {g : rHp} : ∀ (ρ : Nat → Int) (γ : Nat → rHp), jn144 a g 0 (zAg (zNA a144_ 0) ρ) (γ 1) → zO 22 S a g q144a0_19 ρ γ → zGl (fun i vs g1 => jn144 a g i vs g1) (sn144 a g) q144a0_19 ρ γ := by
  intro ρ γ hJ h
  obtain ⟨ha, hg, hr, hf, hm, hc, hl⟩ := h
  have ha : a = [ρ 0, ρ 1, ρ 2, ρ 3, ρ 4, ρ 5, ρ 6, ρ 7, ρ 8, ρ 9, ρ 10, ρ 11, ρ 12, ρ 13, ρ 14, ρ 15, ρ 16, ρ 17, ρ 18, ρ 19, ρ 20, ρ 21] := ha
  subst ha
  subst hg
  have hJ : jn144 [ρ 0, ρ 1, ρ 2, ρ 3, ρ 4, ρ 5, ρ 6, ρ 7, ρ 8, ρ 9, ρ 10, ρ 11, ρ 12, ρ 13, ρ 14, ρ 15, ρ 16, ρ 17, ρ 18, ρ 19, ρ 20, ρ 21] (γ 0) 0 [ρ 0, ρ 1, ρ 2, ρ 3, ρ 4, ρ 5, ρ 6, ρ 7, ρ 8, ρ 9, ρ 10, ρ 11, ρ 12, ρ 13, ρ 14, ρ 15, ρ 16, ρ 17, ρ 18, ρ 19, ρ 20, ρ 21, ρ 22, ρ 23, ρ 24, ρ 25, ρ 26, ρ 27, ρ 28, ρ 29, ρ 30, ρ 31, ρ 32, ρ 33, ρ 34, ρ 35, ρ 36] (γ 1) := hJ
  obtain ⟨r0, r1, r2, r3, r4, r5, r6, r7, r8, r9, r10, r11, r12, r13, r14, r15, r16, r17, r18, r19, r20, r21, r22, r23, r24, r25, r26, r27, r28, r29, r30, r31, r32, r33, r34, r35, r36, r37, r38, r39, r40, r41, r42, r43, r44, r45, r46, r47, r48, r49, -⟩ := hr
  have r0 : (0 : Int) ≤ ρ 0 ∧ ρ 0 ≤ 60 := r0
  have r1 : (0 : Int) ≤ ρ 1 ∧ ρ 1 ≤ 60 := r1
  have r2 : (0 : Int) ≤ ρ 2 ∧ ρ 2 ≤ 8 := r2
  have r3 : (0 : Int) ≤ ρ 3 ∧ ρ 3 ≤ 2000 := r3
  have r4 : (1 : Int) ≤ ρ 4 ∧ ρ 4 ≤ 2000 := r4
  have r5 : (0 : Int) ≤ ρ 5 ∧ ρ 5 ≤ 4 := r5
  have r6 : (0 : Int) ≤ ρ 6 ∧ ρ 6 ≤ 4 := r6
  have r7 : ((-1) : Int) ≤ ρ 7 ∧ ρ 7 ≤ 7 := r7
  have r8 : (0 : Int) ≤ ρ 8 ∧ ρ 8 ≤ 8 := r8
  have r9 : (0 : Int) ≤ ρ 9 ∧ ρ 9 ≤ 2 := r9
  have r10 : ((-1) : Int) ≤ ρ 10 ∧ ρ 10 ≤ 19 := r10
  have r11 : (0 : Int) ≤ ρ 11 ∧ ρ 11 ≤ 20 := r11
  have r12 : ((-2147483648) : Int) ≤ ρ 12 ∧ ρ 12 ≤ 2147483647 := r12
  have r13 : ((-2147483648) : Int) ≤ ρ 13 ∧ ρ 13 ≤ 2147483647 := r13
  have r14 : ((-2147483648) : Int) ≤ ρ 14 ∧ ρ 14 ≤ 2147483647 := r14
  have r15 : (0 : Int) ≤ ρ 15 ∧ ρ 15 ≤ 8 := r15
  have r16 : (0 : Int) ≤ ρ 16 ∧ ρ 16 ≤ 32 := r16
  have r17 : (0 : Int) ≤ ρ 17 ∧ ρ 17 ≤ 5120 := r17
  have r18 : ((-2147483648) : Int) ≤ ρ 18 ∧ ρ 18 ≤ 2147483647 := r18
  have r19 : ((-1) : Int) ≤ ρ 19 ∧ ρ 19 ≤ 3 := r19
  have r20 : (0 : Int) ≤ ρ 20 ∧ ρ 20 ≤ 3 := r20
  have r21 : ((-2147483648) : Int) ≤ ρ 21 ∧ ρ 21 ≤ 2147483647 := r21
  have r22 : (0 : Int) ≤ ρ 22 ∧ ρ 22 ≤ 3 := r22
  have r23 : (1 : Int) ≤ ρ 23 ∧ ρ 23 ≤ 2000 := r23
  have r24 : (0 : Int) ≤ ρ 24 ∧ ρ 24 ≤ 4 := r24
  have r25 : (0 : Int) ≤ ρ 25 ∧ ρ 25 ≤ 4 := r25
  have r26 : ((-1) : Int) ≤ ρ 26 ∧ ρ 26 ≤ 7 := r26
  have r27 : (0 : Int) ≤ ρ 27 ∧ ρ 27 ≤ 0 := r27
  have r28 : ((-1) : Int) ≤ ρ 28 ∧ ρ 28 ≤ (-1) := r28
  have r29 : ((-2147483648) : Int) ≤ ρ 29 ∧ ρ 29 ≤ 2147483647 := r29
  have r30 : ((-2147483648) : Int) ≤ ρ 30 ∧ ρ 30 ≤ 2147483647 := r30
  have r31 : (0 : Int) ≤ ρ 31 ∧ ρ 31 ≤ 8 := r31
  have r32 : (0 : Int) ≤ ρ 32 ∧ ρ 32 ≤ 32 := r32
  have r33 : (0 : Int) ≤ ρ 33 ∧ ρ 33 ≤ 5120 := r33
  have r34 : ((-1) : Int) ≤ ρ 34 ∧ ρ 34 ≤ (-1) := r34
  have r35 : (0 : Int) ≤ ρ 35 ∧ ρ 35 ≤ 3 := r35
  have r36 : ((-2147483648) : Int) ≤ ρ 36 ∧ ρ 36 ≤ 2147483647 := r36
  have r37 : (1 : Int) ≤ ρ 37 ∧ ρ 37 ≤ 2000 := r37
  have r38 : (1 : Int) ≤ ρ 38 ∧ ρ 38 ≤ 4 := r38
  have r39 : (0 : Int) ≤ ρ 39 ∧ ρ 39 ≤ 4 := r39
  have r40 : ((-1) : Int) ≤ ρ 40 ∧ ρ 40 ≤ 7 := r40
  have r41 : ((-2147483648) : Int) ≤ ρ 41 ∧ ρ 41 ≤ 2147483647 := r41
  have r42 : ((-2147483648) : Int) ≤ ρ 42 ∧ ρ 42 ≤ 2147483647 := r42
  have r43 : (0 : Int) ≤ ρ 43 ∧ ρ 43 ≤ 8 := r43
  have r44 : (0 : Int) ≤ ρ 44 ∧ ρ 44 ≤ 32 := r44
  have r45 : (0 : Int) ≤ ρ 45 ∧ ρ 45 ≤ 5120 := r45
  have r46 : (0 : Int) ≤ ρ 46 ∧ ρ 46 ≤ 3 := r46
  have r47 : ((-2147483648) : Int) ≤ ρ 47 ∧ ρ 47 ≤ 2147483647 := r47
  have r48 : (44 : Int) ≤ ρ 48 ∧ ρ 48 ≤ 44 := r48
  have r49 : (0 : Int) ≤ ρ 49 ∧ ρ 49 ≤ 2000 := r49
  obtain ⟨f0, f1, f2, f3, f4, f5, f6, f7, f8, f9, f10, f11, f12, f13, f14, f15, f16, f17, f18, f19, f20, f21, f22, -⟩ := hf
  have f0 : (0 : Int) ≤ ρ 49 + -ρ 37 := f0
  have f1 : (0 : Int) ≤ -ρ 49 + ρ 4 + (-1) := f1
  have f2 : (0 : Int) ≤ -ρ 37 + ρ 4 + (-1) := f2
  have f3 : (0 : Int) ≤ 3 * ρ 26 + -ρ 25 + 4 := f3
  have f4 : (0 : Int) ≤ ρ 37 + -ρ 23 + (-1) := f4
  have f5 : (0 : Int) ≤ ρ 38 + -ρ 24 := f5
  have f6 : (0 : Int) ≤ ρ 39 + -ρ 25 := f6
  have f7 : (0 : Int) ≤ ρ 43 + -ρ 31 := f7
  have f8 : (0 : Int) ≤ ρ 44 + -ρ 32 := f8
  have f9 : (0 : Int) ≤ ρ 45 + -ρ 33 := f9
  have f10 : (0 : Int) ≤ -ρ 23 + ρ 4 + (-1) := f10
  have f11 : (0 : Int) ≤ -ρ 38 + ρ 24 + 1 := f11
  have f12 : (0 : Int) ≤ 3 * ρ 40 + -ρ 39 + 4 := f12
  have f13 : (0 : Int) ≤ -ρ 24 + ρ 22 := f13
  have f14 : (0 : Int) ≤ ρ 4 + -ρ 3 + (-1) := f14
  have f15 : (0 : Int) ≤ -ρ 23 + ρ 4 := f15
  have f16 : (0 : Int) ≤ -ρ 22 + ρ 4 + (-1) := f16
  have f17 : (0 : Int) ≤ ρ 33 + -ρ 17 := f17
  have f18 : (0 : Int) ≤ ρ 32 + -ρ 16 := f18
  have f19 : (0 : Int) ≤ ρ 31 + -ρ 15 := f19
  have f20 : (0 : Int) ≤ ρ 23 + -ρ 3 + (-1) := f20
  have f21 : (0 : Int) ≤ ρ 23 + -ρ 22 + (-1) := f21
  have f22 : (0 : Int) ≤ -ρ 34 + ρ 22 + (-1) := f22
  obtain ⟨m0, m1, m2, m3, m4, m5, m6, m7, m8, m9, m10, m11, m12, m13, m14, m15, m16, m17, m18, m19, m20, m21, m22, m23, m24, m25, m26, m27, m28, m29, m30, m31, m32, m33, m34, m35, m36, m37, m38, m39, m40, m41, m42, m43, m44, m45, m46, m47, m48, m49, m50, -⟩ := hm
  have m0 : γ 0 1 0 10 = ρ 0 := m0
  have m1 : γ 0 40 0 (ρ 0) = ρ 1 := m1
  have m2 : γ 0 9 (ρ 1) 2 = ρ 2 := m2
  have m3 : γ 0 2 0 6 = ρ 3 := m3
  have m4 : γ 0 2 0 3 = ρ 4 := m4
  have m5 : γ 0 10 (9 * ρ 1) 5 = ρ 5 := m5
  have m6 : γ 0 10 (9 * ρ 1) 12 = ρ 6 := m6
  have m7 : γ 0 10 (9 * ρ 1) 14 = ρ 7 := m7
  have m8 : γ 0 10 (9 * ρ 1) 4 = ρ 8 := m8
  have m9 : γ 0 2 0 7 = ρ 9 := m9
  have m10 : γ 0 10 (9 * ρ 1) 8 = ρ 10 := m10
  have m11 : γ 0 1 0 7 = ρ 11 := m11
  have m12 : γ 0 2 0 4 = ρ 12 := m12
  have m13 : γ 0 2 0 5 = ρ 13 := m13
  have m14 : γ 0 2 0 9 = ρ 14 := m14
  have m15 : γ 0 2 0 13 = ρ 15 := m15
  have m16 : γ 0 2 0 16 = ρ 16 := m16
  have m17 : γ 0 3 0 1 = ρ 17 := m17
  have m18 : γ 0 10 (9 * ρ 1) 7 = ρ 18 := m18
  have m19 : γ 0 10 (9 * ρ 1) 9 = ρ 19 := m19
  have m20 : γ 0 10 (9 * ρ 1) 13 = ρ 20 := m20
  have m21 : γ 0 10 (9 * ρ 1) 15 = ρ 21 := m21
  have m22 : γ 1 2 0 6 = ρ 23 := m22
  have m23 : γ 1 10 (9 * ρ 1) 5 = ρ 24 := m23
  have m24 : γ 1 10 (9 * ρ 1) 12 = ρ 25 := m24
  have m25 : γ 1 10 (9 * ρ 1) 14 = ρ 26 := m25
  have m26 : γ 1 10 (9 * ρ 1) 4 = ρ 27 := m26
  have m27 : γ 1 10 (9 * ρ 1) 8 = ρ 28 := m27
  have m28 : γ 1 2 0 4 = ρ 12 := m28
  have m29 : γ 1 2 0 5 = ρ 29 := m29
  have m30 : γ 1 2 0 9 = ρ 30 := m30
  have m31 : γ 1 2 0 13 = ρ 31 := m31
  have m32 : γ 1 2 0 16 = ρ 32 := m32
  have m33 : γ 1 3 0 1 = ρ 33 := m33
  have m34 : γ 1 10 (9 * ρ 1) 7 = ρ 14 := m34
  have m35 : γ 1 10 (9 * ρ 1) 9 = ρ 34 := m35
  have m36 : γ 1 10 (9 * ρ 1) 13 = ρ 35 := m36
  have m37 : γ 1 10 (9 * ρ 1) 15 = ρ 36 := m37
  have m38 : γ 2 2 0 6 = ρ 37 := m38
  have m39 : γ 2 10 (9 * ρ 1) 5 = ρ 38 := m39
  have m40 : γ 2 10 (9 * ρ 1) 12 = ρ 39 := m40
  have m41 : γ 2 10 (9 * ρ 1) 14 = ρ 40 := m41
  have m42 : γ 2 2 0 4 = ρ 12 := m42
  have m43 : γ 2 2 0 5 = ρ 41 := m43
  have m44 : γ 2 2 0 9 = ρ 42 := m44
  have m45 : γ 2 2 0 13 = ρ 43 := m45
  have m46 : γ 2 2 0 16 = ρ 44 := m46
  have m47 : γ 2 3 0 1 = ρ 45 := m47
  have m48 : γ 2 10 (9 * ρ 1) 13 = ρ 46 := m48
  have m49 : γ 2 10 (9 * ρ 1) 15 = ρ 47 := m49
  have m50 : γ 5 2 0 6 = ρ 49 := m50
  obtain ⟨⟨⟨⟨⟨⟨-, c1⟩, c2⟩, c3⟩, c4⟩, c5⟩, c6⟩ := hc
  have c1 : ∀ (G : Nat) (k j : Int), ¬ rMdP m97_ G j → γ 1 G k j = γ 0 G k j := c1
  have c2 : ∀ (G : Nat) (k j : Int), ¬ rMdP m94_ G j → γ 2 G k j = γ 1 G k j := c2
  have c3 : ∀ (G : Nat) (k j : Int), ¬ rMdP m0_ G j → γ 3 G k j = γ 2 G k j := c3
  have c4 : γ 4 = rUp (γ 3) 10 (9 * ρ 1) 9 (ρ 22) := c4
  have c5 : ∀ (G : Nat) (k j : Int), ¬ rMdP m77_ G j → γ 5 G k j = γ 4 G k j := c5
  have c6 : γ 6 = rUp (γ 5) 2 0 6 (ρ 49 + 1) := c6
  obtain ⟨l0, l1, l2, l3, -⟩ := hl
  have l0 : sn141 [ρ 0, ρ 1, ρ 2, ρ 23, ρ 4, ρ 24, ρ 25, ρ 26, ρ 27, ρ 12, ρ 29, ρ 30, ρ 31, ρ 32, ρ 33, ρ 35, ρ 36] (γ 1) 0 1 (γ 2) := hS141 _ _ _ _ _ l0
  have l1 : sn143 [9 * ρ 1, ρ 22, ρ 13] (γ 2) 0 1 (γ 3) := hS143 _ _ _ _ _ l1
  have l2 : sn114 [ρ 37, ρ 4] (γ 4) 0 (ρ 48) (γ 5) := hS114 _ _ _ _ _ l2
  have l3 : ρ 48 ≠ 41 := l3
  show jn144 [ρ 0, ρ 1, ρ 2, ρ 3, ρ 4, ρ 5, ρ 6, ρ 7, ρ 8, ρ 9, ρ 10, ρ 11, ρ 12, ρ 13, ρ 14, ρ 15, ρ 16, ρ 17, ρ 18, ρ 19, ρ 20, ρ 21] (γ 0) 0 [ρ 0, ρ 1, ρ 2, ρ 3, ρ 4, ρ 5, ρ 6, ρ 7, ρ 8, ρ 9, ρ 10, ρ 11, ρ 12, ρ 13, ρ 14, ρ 15, ρ 16, ρ 17, ρ 18, ρ 19, ρ 20, ρ 21, ρ 22 + 1, ρ 49 + 1, ρ 38, ρ 39, ρ 40, ρ 27, ρ 28, ρ 41, ρ 42, ρ 43, ρ 44, ρ 45, ρ 22, ρ 46, ρ 47] (γ 6)
  have hD : en144 (γ 0) (0, [ρ 22], γ 1) = .inl (0, [ρ 22 + 1], γ 6) := by
    unfold en144
    refine (if_pos (show (0 : Nat) = 0 by decide)).trans ?_
    refine (zLet_eq (show _ = γ 1 from rfl)).trans ?_
    refine (zLet_eq (show _ = ρ 22 from rfl)).trans ?_
    refine (zLet_eq m0).trans ?_
    refine (zLet_eq m1).trans ?_
    refine (zLet_eq m13).trans ?_
    refine (zLet_eq m35).trans ?_
    refine (if_neg (show ¬ (ρ 22 ≥ 4) by omega)).trans ?_
    refine (zLet_eq (show fn141 [] (γ 1) = (0, 1, γ 2) from l0.symm)).trans ?_
    refine (zLet_eq (show _ = γ 2 from rfl)).trans ?_
    refine (if_pos (show (1 : Int) ≤ 1 by omega)).trans ?_
    refine (if_neg (show ¬ (ρ 34 ≥ 0) by omega)).trans ?_
    refine (zLet_eq (show fn143 [9 * ρ 1, ρ 22, ρ 13] (γ 2) = (0, 1, γ 3) from l1.symm)).trans ?_
    refine (zLet_eq (show _ = γ 3 from rfl)).trans ?_
    refine (if_pos (show (1 : Int) ≤ 1 by omega)).trans ?_
    refine (zLet_eq c4.symm).trans ?_
    refine (zLet_eq (show fn114 [] (γ 4) = (0, ρ 48, γ 5) from l2.symm)).trans ?_
    refine (zLet_eq (show _ = γ 5 from rfl)).trans ?_
    refine (if_pos (show (0 : Int) ≤ ρ 48 by omega)).trans ?_
    refine (zLet_eq (show _ = ρ 48 from rfl)).trans ?_
    refine (zLet_eq m50).trans ?_
    refine (if_neg (show ¬ (ρ 48 = 41) by omega)).trans ?_
    refine (if_pos (show ρ 48 = 44 by omega)).trans ?_
    refine (zLet_eq c6.symm).trans ?_
    rfl
  exact zGoo_ato hJ hD
theorem vn144a0_20 {S : Nat → zSpc} (hS102 : ∀ x g o v gz, S 102 x g o v gz → sn102 x g o v gz) (hS109 : ∀ x g o v gz, S 109 x g o v gz → sn109 x g o v gz) (hS114 : ∀ x g o v gz, S 114 x g o v gz → sn114 x g o v gz) (hS133 : ∀ x g o v gz, S 133 x g o v gz → sn133 x g o v gz) (hS141 : ∀ x g o v gz, S 141 x g o v gz → sn141 x g o v gz) (hS143 : ∀ x g o v gz, S 143 x g o v gz → sn143 x g o v gz) {a : List Int} {g : rHp} : ∀ (ρ : Nat → Int) (γ : Nat → rHp), jn144 a g 0 (zAg (zNA a144_ 0) ρ) (γ 1) → zO 22 S a g q144a0_20 ρ γ → zGl (fun i vs g1 => jn144 a g i vs g1) (sn144 a g) q144a0_20 ρ γ := by
  intro ρ γ hJ h
  obtain ⟨ha, hg, hr, hf, hm, hc, hl⟩ := h
  have ha : a = [ρ 0, ρ 1, ρ 2, ρ 3, ρ 4, ρ 5, ρ 6, ρ 7, ρ 8, ρ 9, ρ 10, ρ 11, ρ 12, ρ 13, ρ 14, ρ 15, ρ 16, ρ 17, ρ 18, ρ 19, ρ 20, ρ 21] := ha
  subst ha
  subst hg
  have hJ : jn144 [ρ 0, ρ 1, ρ 2, ρ 3, ρ 4, ρ 5, ρ 6, ρ 7, ρ 8, ρ 9, ρ 10, ρ 11, ρ 12, ρ 13, ρ 14, ρ 15, ρ 16, ρ 17, ρ 18, ρ 19, ρ 20, ρ 21] (γ 0) 0 [ρ 0, ρ 1, ρ 2, ρ 3, ρ 4, ρ 5, ρ 6, ρ 7, ρ 8, ρ 9, ρ 10, ρ 11, ρ 12, ρ 13, ρ 14, ρ 15, ρ 16, ρ 17, ρ 18, ρ 19, ρ 20, ρ 21, ρ 22, ρ 23, ρ 24, ρ 25, ρ 26, ρ 27, ρ 28, ρ 29, ρ 30, ρ 31, ρ 32, ρ 33, ρ 34, ρ 35, ρ 36] (γ 1) := hJ
  obtain ⟨r0, r1, r2, r3, r4, r5, r6, r7, r8, r9, r10, r11, r12, r13, r14, r15, r16, r17, r18, r19, r20, r21, r22, r23, r24, r25, r26, r27, r28, r29, r30, r31, r32, r33, r34, r35, r36, r37, r38, r39, r40, r41, r42, r43, r44, r45, r46, r47, r48, r49, -⟩ := hr
  have r0 : (0 : Int) ≤ ρ 0 ∧ ρ 0 ≤ 60 := r0
  have r1 : (0 : Int) ≤ ρ 1 ∧ ρ 1 ≤ 60 := r1
  have r2 : (0 : Int) ≤ ρ 2 ∧ ρ 2 ≤ 8 := r2
  have r3 : (0 : Int) ≤ ρ 3 ∧ ρ 3 ≤ 2000 := r3
  have r4 : (1 : Int) ≤ ρ 4 ∧ ρ 4 ≤ 2000 := r4
  have r5 : (0 : Int) ≤ ρ 5 ∧ ρ 5 ≤ 4 := r5
  have r6 : (0 : Int) ≤ ρ 6 ∧ ρ 6 ≤ 4 := r6
  have r7 : ((-1) : Int) ≤ ρ 7 ∧ ρ 7 ≤ 7 := r7
  have r8 : (0 : Int) ≤ ρ 8 ∧ ρ 8 ≤ 8 := r8
  have r9 : (0 : Int) ≤ ρ 9 ∧ ρ 9 ≤ 2 := r9
  have r10 : ((-1) : Int) ≤ ρ 10 ∧ ρ 10 ≤ 19 := r10
  have r11 : (0 : Int) ≤ ρ 11 ∧ ρ 11 ≤ 20 := r11
  have r12 : ((-2147483648) : Int) ≤ ρ 12 ∧ ρ 12 ≤ 2147483647 := r12
  have r13 : ((-2147483648) : Int) ≤ ρ 13 ∧ ρ 13 ≤ 2147483647 := r13
  have r14 : ((-2147483648) : Int) ≤ ρ 14 ∧ ρ 14 ≤ 2147483647 := r14
  have r15 : (0 : Int) ≤ ρ 15 ∧ ρ 15 ≤ 8 := r15
  have r16 : (0 : Int) ≤ ρ 16 ∧ ρ 16 ≤ 32 := r16
  have r17 : (0 : Int) ≤ ρ 17 ∧ ρ 17 ≤ 5120 := r17
  have r18 : ((-2147483648) : Int) ≤ ρ 18 ∧ ρ 18 ≤ 2147483647 := r18
  have r19 : ((-1) : Int) ≤ ρ 19 ∧ ρ 19 ≤ 3 := r19
  have r20 : (0 : Int) ≤ ρ 20 ∧ ρ 20 ≤ 3 := r20
  have r21 : ((-2147483648) : Int) ≤ ρ 21 ∧ ρ 21 ≤ 2147483647 := r21
  have r22 : (0 : Int) ≤ ρ 22 ∧ ρ 22 ≤ 3 := r22
  have r23 : (1 : Int) ≤ ρ 23 ∧ ρ 23 ≤ 2000 := r23
  have r24 : (0 : Int) ≤ ρ 24 ∧ ρ 24 ≤ 4 := r24
  have r25 : (0 : Int) ≤ ρ 25 ∧ ρ 25 ≤ 4 := r25
  have r26 : ((-1) : Int) ≤ ρ 26 ∧ ρ 26 ≤ 7 := r26
  have r27 : (0 : Int) ≤ ρ 27 ∧ ρ 27 ≤ 0 := r27
  have r28 : ((-1) : Int) ≤ ρ 28 ∧ ρ 28 ≤ (-1) := r28
  have r29 : ((-2147483648) : Int) ≤ ρ 29 ∧ ρ 29 ≤ 2147483647 := r29
  have r30 : ((-2147483648) : Int) ≤ ρ 30 ∧ ρ 30 ≤ 2147483647 := r30
  have r31 : (0 : Int) ≤ ρ 31 ∧ ρ 31 ≤ 8 := r31
  have r32 : (0 : Int) ≤ ρ 32 ∧ ρ 32 ≤ 32 := r32
  have r33 : (0 : Int) ≤ ρ 33 ∧ ρ 33 ≤ 5120 := r33
  have r34 : ((-1) : Int) ≤ ρ 34 ∧ ρ 34 ≤ (-1) := r34
  have r35 : (0 : Int) ≤ ρ 35 ∧ ρ 35 ≤ 3 := r35
  have r36 : ((-2147483648) : Int) ≤ ρ 36 ∧ ρ 36 ≤ 2147483647 := r36
  have r37 : (1 : Int) ≤ ρ 37 ∧ ρ 37 ≤ 2000 := r37
  have r38 : (1 : Int) ≤ ρ 38 ∧ ρ 38 ≤ 4 := r38
  have r39 : (0 : Int) ≤ ρ 39 ∧ ρ 39 ≤ 4 := r39
  have r40 : ((-1) : Int) ≤ ρ 40 ∧ ρ 40 ≤ 7 := r40
  have r41 : ((-2147483648) : Int) ≤ ρ 41 ∧ ρ 41 ≤ 2147483647 := r41
  have r42 : ((-2147483648) : Int) ≤ ρ 42 ∧ ρ 42 ≤ 2147483647 := r42
  have r43 : (0 : Int) ≤ ρ 43 ∧ ρ 43 ≤ 8 := r43
  have r44 : (0 : Int) ≤ ρ 44 ∧ ρ 44 ≤ 32 := r44
  have r45 : (0 : Int) ≤ ρ 45 ∧ ρ 45 ≤ 5120 := r45
  have r46 : (0 : Int) ≤ ρ 46 ∧ ρ 46 ≤ 3 := r46
  have r47 : ((-2147483648) : Int) ≤ ρ 47 ∧ ρ 47 ≤ 2147483647 := r47
  have r48 : (0 : Int) ≤ ρ 48 ∧ ρ 48 ≤ 255 := r48
  have r49 : (0 : Int) ≤ ρ 49 ∧ ρ 49 ≤ 2000 := r49
  obtain ⟨f0, f1, f2, f3, f4, f5, f6, f7, f8, f9, f10, f11, f12, f13, f14, f15, f16, f17, f18, f19, f20, f21, f22, -⟩ := hf
  have f0 : (0 : Int) ≤ ρ 49 + -ρ 37 := f0
  have f1 : (0 : Int) ≤ -ρ 49 + ρ 4 + (-1) := f1
  have f2 : (0 : Int) ≤ -ρ 37 + ρ 4 + (-1) := f2
  have f3 : (0 : Int) ≤ 3 * ρ 26 + -ρ 25 + 4 := f3
  have f4 : (0 : Int) ≤ ρ 37 + -ρ 23 + (-1) := f4
  have f5 : (0 : Int) ≤ ρ 38 + -ρ 24 := f5
  have f6 : (0 : Int) ≤ ρ 39 + -ρ 25 := f6
  have f7 : (0 : Int) ≤ ρ 43 + -ρ 31 := f7
  have f8 : (0 : Int) ≤ ρ 44 + -ρ 32 := f8
  have f9 : (0 : Int) ≤ ρ 45 + -ρ 33 := f9
  have f10 : (0 : Int) ≤ -ρ 23 + ρ 4 + (-1) := f10
  have f11 : (0 : Int) ≤ -ρ 38 + ρ 24 + 1 := f11
  have f12 : (0 : Int) ≤ 3 * ρ 40 + -ρ 39 + 4 := f12
  have f13 : (0 : Int) ≤ -ρ 24 + ρ 22 := f13
  have f14 : (0 : Int) ≤ ρ 4 + -ρ 3 + (-1) := f14
  have f15 : (0 : Int) ≤ -ρ 23 + ρ 4 := f15
  have f16 : (0 : Int) ≤ -ρ 22 + ρ 4 + (-1) := f16
  have f17 : (0 : Int) ≤ ρ 33 + -ρ 17 := f17
  have f18 : (0 : Int) ≤ ρ 32 + -ρ 16 := f18
  have f19 : (0 : Int) ≤ ρ 31 + -ρ 15 := f19
  have f20 : (0 : Int) ≤ ρ 23 + -ρ 3 + (-1) := f20
  have f21 : (0 : Int) ≤ ρ 23 + -ρ 22 + (-1) := f21
  have f22 : (0 : Int) ≤ -ρ 34 + ρ 22 + (-1) := f22
  obtain ⟨m0, m1, m2, m3, m4, m5, m6, m7, m8, m9, m10, m11, m12, m13, m14, m15, m16, m17, m18, m19, m20, m21, m22, m23, m24, m25, m26, m27, m28, m29, m30, m31, m32, m33, m34, m35, m36, m37, m38, m39, m40, m41, m42, m43, m44, m45, m46, m47, m48, m49, m50, m51, -⟩ := hm
  have m0 : γ 0 1 0 10 = ρ 0 := m0
  have m1 : γ 0 40 0 (ρ 0) = ρ 1 := m1
  have m2 : γ 0 9 (ρ 1) 2 = ρ 2 := m2
  have m3 : γ 0 2 0 6 = ρ 3 := m3
  have m4 : γ 0 2 0 3 = ρ 4 := m4
  have m5 : γ 0 10 (9 * ρ 1) 5 = ρ 5 := m5
  have m6 : γ 0 10 (9 * ρ 1) 12 = ρ 6 := m6
  have m7 : γ 0 10 (9 * ρ 1) 14 = ρ 7 := m7
  have m8 : γ 0 10 (9 * ρ 1) 4 = ρ 8 := m8
  have m9 : γ 0 2 0 7 = ρ 9 := m9
  have m10 : γ 0 10 (9 * ρ 1) 8 = ρ 10 := m10
  have m11 : γ 0 1 0 7 = ρ 11 := m11
  have m12 : γ 0 2 0 4 = ρ 12 := m12
  have m13 : γ 0 2 0 5 = ρ 13 := m13
  have m14 : γ 0 2 0 9 = ρ 14 := m14
  have m15 : γ 0 2 0 13 = ρ 15 := m15
  have m16 : γ 0 2 0 16 = ρ 16 := m16
  have m17 : γ 0 3 0 1 = ρ 17 := m17
  have m18 : γ 0 10 (9 * ρ 1) 7 = ρ 18 := m18
  have m19 : γ 0 10 (9 * ρ 1) 9 = ρ 19 := m19
  have m20 : γ 0 10 (9 * ρ 1) 13 = ρ 20 := m20
  have m21 : γ 0 10 (9 * ρ 1) 15 = ρ 21 := m21
  have m22 : γ 1 2 0 6 = ρ 23 := m22
  have m23 : γ 1 10 (9 * ρ 1) 5 = ρ 24 := m23
  have m24 : γ 1 10 (9 * ρ 1) 12 = ρ 25 := m24
  have m25 : γ 1 10 (9 * ρ 1) 14 = ρ 26 := m25
  have m26 : γ 1 10 (9 * ρ 1) 4 = ρ 27 := m26
  have m27 : γ 1 10 (9 * ρ 1) 8 = ρ 28 := m27
  have m28 : γ 1 2 0 4 = ρ 12 := m28
  have m29 : γ 1 2 0 5 = ρ 29 := m29
  have m30 : γ 1 2 0 9 = ρ 30 := m30
  have m31 : γ 1 2 0 13 = ρ 31 := m31
  have m32 : γ 1 2 0 16 = ρ 32 := m32
  have m33 : γ 1 3 0 1 = ρ 33 := m33
  have m34 : γ 1 10 (9 * ρ 1) 7 = ρ 14 := m34
  have m35 : γ 1 10 (9 * ρ 1) 9 = ρ 34 := m35
  have m36 : γ 1 10 (9 * ρ 1) 13 = ρ 35 := m36
  have m37 : γ 1 10 (9 * ρ 1) 15 = ρ 36 := m37
  have m38 : γ 2 2 0 6 = ρ 37 := m38
  have m39 : γ 2 10 (9 * ρ 1) 5 = ρ 38 := m39
  have m40 : γ 2 10 (9 * ρ 1) 12 = ρ 39 := m40
  have m41 : γ 2 10 (9 * ρ 1) 14 = ρ 40 := m41
  have m42 : γ 2 2 0 4 = ρ 12 := m42
  have m43 : γ 2 2 0 5 = ρ 41 := m43
  have m44 : γ 2 2 0 9 = ρ 42 := m44
  have m45 : γ 2 2 0 13 = ρ 43 := m45
  have m46 : γ 2 2 0 16 = ρ 44 := m46
  have m47 : γ 2 3 0 1 = ρ 45 := m47
  have m48 : γ 2 10 (9 * ρ 1) 13 = ρ 46 := m48
  have m49 : γ 2 10 (9 * ρ 1) 15 = ρ 47 := m49
  have m50 : γ 5 2 0 6 = ρ 49 := m50
  have m51 : γ 6 2 0 4 = ρ 49 := m51
  obtain ⟨⟨⟨⟨⟨⟨-, c1⟩, c2⟩, c3⟩, c4⟩, c5⟩, c6⟩ := hc
  have c1 : ∀ (G : Nat) (k j : Int), ¬ rMdP m97_ G j → γ 1 G k j = γ 0 G k j := c1
  have c2 : ∀ (G : Nat) (k j : Int), ¬ rMdP m94_ G j → γ 2 G k j = γ 1 G k j := c2
  have c3 : ∀ (G : Nat) (k j : Int), ¬ rMdP m0_ G j → γ 3 G k j = γ 2 G k j := c3
  have c4 : γ 4 = rUp (γ 3) 10 (9 * ρ 1) 9 (ρ 22) := c4
  have c5 : ∀ (G : Nat) (k j : Int), ¬ rMdP m77_ G j → γ 5 G k j = γ 4 G k j := c5
  have c6 : ∀ (G : Nat) (k j : Int), ¬ rMdP m72_ G j → γ 6 G k j = γ 5 G k j := c6
  obtain ⟨l0, l1, l2, l3, l4, l5, -⟩ := hl
  have l0 : sn141 [ρ 0, ρ 1, ρ 2, ρ 23, ρ 4, ρ 24, ρ 25, ρ 26, ρ 27, ρ 12, ρ 29, ρ 30, ρ 31, ρ 32, ρ 33, ρ 35, ρ 36] (γ 1) 0 1 (γ 2) := hS141 _ _ _ _ _ l0
  have l1 : sn143 [9 * ρ 1, ρ 22, ρ 13] (γ 2) 0 1 (γ 3) := hS143 _ _ _ _ _ l1
  have l2 : sn114 [ρ 37, ρ 4] (γ 4) 0 (ρ 48) (γ 5) := hS114 _ _ _ _ _ l2
  have l3 : ρ 48 ≠ 41 := l3
  have l4 : ρ 48 ≠ 44 := l4
  have l5 : sn109 [ρ 49, ρ 12] (γ 5) 0 0 (γ 6) := hS109 _ _ _ _ _ l5
  show sn144 [ρ 0, ρ 1, ρ 2, ρ 3, ρ 4, ρ 5, ρ 6, ρ 7, ρ 8, ρ 9, ρ 10, ρ 11, ρ 12, ρ 13, ρ 14, ρ 15, ρ 16, ρ 17, ρ 18, ρ 19, ρ 20, ρ 21] (γ 0) 0 0 (γ 6)
  have hD : en144 (γ 0) (0, [ρ 22], γ 1) = .inr (0, 0, γ 6) := by
    unfold en144
    refine (if_pos (show (0 : Nat) = 0 by decide)).trans ?_
    refine (zLet_eq (show _ = γ 1 from rfl)).trans ?_
    refine (zLet_eq (show _ = ρ 22 from rfl)).trans ?_
    refine (zLet_eq m0).trans ?_
    refine (zLet_eq m1).trans ?_
    refine (zLet_eq m13).trans ?_
    refine (zLet_eq m35).trans ?_
    refine (if_neg (show ¬ (ρ 22 ≥ 4) by omega)).trans ?_
    refine (zLet_eq (show fn141 [] (γ 1) = (0, 1, γ 2) from l0.symm)).trans ?_
    refine (zLet_eq (show _ = γ 2 from rfl)).trans ?_
    refine (if_pos (show (1 : Int) ≤ 1 by omega)).trans ?_
    refine (if_neg (show ¬ (ρ 34 ≥ 0) by omega)).trans ?_
    refine (zLet_eq (show fn143 [9 * ρ 1, ρ 22, ρ 13] (γ 2) = (0, 1, γ 3) from l1.symm)).trans ?_
    refine (zLet_eq (show _ = γ 3 from rfl)).trans ?_
    refine (if_pos (show (1 : Int) ≤ 1 by omega)).trans ?_
    refine (zLet_eq c4.symm).trans ?_
    refine (zLet_eq (show fn114 [] (γ 4) = (0, ρ 48, γ 5) from l2.symm)).trans ?_
    refine (zLet_eq (show _ = γ 5 from rfl)).trans ?_
    refine (if_pos (show (0 : Int) ≤ ρ 48 by omega)).trans ?_
    refine (zLet_eq (show _ = ρ 48 from rfl)).trans ?_
    refine (zLet_eq m50).trans ?_
    refine (if_neg (show ¬ (ρ 48 = 41) by omega)).trans ?_
    refine (if_neg (show ¬ (ρ 48 = 44) by omega)).trans ?_
    refine (zLet_eq (show fn109 [ρ 49] (γ 5) = (0, 0, γ 6) from l5.symm)).trans ?_
    refine (zLet_eq (show _ = γ 6 from rfl)).trans ?_
    rfl
  exact zGoo_aend hJ hD
theorem yn144 {S : Nat → zSpc} (hS102 : ∀ x g o v gz, S 102 x g o v gz → sn102 x g o v gz) (hS109 : ∀ x g o v gz, S 109 x g o v gz → sn109 x g o v gz) (hS114 : ∀ x g o v gz, S 114 x g o v gz → sn114 x g o v gz) (hS133 : ∀ x g o v gz, S 133 x g o v gz → sn133 x g o v gz) (hS141 : ∀ x g o v gz, S 141 x g o v gz → sn141 x g o v gz) (hS143 : ∀ x g o v gz, S 143 x g o v gz → sn143 x g o v gz) : ∀ x g o v gz, zSem uW uT w144_.2.2.2.1 w144_.2.2.1.1.length S q144 (fun i => q144a.getD i []) (zNA a144_) x g o v gz → sn144 x g o v gz := by
  intro a g o v gz h
  exact zSem_all (l0 := q144) (las := q144a) (S := S) (J := (fun i vs g1 => jn144 a g i vs g1)) (P := sn144 a g) (fun _ => (show zAll _ [q144_0, q144_1, q144_2] from (zAll_c (vn144_0 hS102 hS109 hS114 hS133 hS141 hS143) (zAll_c (vn144_1 hS102 hS109 hS114 hS133 hS141 hS143) (zAll_c (vn144_2 hS102 hS109 hS114 hS133 hS141 hS143) zAll_n))))) (fun _ => (show zAllI _ 0 [q144a0] from ⟨(show zAll _ [q144a0_0, q144a0_1, q144a0_2, q144a0_3, q144a0_4, q144a0_5, q144a0_6, q144a0_7, q144a0_8, q144a0_9, q144a0_10, q144a0_11, q144a0_12, q144a0_13, q144a0_14, q144a0_15, q144a0_16, q144a0_17, q144a0_18, q144a0_19, q144a0_20] from (zAll_c (vn144a0_0 hS102 hS109 hS114 hS133 hS141 hS143) (zAll_c (vn144a0_1 hS102 hS109 hS114 hS133 hS141 hS143) (zAll_c (vn144a0_2 hS102 hS109 hS114 hS133 hS141 hS143) (zAll_c (vn144a0_3 hS102 hS109 hS114 hS133 hS141 hS143) (zAll_c (vn144a0_4 hS102 hS109 hS114 hS133 hS141 hS143) (zAll_c (vn144a0_5 hS102 hS109 hS114 hS133 hS141 hS143) (zAll_c (vn144a0_6 hS102 hS109 hS114 hS133 hS141 hS143) (zAll_c (vn144a0_7 hS102 hS109 hS114 hS133 hS141 hS143) (zAll_c (vn144a0_8 hS102 hS109 hS114 hS133 hS141 hS143) (zAll_c (vn144a0_9 hS102 hS109 hS114 hS133 hS141 hS143) (zAll_c (vn144a0_10 hS102 hS109 hS114 hS133 hS141 hS143) (zAll_c (vn144a0_11 hS102 hS109 hS114 hS133 hS141 hS143) (zAll_c (vn144a0_12 hS102 hS109 hS114 hS133 hS141 hS143) (zAll_c (vn144a0_13 hS102 hS109 hS114 hS133 hS141 hS143) (zAll_c (vn144a0_14 hS102 hS109 hS114 hS133 hS141 hS143) (zAll_c (vn144a0_15 hS102 hS109 hS114 hS133 hS141 hS143) (zAll_c (vn144a0_16 hS102 hS109 hS114 hS133 hS141 hS143) (zAll_c (vn144a0_17 hS102 hS109 hS114 hS133 hS141 hS143) (zAll_c (vn144a0_18 hS102 hS109 hS114 hS133 hS141 hS143) (zAll_c (vn144a0_19 hS102 hS109 hS114 hS133 hS141 hS143) (zAll_c (vn144a0_20 hS102 hS109 hS114 hS133 hS141 hS143) zAll_n)))))))))))))))))))))), trivial⟩)) h
