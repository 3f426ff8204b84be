/-! ===== the runs are the functions ===== -/
theorem vn156_0 {S : Nat → zSpc} (hS103 : ∀ x g o v gz, S 103 x g o v gz → sn103 x g o v gz) (hS109 : ∀ x g o v gz, S 109 x g o v gz → sn109 x g o v gz) (hS114 : ∀ x g o v gz, S 114 x g o v gz → sn114 x g o v gz) (hS115 : ∀ x g o v gz, S 115 x g o v gz → sn115 x g o v gz) (hS117 : ∀ x g o v gz, S 117 x g o v gz → sn117 x g o v gz) (hS120 : ∀ x g o v gz, S 120 x g o v gz → sn120 x g o v gz) (hS139 : ∀ x g o v gz, S 139 x g o v gz → sn139 x g o v gz) {a : List Int} {g : rHp} : ∀ (ρ : Nat → Int) (γ : Nat → rHp), zO 21 S a g q156_0 ρ γ → zGl (fun _ _ _ => True) (sn156 a g) q156_0 ρ γ := by
  intro ρ γ h
  obtain ⟨ha, hg, hr, hf, hm, hc, hl⟩ := h
  have ha : a = [ρ 0, ρ 1, ρ 2, ρ 3, ρ 4, ρ 5, ρ 6, ρ 7, ρ 8, ρ 9, ρ 10, ρ 11, ρ 12, ρ 13, ρ 14, ρ 15, ρ 16, ρ 17, ρ 18, ρ 19, ρ 20] := ha
  subst ha
  subst hg
  obtain ⟨r0, r1, r2, r3, r4, r5, r6, r7, r8, r9, r10, r11, r12, r13, r14, r15, r16, r17, r18, r19, r20, r21, -⟩ := hr
  have r0 : ((-9223372036854775808) : Int) ≤ ρ 0 ∧ ρ 0 ≤ 9223372036854775807 := r0
  have r1 : ((-2147483648) : Int) ≤ ρ 1 ∧ ρ 1 ≤ 2147483647 := r1
  have r2 : (0 : Int) ≤ ρ 2 ∧ ρ 2 ≤ 60 := r2
  have r3 : (0 : Int) ≤ ρ 3 ∧ ρ 3 ≤ 60 := r3
  have r4 : (0 : Int) ≤ ρ 4 ∧ ρ 4 ≤ 7 := r4
  have r5 : (0 : Int) ≤ ρ 5 ∧ ρ 5 ≤ 1999 := r5
  have r6 : (0 : Int) ≤ ρ 6 ∧ ρ 6 ≤ 2000 := r6
  have r7 : (0 : Int) ≤ ρ 7 ∧ ρ 7 ≤ 8 := r7
  have r8 : ((-1) : Int) ≤ ρ 8 ∧ ρ 8 ≤ 7 := r8
  have r9 : ((-1) : Int) ≤ ρ 9 ∧ ρ 9 ≤ 19 := r9
  have r10 : (0 : Int) ≤ ρ 10 ∧ ρ 10 ≤ 4 := r10
  have r11 : ((-2147483648) : Int) ≤ ρ 11 ∧ ρ 11 ≤ 2147483647 := r11
  have r12 : ((-2147483648) : Int) ≤ ρ 12 ∧ ρ 12 ≤ 2147483647 := r12
  have r13 : ((-2147483648) : Int) ≤ ρ 13 ∧ ρ 13 ≤ 2147483647 := r13
  have r14 : (0 : Int) ≤ ρ 14 ∧ ρ 14 ≤ 8 := r14
  have r15 : (0 : Int) ≤ ρ 15 ∧ ρ 15 ≤ 5120 := r15
  have r16 : (0 : Int) ≤ ρ 16 ∧ ρ 16 ≤ 4 := r16
  have r17 : ((-2147483648) : Int) ≤ ρ 17 ∧ ρ 17 ≤ 2147483647 := r17
  have r18 : ((-1) : Int) ≤ ρ 18 ∧ ρ 18 ≤ 19 := r18
  have r19 : ((-1) : Int) ≤ ρ 19 ∧ ρ 19 ≤ 3 := r19
  have r20 : (0 : Int) ≤ ρ 20 ∧ ρ 20 ≤ 4 := r20
  have r21 : (13 : Int) ≤ ρ 21 ∧ ρ 21 ≤ 2000 := r21
  obtain ⟨f0, f1, f2, -⟩ := hf
  have f0 : (0 : Int) ≤ ρ 6 + -ρ 5 + (-1) := f0
  have f1 : (0 : Int) ≤ ρ 21 + -ρ 5 + (-1) := f1
  have f2 : (0 : Int) ≤ -ρ 21 + ρ 6 := f2
  obtain ⟨m0, m1, m2, m3, m4, m5, m6, m7, m8, m9, m10, m11, m12, m13, m14, m15, m16, m17, m18, m19, m20, m21, -⟩ := hm
  have m0 : γ 0 1 0 10 = ρ 2 := m0
  have m1 : γ 0 40 0 (ρ 2) = ρ 3 := m1
  have m2 : γ 0 9 (ρ 3) 2 = ρ 4 := m2
  have m3 : γ 0 2 0 6 = ρ 5 := m3
  have m4 : γ 0 2 0 3 = ρ 6 := m4
  have m5 : γ 0 10 (ρ 4 + 9 * ρ 3 + 1) 4 = ρ 7 := m5
  have m6 : γ 0 10 (ρ 4 + 9 * ρ 3 + 1) 11 = ρ 8 := m6
  have m7 : γ 0 10 (9 * ρ 3) 8 = ρ 9 := m7
  have m8 : γ 0 10 (9 * ρ 3) 12 = ρ 10 := m8
  have m9 : γ 0 2 0 4 = ρ 11 := m9
  have m10 : γ 0 2 0 5 = ρ 12 := m10
  have m11 : γ 0 2 0 9 = ρ 13 := m11
  have m12 : γ 0 2 0 13 = ρ 14 := m12
  have m13 : γ 0 3 0 1 = ρ 15 := m13
  have m14 : γ 0 10 (ρ 4 + 9 * ρ 3 + 1) 5 = ρ 16 := m14
  have m15 : γ 0 10 (ρ 4 + 9 * ρ 3 + 1) 7 = ρ 17 := m15
  have m16 : γ 0 10 (ρ 4 + 9 * ρ 3 + 1) 8 = ρ 18 := m16
  have m17 : γ 0 10 (ρ 4 + 9 * ρ 3 + 1) 9 = ρ 19 := m17
  have m18 : γ 0 10 (ρ 4 + 9 * ρ 3 + 1) 12 = ρ 20 := m18
  have m19 : γ 1 2 0 6 = ρ 21 := m19
  have m20 : γ 1 2 0 4 = ρ 5 := m20
  have m21 : γ 1 2 0 9 = ρ 5 := m21
  obtain ⟨-, c1⟩ := hc
  have c1 : ∀ (G : Nat) (k j : Int), ¬ rMdP m78_ G j → γ 1 G k j = γ 0 G k j := c1
  obtain ⟨l0, -⟩ := hl
  have l0 : sn115 [ρ 5, ρ 6, ρ 11, ρ 13] (γ 0) 0 0 (γ 1) := hS115 _ _ _ _ _ l0
  show sn156 [ρ 0, ρ 1, ρ 2, ρ 3, ρ 4, ρ 5, ρ 6, ρ 7, ρ 8, ρ 9, ρ 10, ρ 11, ρ 12, ρ 13, ρ 14, ρ 15, ρ 16, ρ 17, ρ 18, ρ 19, ρ 20] (γ 0) 0 0 (γ 1)
  refine Eq.symm ?_
  show fn156 [ρ 0, ρ 1] (γ 0) = _
  unfold fn156
  refine (zLet_eq (show _ = ρ 0 from rfl)).trans ?_
  refine (zLet_eq (show _ = ρ 1 from rfl)).trans ?_
  refine (zLet_eq m0).trans ?_
  refine (zLet_eq m1).trans ?_
  refine (zLet_eq m2).trans ?_
  refine (zLet_eq m3).trans ?_
  refine (zLet_eq m10).trans ?_
  refine (zLet_eq (show fn115 [] (γ 0) = (0, 0, γ 1) from l0.symm)).trans ?_
  refine (zLet_eq (show _ = γ 1 from rfl)).trans ?_
  refine (if_neg (show ¬ ((1 : Int) ≤ 0) by omega)).trans ?_
  rfl
theorem vn156_1 {S : Nat → zSpc} (hS103 : ∀ x g o v gz, S 103 x g o v gz → sn103 x g o v gz) (hS109 : ∀ x g o v gz, S 109 x g o v gz → sn109 x g o v gz) (hS114 : ∀ x g o v gz, S 114 x g o v gz → sn114 x g o v gz) (hS115 : ∀ x g o v gz, S 115 x g o v gz → sn115 x g o v gz) (hS117 : ∀ x g o v gz, S 117 x g o v gz → sn117 x g o v gz) (hS120 : ∀ x g o v gz, S 120 x g o v gz → sn120 x g o v gz) (hS139 : ∀ x g o v gz, S 139 x g o v gz → sn139 x g o v gz) {a : List Int} {g : rHp} : ∀ (ρ : Nat → Int) (γ : Nat → rHp), zO 21 S a g q156_1 ρ γ → zGl (fun _ _ _ => True) (sn156 a g) q156_1 ρ γ := by
  intro ρ γ h
  obtain ⟨ha, hg, hr, hf, hm, hc, hl⟩ := h
  have ha : a = [ρ 0, ρ 1, ρ 2, ρ 3, ρ 4, ρ 5, ρ 6, ρ 7, ρ 8, ρ 9, ρ 10, ρ 11, ρ 12, ρ 13, ρ 14, ρ 15, ρ 16, ρ 17, ρ 18, ρ 19, ρ 20] := ha
  subst ha
  subst hg
  obtain ⟨r0, r1, r2, r3, r4, r5, r6, r7, r8, r9, r10, r11, r12, r13, r14, r15, r16, r17, r18, r19, r20, r21, r22, r23, r24, -⟩ := hr
  have r0 : ((-9223372036854775808) : Int) ≤ ρ 0 ∧ ρ 0 ≤ 9223372036854775807 := r0
  have r1 : ((-2147483648) : Int) ≤ ρ 1 ∧ ρ 1 ≤ 2147483647 := r1
  have r2 : (0 : Int) ≤ ρ 2 ∧ ρ 2 ≤ 60 := r2
  have r3 : (0 : Int) ≤ ρ 3 ∧ ρ 3 ≤ 60 := r3
  have r4 : (0 : Int) ≤ ρ 4 ∧ ρ 4 ≤ 7 := r4
  have r5 : (0 : Int) ≤ ρ 5 ∧ ρ 5 ≤ 1999 := r5
  have r6 : (0 : Int) ≤ ρ 6 ∧ ρ 6 ≤ 2000 := r6
  have r7 : (0 : Int) ≤ ρ 7 ∧ ρ 7 ≤ 8 := r7
  have r8 : ((-1) : Int) ≤ ρ 8 ∧ ρ 8 ≤ 7 := r8
  have r9 : ((-1) : Int) ≤ ρ 9 ∧ ρ 9 ≤ 19 := r9
  have r10 : (0 : Int) ≤ ρ 10 ∧ ρ 10 ≤ 4 := r10
  have r11 : ((-2147483648) : Int) ≤ ρ 11 ∧ ρ 11 ≤ 2147483647 := r11
  have r12 : ((-2147483648) : Int) ≤ ρ 12 ∧ ρ 12 ≤ 2147483647 := r12
  have r13 : ((-2147483648) : Int) ≤ ρ 13 ∧ ρ 13 ≤ 2147483647 := r13
  have r14 : (0 : Int) ≤ ρ 14 ∧ ρ 14 ≤ 8 := r14
  have r15 : (0 : Int) ≤ ρ 15 ∧ ρ 15 ≤ 5120 := r15
  have r16 : (0 : Int) ≤ ρ 16 ∧ ρ 16 ≤ 4 := r16
  have r17 : ((-2147483648) : Int) ≤ ρ 17 ∧ ρ 17 ≤ 2147483647 := r17
  have r18 : ((-1) : Int) ≤ ρ 18 ∧ ρ 18 ≤ 19 := r18
  have r19 : ((-1) : Int) ≤ ρ 19 ∧ ρ 19 ≤ 3 := r19
  have r20 : (0 : Int) ≤ ρ 20 ∧ ρ 20 ≤ 4 := r20
  have r21 : (1 : Int) ≤ ρ 21 ∧ ρ 21 ≤ 2000 := r21
  have r22 : (361 : Int) ≤ ρ 22 ∧ ρ 22 ≤ 361 := r22
  have r23 : ((-1) : Int) ≤ ρ 23 ∧ ρ 23 ≤ (-1) := r23
  have r24 : (1 : Int) ≤ ρ 24 ∧ ρ 24 ≤ 8 := r24
  obtain ⟨f0, f1, f2, f3, f4, f5, -⟩ := hf
  have f0 : (0 : Int) ≤ ρ 24 + -ρ 23 + (-1) := f0
  have f1 : (0 : Int) ≤ ρ 24 + -ρ 14 := f1
  have f2 : (0 : Int) ≤ -ρ 23 + ρ 14 := f2
  have f3 : (0 : Int) ≤ ρ 6 + -ρ 5 + (-1) := f3
  have f4 : (0 : Int) ≤ ρ 21 + -ρ 5 + (-1) := f4
  have f5 : (0 : Int) ≤ -ρ 21 + ρ 6 := f5
  obtain ⟨m0, m1, m2, m3, m4, m5, m6, m7, m8, m9, m10, m11, m12, m13, m14, m15, m16, m17, m18, m19, m20, m21, m22, m23, m24, m25, m26, m27, m28, m29, m30, m31, m32, -⟩ := hm
  have m0 : γ 0 1 0 10 = ρ 2 := m0
  have m1 : γ 0 40 0 (ρ 2) = ρ 3 := m1
  have m2 : γ 0 9 (ρ 3) 2 = ρ 4 := m2
  have m3 : γ 0 2 0 6 = ρ 5 := m3
  have m4 : γ 0 2 0 3 = ρ 6 := m4
  have m5 : γ 0 10 (ρ 4 + 9 * ρ 3 + 1) 4 = ρ 7 := m5
  have m6 : γ 0 10 (ρ 4 + 9 * ρ 3 + 1) 11 = ρ 8 := m6
  have m7 : γ 0 10 (9 * ρ 3) 8 = ρ 9 := m7
  have m8 : γ 0 10 (9 * ρ 3) 12 = ρ 10 := m8
  have m9 : γ 0 2 0 4 = ρ 11 := m9
  have m10 : γ 0 2 0 5 = ρ 12 := m10
  have m11 : γ 0 2 0 9 = ρ 13 := m11
  have m12 : γ 0 2 0 13 = ρ 14 := m12
  have m13 : γ 0 3 0 1 = ρ 15 := m13
  have m14 : γ 0 10 (ρ 4 + 9 * ρ 3 + 1) 5 = ρ 16 := m14
  have m15 : γ 0 10 (ρ 4 + 9 * ρ 3 + 1) 7 = ρ 17 := m15
  have m16 : γ 0 10 (ρ 4 + 9 * ρ 3 + 1) 8 = ρ 18 := m16
  have m17 : γ 0 10 (ρ 4 + 9 * ρ 3 + 1) 9 = ρ 19 := m17
  have m18 : γ 0 10 (ρ 4 + 9 * ρ 3 + 1) 12 = ρ 20 := m18
  have m19 : γ 1 2 0 6 = ρ 21 := m19
  have m20 : γ 1 2 0 4 = ρ 11 := m20
  have m21 : γ 1 2 0 9 = ρ 5 := m21
  have m22 : γ 1 2 0 8 = ρ 22 := m22
  have m23 : γ 2 10 (9 * ρ 3) 8 = ρ 9 := m23
  have m24 : γ 2 10 (9 * ρ 3) 12 = ρ 10 := m24
  have m25 : γ 2 10 (ρ 4 + 9 * ρ 3 + 1) 4 = 6 := m25
  have m26 : γ 2 10 (ρ 4 + 9 * ρ 3 + 1) 5 = 0 := m26
  have m27 : γ 2 10 (ρ 4 + 9 * ρ 3 + 1) 7 = ρ 1 := m27
  have m28 : γ 2 10 (ρ 4 + 9 * ρ 3 + 1) 8 = (-1) := m28
  have m29 : γ 2 10 (ρ 4 + 9 * ρ 3 + 1) 9 = (-1) := m29
  have m30 : γ 2 10 (ρ 4 + 9 * ρ 3 + 1) 12 = 0 := m30
  have m31 : γ 3 2 0 13 = ρ 24 := m31
  have m32 : γ 5 2 0 4 = ρ 1 := m32
  obtain ⟨⟨⟨⟨⟨-, c1⟩, c2⟩, c3⟩, c4⟩, c5⟩ := hc
  have c1 : ∀ (G : Nat) (k j : Int), ¬ rMdP m78_ G j → γ 1 G k j = γ 0 G k j := c1
  have c2 : ∀ (G : Nat) (k j : Int), ¬ rMdP m70_ G j → γ 2 G k j = γ 1 G k j := c2
  have c3 : ∀ (G : Nat) (k j : Int), ¬ rMdP m82_ G j → γ 3 G k j = γ 2 G k j := c3
  have c4 : γ 4 = rUp (γ 3) 10 (ρ 4 + 9 * ρ 3 + 1) 11 (ρ 23) := c4
  have c5 : ∀ (G : Nat) (k j : Int), ¬ rMdP m72_ G j → γ 5 G k j = γ 4 G k j := c5
  obtain ⟨l0, l1, l2, l3, -⟩ := hl
  have l0 : sn115 [ρ 5, ρ 6, ρ 11, ρ 13] (γ 0) 0 1 (γ 1) := hS115 _ _ _ _ _ l0
  have l1 : sn103 [6, 0, ρ 1, ρ 2, ρ 3, ρ 4, ρ 9, ρ 10, ρ 7, ρ 16, ρ 17, ρ 18, ρ 19, ρ 20] (γ 1) 0 0 (γ 2) := hS103 _ _ _ _ _ l1
  have l2 : sn120 [ρ 0, ρ 14] (γ 2) 0 (ρ 23) (γ 3) := hS120 _ _ _ _ _ l2
  have l3 : sn109 [ρ 1, ρ 11] (γ 4) 0 0 (γ 5) := hS109 _ _ _ _ _ l3
  show sn156 [ρ 0, ρ 1, ρ 2, ρ 3, ρ 4, ρ 5, ρ 6, ρ 7, ρ 8, ρ 9, ρ 10, ρ 11, ρ 12, ρ 13, ρ 14, ρ 15, ρ 16, ρ 17, ρ 18, ρ 19, ρ 20] (γ 0) 0 0 (γ 5)
  refine Eq.symm ?_
  show fn156 [ρ 0, ρ 1] (γ 0) = _
  unfold fn156
  refine (zLet_eq (show _ = ρ 0 from rfl)).trans ?_
  refine (zLet_eq (show _ = ρ 1 from rfl)).trans ?_
  refine (zLet_eq m0).trans ?_
  refine (zLet_eq m1).trans ?_
  refine (zLet_eq m2).trans ?_
  refine (zLet_eq m3).trans ?_
  refine (zLet_eq m10).trans ?_
  refine (zLet_eq (show fn115 [] (γ 0) = (0, 1, γ 1) from l0.symm)).trans ?_
  refine (zLet_eq (show _ = γ 1 from rfl)).trans ?_
  refine (if_pos (show (1 : Int) ≤ 1 by omega)).trans ?_
  refine (zLet_eq m22).trans ?_
  refine (if_pos (show ρ 22 = 361 by omega)).trans ?_
  refine (zLet_eq (show fn103 [6, 0, ρ 1] (γ 1) = (0, 0, γ 2) from l1.symm)).trans ?_
  refine (zLet_eq (show _ = γ 2 from rfl)).trans ?_
  refine (zLet_eq (show fn120 [ρ 0] (γ 2) = (0, ρ 23, γ 3) from l2.symm)).trans ?_
  refine (zLet_eq (show _ = γ 3 from rfl)).trans ?_
  refine (zLet_eq (show _ = ρ 23 from rfl)).trans ?_
  refine (zLet_eq c4.symm).trans ?_
  refine (if_pos (show ρ 23 < 0 by omega)).trans ?_
  refine (zLet_eq (show fn109 [ρ 1] (γ 4) = (0, 0, γ 5) from l3.symm)).trans ?_
  refine (zLet_eq (show _ = γ 5 from rfl)).trans ?_
  rfl
theorem vn156_2 {S : Nat → zSpc} (hS103 : ∀ x g o v gz, S 103 x g o v gz → sn103 x g o v gz) (hS109 : ∀ x g o v gz, S 109 x g o v gz → sn109 x g o v gz) (hS114 : ∀ x g o v gz, S 114 x g o v gz → sn114 x g o v gz) (hS115 : ∀ x g o v gz, S 115 x g o v gz → sn115 x g o v gz) (hS117 : ∀ x g o v gz, S 117 x g o v gz → sn117 x g o v gz) (hS120 : ∀ x g o v gz, S 120 x g o v gz → sn120 x g o v gz) (hS139 : ∀ x g o v gz, S 139 x g o v gz → sn139 x g o v gz) {a : List Int} {g : rHp} : ∀ (ρ : Nat → Int) (γ : Nat → rHp), zO 21 S a g q156_2 ρ γ → zGl (fun _ _ _ => True) (sn156 a g) q156_2 ρ γ := by
  intro ρ γ h
  obtain ⟨ha, hg, hr, hf, hm, hc, hl⟩ := h
  have ha : a = [ρ 0, ρ 1, ρ 2, ρ 3, ρ 4, ρ 5, ρ 6, ρ 7, ρ 8, ρ 9, ρ 10, ρ 11, ρ 12, ρ 13, ρ 14, ρ 15, ρ 16, ρ 17, ρ 18, ρ 19, ρ 20] := ha
  subst ha
  subst hg
  obtain ⟨r0, r1, r2, r3, r4, r5, r6, r7, r8, r9, r10, r11, r12, r13, r14, r15, r16, r17, r18, r19, r20, r21, r22, r23, r24, r25, r26, r27, r28, r29, -⟩ := hr
  have r0 : ((-9223372036854775808) : Int) ≤ ρ 0 ∧ ρ 0 ≤ 9223372036854775807 := r0
  have r1 : ((-2147483648) : Int) ≤ ρ 1 ∧ ρ 1 ≤ 2147483647 := r1
  have r2 : (0 : Int) ≤ ρ 2 ∧ ρ 2 ≤ 60 := r2
  have r3 : (0 : Int) ≤ ρ 3 ∧ ρ 3 ≤ 60 := r3
  have r4 : (0 : Int) ≤ ρ 4 ∧ ρ 4 ≤ 7 := r4
  have r5 : (0 : Int) ≤ ρ 5 ∧ ρ 5 ≤ 1999 := r5
  have r6 : (0 : Int) ≤ ρ 6 ∧ ρ 6 ≤ 2000 := r6
  have r7 : (0 : Int) ≤ ρ 7 ∧ ρ 7 ≤ 8 := r7
  have r8 : ((-1) : Int) ≤ ρ 8 ∧ ρ 8 ≤ 7 := r8
  have r9 : ((-1) : Int) ≤ ρ 9 ∧ ρ 9 ≤ 19 := r9
  have r10 : (0 : Int) ≤ ρ 10 ∧ ρ 10 ≤ 4 := r10
  have r11 : ((-2147483648) : Int) ≤ ρ 11 ∧ ρ 11 ≤ 2147483647 := r11
  have r12 : ((-2147483648) : Int) ≤ ρ 12 ∧ ρ 12 ≤ 2147483647 := r12
  have r13 : ((-2147483648) : Int) ≤ ρ 13 ∧ ρ 13 ≤ 2147483647 := r13
  have r14 : (0 : Int) ≤ ρ 14 ∧ ρ 14 ≤ 8 := r14
  have r15 : (0 : Int) ≤ ρ 15 ∧ ρ 15 ≤ 5120 := r15
  have r16 : (0 : Int) ≤ ρ 16 ∧ ρ 16 ≤ 4 := r16
  have r17 : ((-2147483648) : Int) ≤ ρ 17 ∧ ρ 17 ≤ 2147483647 := r17
  have r18 : ((-1) : Int) ≤ ρ 18 ∧ ρ 18 ≤ 19 := r18
  have r19 : ((-1) : Int) ≤ ρ 19 ∧ ρ 19 ≤ 3 := r19
  have r20 : (0 : Int) ≤ ρ 20 ∧ ρ 20 ≤ 4 := r20
  have r21 : (1 : Int) ≤ ρ 21 ∧ ρ 21 ≤ 2000 := r21
  have r22 : (361 : Int) ≤ ρ 22 ∧ ρ 22 ≤ 361 := r22
  have r23 : (0 : Int) ≤ ρ 23 ∧ ρ 23 ≤ 7 := r23
  have r24 : (1 : Int) ≤ ρ 24 ∧ ρ 24 ≤ 8 := r24
  have r25 : (0 : Int) ≤ ρ 25 ∧ ρ 25 ≤ 2000 := r25
  have r26 : (0 : Int) ≤ ρ 26 ∧ ρ 26 ≤ 1 := r26
  have r27 : (0 : Int) ≤ ρ 27 ∧ ρ 27 ≤ 2000 := r27
  have r28 : ((-2147483648) : Int) ≤ ρ 28 ∧ ρ 28 ≤ 2147483647 := r28
  have r29 : (0 : Int) ≤ ρ 29 ∧ ρ 29 ≤ 5120 := r29
  obtain ⟨f0, f1, f2, f3, f4, f5, f6, f7, f8, f9, -⟩ := hf
  have f0 : (0 : Int) ≤ -ρ 27 + ρ 25 := f0
  have f1 : (0 : Int) ≤ ρ 25 + -ρ 21 := f1
  have f2 : (0 : Int) ≤ ρ 27 + -ρ 21 := f2
  have f3 : (0 : Int) ≤ ρ 29 + -ρ 15 := f3
  have f4 : (0 : Int) ≤ ρ 24 + -ρ 23 + (-1) := f4
  have f5 : (0 : Int) ≤ ρ 24 + -ρ 14 := f5
  have f6 : (0 : Int) ≤ -ρ 23 + ρ 14 := f6
  have f7 : (0 : Int) ≤ ρ 6 + -ρ 5 + (-1) := f7
  have f8 : (0 : Int) ≤ ρ 21 + -ρ 5 + (-1) := f8
  have f9 : (0 : Int) ≤ -ρ 21 + ρ 6 := f9
  obtain ⟨m0, m1, m2, m3, m4, m5, m6, m7, m8, m9, m10, m11, m12, m13, m14, m15, m16, m17, m18, m19, m20, m21, m22, m23, m24, m25, m26, m27, m28, m29, m30, m31, m32, m33, m34, m35, m36, -⟩ := hm
  have m0 : γ 0 1 0 10 = ρ 2 := m0
  have m1 : γ 0 40 0 (ρ 2) = ρ 3 := m1
  have m2 : γ 0 9 (ρ 3) 2 = ρ 4 := m2
  have m3 : γ 0 2 0 6 = ρ 5 := m3
  have m4 : γ 0 2 0 3 = ρ 6 := m4
  have m5 : γ 0 10 (ρ 4 + 9 * ρ 3 + 1) 4 = ρ 7 := m5
  have m6 : γ 0 10 (ρ 4 + 9 * ρ 3 + 1) 11 = ρ 8 := m6
  have m7 : γ 0 10 (9 * ρ 3) 8 = ρ 9 := m7
  have m8 : γ 0 10 (9 * ρ 3) 12 = ρ 10 := m8
  have m9 : γ 0 2 0 4 = ρ 11 := m9
  have m10 : γ 0 2 0 5 = ρ 12 := m10
  have m11 : γ 0 2 0 9 = ρ 13 := m11
  have m12 : γ 0 2 0 13 = ρ 14 := m12
  have m13 : γ 0 3 0 1 = ρ 15 := m13
  have m14 : γ 0 10 (ρ 4 + 9 * ρ 3 + 1) 5 = ρ 16 := m14
  have m15 : γ 0 10 (ρ 4 + 9 * ρ 3 + 1) 7 = ρ 17 := m15
  have m16 : γ 0 10 (ρ 4 + 9 * ρ 3 + 1) 8 = ρ 18 := m16
  have m17 : γ 0 10 (ρ 4 + 9 * ρ 3 + 1) 9 = ρ 19 := m17
  have m18 : γ 0 10 (ρ 4 + 9 * ρ 3 + 1) 12 = ρ 20 := m18
  have m19 : γ 1 2 0 6 = ρ 21 := m19
  have m20 : γ 1 2 0 4 = ρ 11 := m20
  have m21 : γ 1 2 0 9 = ρ 5 := m21
  have m22 : γ 1 2 0 8 = ρ 22 := m22
  have m23 : γ 2 10 (9 * ρ 3) 8 = ρ 9 := m23
  have m24 : γ 2 10 (9 * ρ 3) 12 = ρ 10 := m24
  have m25 : γ 2 10 (ρ 4 + 9 * ρ 3 + 1) 4 = 6 := m25
  have m26 : γ 2 10 (ρ 4 + 9 * ρ 3 + 1) 5 = 0 := m26
  have m27 : γ 2 10 (ρ 4 + 9 * ρ 3 + 1) 7 = ρ 1 := m27
  have m28 : γ 2 10 (ρ 4 + 9 * ρ 3 + 1) 8 = (-1) := m28
  have m29 : γ 2 10 (ρ 4 + 9 * ρ 3 + 1) 9 = (-1) := m29
  have m30 : γ 2 10 (ρ 4 + 9 * ρ 3 + 1) 12 = 0 := m30
  have m31 : γ 3 2 0 13 = ρ 24 := m31
  have m32 : γ 6 2 0 6 = ρ 25 := m32
  have m33 : γ 6 10 (ρ 4 + 9 * ρ 3 + 1) 5 = ρ 26 := m33
  have m34 : γ 6 2 0 4 = ρ 27 := m34
  have m35 : γ 6 2 0 9 = ρ 28 := m35
  have m36 : γ 6 3 0 1 = ρ 29 := m36
  obtain ⟨⟨⟨⟨⟨⟨-, c1⟩, c2⟩, c3⟩, c4⟩, c5⟩, c6⟩ := hc
  have c1 : ∀ (G : Nat) (k j : Int), ¬ rMdP m78_ G j → γ 1 G k j = γ 0 G k j := c1
  have c2 : ∀ (G : Nat) (k j : Int), ¬ rMdP m70_ G j → γ 2 G k j = γ 1 G k j := c2
  have c3 : ∀ (G : Nat) (k j : Int), ¬ rMdP m82_ G j → γ 3 G k j = γ 2 G k j := c3
  have c4 : γ 4 = rUp (γ 3) 10 (ρ 4 + 9 * ρ 3 + 1) 11 (ρ 23) := c4
  have c5 : ∀ (G : Nat) (k j : Int), ¬ rMdP m0_ G j → γ 5 G k j = γ 4 G k j := c5
  have c6 : ∀ (G : Nat) (k j : Int), ¬ rMdP m92_ G j → γ 6 G k j = γ 5 G k j := c6
  obtain ⟨l0, l1, l2, l3, l4, -⟩ := hl
  have l0 : sn115 [ρ 5, ρ 6, ρ 11, ρ 13] (γ 0) 0 1 (γ 1) := hS115 _ _ _ _ _ l0
  have l1 : sn103 [6, 0, ρ 1, ρ 2, ρ 3, ρ 4, ρ 9, ρ 10, ρ 7, ρ 16, ρ 17, ρ 18, ρ 19, ρ 20] (γ 1) 0 0 (γ 2) := hS103 _ _ _ _ _ l1
  have l2 : sn120 [ρ 0, ρ 14] (γ 2) 0 (ρ 23) (γ 3) := hS120 _ _ _ _ _ l2
  have l3 : sn117 [ρ 23, ρ 12] (γ 4) 0 0 (γ 5) := hS117 _ _ _ _ _ l3
  have l4 : sn139 [ρ 4 + 9 * ρ 3 + 1, ρ 21, ρ 6, 0, ρ 11, ρ 12, ρ 5, ρ 24, ρ 15] (γ 5) 0 0 (γ 6) := hS139 _ _ _ _ _ l4
  show sn156 [ρ 0, ρ 1, ρ 2, ρ 3, ρ 4, ρ 5, ρ 6, ρ 7, ρ 8, ρ 9, ρ 10, ρ 11, ρ 12, ρ 13, ρ 14, ρ 15, ρ 16, ρ 17, ρ 18, ρ 19, ρ 20] (γ 0) 0 0 (γ 6)
  refine Eq.symm ?_
  show fn156 [ρ 0, ρ 1] (γ 0) = _
  unfold fn156
  refine (zLet_eq (show _ = ρ 0 from rfl)).trans ?_
  refine (zLet_eq (show _ = ρ 1 from rfl)).trans ?_
  refine (zLet_eq m0).trans ?_
  refine (zLet_eq m1).trans ?_
  refine (zLet_eq m2).trans ?_
  refine (zLet_eq m3).trans ?_
  refine (zLet_eq m10).trans ?_
  refine (zLet_eq (show fn115 [] (γ 0) = (0, 1, γ 1) from l0.symm)).trans ?_
  refine (zLet_eq (show _ = γ 1 from rfl)).trans ?_
  refine (if_pos (show (1 : Int) ≤ 1 by omega)).trans ?_
  refine (zLet_eq m22).trans ?_
  refine (if_pos (show ρ 22 = 361 by omega)).trans ?_
  refine (zLet_eq (show fn103 [6, 0, ρ 1] (γ 1) = (0, 0, γ 2) from l1.symm)).trans ?_
  refine (zLet_eq (show _ = γ 2 from rfl)).trans ?_
  refine (zLet_eq (show fn120 [ρ 0] (γ 2) = (0, ρ 23, γ 3) from l2.symm)).trans ?_
  refine (zLet_eq (show _ = γ 3 from rfl)).trans ?_
  refine (zLet_eq (show _ = ρ 23 from rfl)).trans ?_
  refine (zLet_eq c4.symm).trans ?_
  refine (if_neg (show ¬ (ρ 23 < 0) by omega)).trans ?_
  refine (zLet_eq (show fn117 [ρ 23] (γ 4) = (0, 0, γ 5) from l3.symm)).trans ?_
  refine (zLet_eq (show _ = γ 5 from rfl)).trans ?_
  refine (if_neg (show ¬ ((1 : Int) ≤ 0) by omega)).trans ?_
  refine (zLet_eq (show fn139 [ρ 4 + 9 * ρ 3 + 1] (γ 5) = (0, 0, γ 6) from l4.symm)).trans ?_
  refine (zLet_eq (show _ = γ 6 from rfl)).trans ?_
  refine (if_neg (show ¬ ((1 : Int) ≤ 0) by omega)).trans ?_
  rfl
theorem vn156_3 {S : Nat → zSpc} (hS103 : ∀ x g o v gz, S 103 x g o v gz → sn103 x g o v gz) (hS109 : ∀ x g o v gz, S 109 x g o v gz → sn109 x g o v gz) (hS114 : ∀ x g o v gz, S 114 x g o v gz → sn114 x g o v gz) (hS115 : ∀ x g o v gz, S 115 x g o v gz → sn115 x g o v gz) (hS117 : ∀ x g o v gz, S 117 x g o v gz → sn117 x g o v gz) (hS120 : ∀ x g o v gz, S 120 x g o v gz → sn120 x g o v gz) (hS139 : ∀ x g o v gz, S 139 x g o v gz → sn139 x g o v gz) {a : List Int} {g : rHp} : ∀ (ρ : Nat → Int) (γ : Nat → rHp), zO 21 S a g q156_3 ρ γ → zGl (fun _ _ _ => True) (sn156 a g) q156_3 ρ γ := by
  intro ρ γ h
  obtain ⟨ha, hg, hr, hf, hm, hc, hl⟩ := h
  have ha : a = [ρ 0, ρ 1, ρ 2, ρ 3, ρ 4, ρ 5, ρ 6, ρ 7, ρ 8, ρ 9, ρ 10, ρ 11, ρ 12, ρ 13, ρ 14, ρ 15, ρ 16, ρ 17, ρ 18, ρ 19, ρ 20] := ha
  subst ha
  subst hg
  obtain ⟨r0, r1, r2, r3, r4, r5, r6, r7, r8, r9, r10, r11, r12, r13, r14, r15, r16, r17, r18, r19, r20, r21, r22, r23, r24, r25, r26, r27, r28, r29, -⟩ := hr
  have r0 : ((-9223372036854775808) : Int) ≤ ρ 0 ∧ ρ 0 ≤ 9223372036854775807 := r0
  have r1 : ((-2147483648) : Int) ≤ ρ 1 ∧ ρ 1 ≤ 2147483647 := r1
  have r2 : (0 : Int) ≤ ρ 2 ∧ ρ 2 ≤ 60 := r2
  have r3 : (0 : Int) ≤ ρ 3 ∧ ρ 3 ≤ 60 := r3
  have r4 : (0 : Int) ≤ ρ 4 ∧ ρ 4 ≤ 7 := r4
  have r5 : (0 : Int) ≤ ρ 5 ∧ ρ 5 ≤ 1999 := r5
  have r6 : (0 : Int) ≤ ρ 6 ∧ ρ 6 ≤ 2000 := r6
  have r7 : (0 : Int) ≤ ρ 7 ∧ ρ 7 ≤ 8 := r7
  have r8 : ((-1) : Int) ≤ ρ 8 ∧ ρ 8 ≤ 7 := r8
  have r9 : ((-1) : Int) ≤ ρ 9 ∧ ρ 9 ≤ 19 := r9
  have r10 : (0 : Int) ≤ ρ 10 ∧ ρ 10 ≤ 4 := r10
  have r11 : ((-2147483648) : Int) ≤ ρ 11 ∧ ρ 11 ≤ 2147483647 := r11
  have r12 : ((-2147483648) : Int) ≤ ρ 12 ∧ ρ 12 ≤ 2147483647 := r12
  have r13 : ((-2147483648) : Int) ≤ ρ 13 ∧ ρ 13 ≤ 2147483647 := r13
  have r14 : (0 : Int) ≤ ρ 14 ∧ ρ 14 ≤ 8 := r14
  have r15 : (0 : Int) ≤ ρ 15 ∧ ρ 15 ≤ 5120 := r15
  have r16 : (0 : Int) ≤ ρ 16 ∧ ρ 16 ≤ 4 := r16
  have r17 : ((-2147483648) : Int) ≤ ρ 17 ∧ ρ 17 ≤ 2147483647 := r17
  have r18 : ((-1) : Int) ≤ ρ 18 ∧ ρ 18 ≤ 19 := r18
  have r19 : ((-1) : Int) ≤ ρ 19 ∧ ρ 19 ≤ 3 := r19
  have r20 : (0 : Int) ≤ ρ 20 ∧ ρ 20 ≤ 4 := r20
  have r21 : (1 : Int) ≤ ρ 21 ∧ ρ 21 ≤ 2000 := r21
  have r22 : (361 : Int) ≤ ρ 22 ∧ ρ 22 ≤ 361 := r22
  have r23 : (0 : Int) ≤ ρ 23 ∧ ρ 23 ≤ 7 := r23
  have r24 : (1 : Int) ≤ ρ 24 ∧ ρ 24 ≤ 8 := r24
  have r25 : (1 : Int) ≤ ρ 25 ∧ ρ 25 ≤ 2000 := r25
  have r26 : (1 : Int) ≤ ρ 26 ∧ ρ 26 ≤ 1 := r26
  have r27 : ((-2147483648) : Int) ≤ ρ 27 ∧ ρ 27 ≤ 2147483647 := r27
  have r28 : (0 : Int) ≤ ρ 28 ∧ ρ 28 ≤ 5120 := r28
  have r29 : (0 : Int) ≤ ρ 29 ∧ ρ 29 ≤ 2000 := r29
  obtain ⟨f0, f1, f2, f3, f4, f5, f6, f7, f8, f9, f10, -⟩ := hf
  have f0 : (0 : Int) ≤ ρ 29 + -ρ 25 := f0
  have f1 : (0 : Int) ≤ ρ 29 + -ρ 6 := f1
  have f2 : (0 : Int) ≤ ρ 25 + -ρ 21 + (-1) := f2
  have f3 : (0 : Int) ≤ ρ 28 + -ρ 15 := f3
  have f4 : (0 : Int) ≤ -ρ 21 + ρ 6 + (-1) := f4
  have f5 : (0 : Int) ≤ ρ 24 + -ρ 23 + (-1) := f5
  have f6 : (0 : Int) ≤ ρ 24 + -ρ 14 := f6
  have f7 : (0 : Int) ≤ -ρ 23 + ρ 14 := f7
  have f8 : (0 : Int) ≤ ρ 6 + -ρ 5 + (-1) := f8
  have f9 : (0 : Int) ≤ ρ 21 + -ρ 5 + (-1) := f9
  have f10 : (0 : Int) ≤ -ρ 21 + ρ 6 := f10
  obtain ⟨m0, m1, m2, m3, m4, m5, m6, m7, m8, m9, m10, m11, m12, m13, m14, m15, m16, m17, m18, m19, m20, m21, m22, m23, m24, m25, m26, m27, m28, m29, m30, m31, m32, m33, m34, m35, m36, m37, m38, -⟩ := hm
  have m0 : γ 0 1 0 10 = ρ 2 := m0
  have m1 : γ 0 40 0 (ρ 2) = ρ 3 := m1
  have m2 : γ 0 9 (ρ 3) 2 = ρ 4 := m2
  have m3 : γ 0 2 0 6 = ρ 5 := m3
  have m4 : γ 0 2 0 3 = ρ 6 := m4
  have m5 : γ 0 10 (ρ 4 + 9 * ρ 3 + 1) 4 = ρ 7 := m5
  have m6 : γ 0 10 (ρ 4 + 9 * ρ 3 + 1) 11 = ρ 8 := m6
  have m7 : γ 0 10 (9 * ρ 3) 8 = ρ 9 := m7
  have m8 : γ 0 10 (9 * ρ 3) 12 = ρ 10 := m8
  have m9 : γ 0 2 0 4 = ρ 11 := m9
  have m10 : γ 0 2 0 5 = ρ 12 := m10
  have m11 : γ 0 2 0 9 = ρ 13 := m11
  have m12 : γ 0 2 0 13 = ρ 14 := m12
  have m13 : γ 0 3 0 1 = ρ 15 := m13
  have m14 : γ 0 10 (ρ 4 + 9 * ρ 3 + 1) 5 = ρ 16 := m14
  have m15 : γ 0 10 (ρ 4 + 9 * ρ 3 + 1) 7 = ρ 17 := m15
  have m16 : γ 0 10 (ρ 4 + 9 * ρ 3 + 1) 8 = ρ 18 := m16
  have m17 : γ 0 10 (ρ 4 + 9 * ρ 3 + 1) 9 = ρ 19 := m17
  have m18 : γ 0 10 (ρ 4 + 9 * ρ 3 + 1) 12 = ρ 20 := m18
  have m19 : γ 1 2 0 6 = ρ 21 := m19
  have m20 : γ 1 2 0 4 = ρ 11 := m20
  have m21 : γ 1 2 0 9 = ρ 5 := m21
  have m22 : γ 1 2 0 8 = ρ 22 := m22
  have m23 : γ 2 10 (9 * ρ 3) 8 = ρ 9 := m23
  have m24 : γ 2 10 (9 * ρ 3) 12 = ρ 10 := m24
  have m25 : γ 2 10 (ρ 4 + 9 * ρ 3 + 1) 4 = 6 := m25
  have m26 : γ 2 10 (ρ 4 + 9 * ρ 3 + 1) 5 = 0 := m26
  have m27 : γ 2 10 (ρ 4 + 9 * ρ 3 + 1) 7 = ρ 1 := m27
  have m28 : γ 2 10 (ρ 4 + 9 * ρ 3 + 1) 8 = (-1) := m28
  have m29 : γ 2 10 (ρ 4 + 9 * ρ 3 + 1) 9 = (-1) := m29
  have m30 : γ 2 10 (ρ 4 + 9 * ρ 3 + 1) 12 = 0 := m30
  have m31 : γ 3 2 0 13 = ρ 24 := m31
  have m32 : γ 6 2 0 6 = ρ 25 := m32
  have m33 : γ 6 10 (ρ 4 + 9 * ρ 3 + 1) 5 = ρ 26 := m33
  have m34 : γ 6 2 0 4 = ρ 11 := m34
  have m35 : γ 6 2 0 9 = ρ 27 := m35
  have m36 : γ 6 3 0 1 = ρ 28 := m36
  have m37 : γ 7 2 0 6 = ρ 29 := m37
  have m38 : γ 8 2 0 4 = ρ 29 := m38
  obtain ⟨⟨⟨⟨⟨⟨⟨⟨-, c1⟩, c2⟩, c3⟩, c4⟩, c5⟩, c6⟩, c7⟩, c8⟩ := hc
  have c1 : ∀ (G : Nat) (k j : Int), ¬ rMdP m78_ G j → γ 1 G k j = γ 0 G k j := c1
  have c2 : ∀ (G : Nat) (k j : Int), ¬ rMdP m70_ G j → γ 2 G k j = γ 1 G k j := c2
  have c3 : ∀ (G : Nat) (k j : Int), ¬ rMdP m82_ G j → γ 3 G k j = γ 2 G k j := c3
  have c4 : γ 4 = rUp (γ 3) 10 (ρ 4 + 9 * ρ 3 + 1) 11 (ρ 23) := c4
  have c5 : ∀ (G : Nat) (k j : Int), ¬ rMdP m0_ G j → γ 5 G k j = γ 4 G k j := c5
  have c6 : ∀ (G : Nat) (k j : Int), ¬ rMdP m92_ G j → γ 6 G k j = γ 5 G k j := c6
  have c7 : ∀ (G : Nat) (k j : Int), ¬ rMdP m77_ G j → γ 7 G k j = γ 6 G k j := c7
  have c8 : ∀ (G : Nat) (k j : Int), ¬ rMdP m72_ G j → γ 8 G k j = γ 7 G k j := c8
  obtain ⟨l0, l1, l2, l3, l4, l5, l6, -⟩ := hl
  have l0 : sn115 [ρ 5, ρ 6, ρ 11, ρ 13] (γ 0) 0 1 (γ 1) := hS115 _ _ _ _ _ l0
  have l1 : sn103 [6, 0, ρ 1, ρ 2, ρ 3, ρ 4, ρ 9, ρ 10, ρ 7, ρ 16, ρ 17, ρ 18, ρ 19, ρ 20] (γ 1) 0 0 (γ 2) := hS103 _ _ _ _ _ l1
  have l2 : sn120 [ρ 0, ρ 14] (γ 2) 0 (ρ 23) (γ 3) := hS120 _ _ _ _ _ l2
  have l3 : sn117 [ρ 23, ρ 12] (γ 4) 0 0 (γ 5) := hS117 _ _ _ _ _ l3
  have l4 : sn139 [ρ 4 + 9 * ρ 3 + 1, ρ 21, ρ 6, 0, ρ 11, ρ 12, ρ 5, ρ 24, ρ 15] (γ 5) 0 1 (γ 6) := hS139 _ _ _ _ _ l4
  have l5 : sn114 [ρ 25, ρ 6] (γ 6) 0 (-1) (γ 7) := hS114 _ _ _ _ _ l5
  have l6 : sn109 [ρ 29, ρ 11] (γ 7) 0 0 (γ 8) := hS109 _ _ _ _ _ l6
  show sn156 [ρ 0, ρ 1, ρ 2, ρ 3, ρ 4, ρ 5, ρ 6, ρ 7, ρ 8, ρ 9, ρ 10, ρ 11, ρ 12, ρ 13, ρ 14, ρ 15, ρ 16, ρ 17, ρ 18, ρ 19, ρ 20] (γ 0) 0 0 (γ 8)
  refine Eq.symm ?_
  show fn156 [ρ 0, ρ 1] (γ 0) = _
  unfold fn156
  refine (zLet_eq (show _ = ρ 0 from rfl)).trans ?_
  refine (zLet_eq (show _ = ρ 1 from rfl)).trans ?_
  refine (zLet_eq m0).trans ?_
  refine (zLet_eq m1).trans ?_
  refine (zLet_eq m2).trans ?_
  refine (zLet_eq m3).trans ?_
  refine (zLet_eq m10).trans ?_
  refine (zLet_eq (show fn115 [] (γ 0) = (0, 1, γ 1) from l0.symm)).trans ?_
  refine (zLet_eq (show _ = γ 1 from rfl)).trans ?_
  refine (if_pos (show (1 : Int) ≤ 1 by omega)).trans ?_
  refine (zLet_eq m22).trans ?_
  refine (if_pos (show ρ 22 = 361 by omega)).trans ?_
  refine (zLet_eq (show fn103 [6, 0, ρ 1] (γ 1) = (0, 0, γ 2) from l1.symm)).trans ?_
  refine (zLet_eq (show _ = γ 2 from rfl)).trans ?_
  refine (zLet_eq (show fn120 [ρ 0] (γ 2) = (0, ρ 23, γ 3) from l2.symm)).trans ?_
  refine (zLet_eq (show _ = γ 3 from rfl)).trans ?_
  refine (zLet_eq (show _ = ρ 23 from rfl)).trans ?_
  refine (zLet_eq c4.symm).trans ?_
  refine (if_neg (show ¬ (ρ 23 < 0) by omega)).trans ?_
  refine (zLet_eq (show fn117 [ρ 23] (γ 4) = (0, 0, γ 5) from l3.symm)).trans ?_
  refine (zLet_eq (show _ = γ 5 from rfl)).trans ?_
  refine (if_neg (show ¬ ((1 : Int) ≤ 0) by omega)).trans ?_
  refine (zLet_eq (show fn139 [ρ 4 + 9 * ρ 3 + 1] (γ 5) = (0, 1, γ 6) from l4.symm)).trans ?_
  refine (zLet_eq (show _ = γ 6 from rfl)).trans ?_
  refine (if_pos (show (1 : Int) ≤ 1 by omega)).trans ?_
  refine (zLet_eq (show fn114 [] (γ 6) = (0, (-1), γ 7) from l5.symm)).trans ?_
  refine (zLet_eq (show _ = γ 7 from rfl)).trans ?_
  refine (if_neg (show ¬ ((0 : Int) ≤ (-1)) by omega)).trans ?_
  refine (zLet_eq m37).trans ?_
  refine (zLet_eq (show fn109 [ρ 29] (γ 7) = (0, 0, γ 8) from l6.symm)).trans ?_
  refine (zLet_eq (show _ = γ 8 from rfl)).trans ?_
  rfl
theorem vn156_4 {S : Nat → zSpc} (hS103 : ∀ x g o v gz, S 103 x g o v gz → sn103 x g o v gz) (hS109 : ∀ x g o v gz, S 109 x g o v gz → sn109 x g o v gz) (hS114 : ∀ x g o v gz, S 114 x g o v gz → sn114 x g o v gz) (hS115 : ∀ x g o v gz, S 115 x g o v gz → sn115 x g o v gz) (hS117 : ∀ x g o v gz, S 117 x g o v gz → sn117 x g o v gz) (hS120 : ∀ x g o v gz, S 120 x g o v gz → sn120 x g o v gz) (hS139 : ∀ x g o v gz, S 139 x g o v gz → sn139 x g o v gz) {a : List Int} {g : rHp} : ∀ (ρ : Nat → Int) (γ : Nat → rHp), zO 21 S a g q156_4 ρ γ → zGl (fun _ _ _ => True) (sn156 a g) q156_4 ρ γ := by
  intro ρ γ h
  obtain ⟨ha, hg, hr, hf, hm, hc, hl⟩ := h
  have ha : a = [ρ 0, ρ 1, ρ 2, ρ 3, ρ 4, ρ 5, ρ 6, ρ 7, ρ 8, ρ 9, ρ 10, ρ 11, ρ 12, ρ 13, ρ 14, ρ 15, ρ 16, ρ 17, ρ 18, ρ 19, ρ 20] := ha
  subst ha
  subst hg
  obtain ⟨r0, r1, r2, r3, r4, r5, r6, r7, r8, r9, r10, r11, r12, r13, r14, r15, r16, r17, r18, r19, r20, r21, r22, r23, r24, r25, r26, r27, r28, r29, r30, r31, r32, r33, r34, r35, -⟩ := hr
  have r0 : ((-9223372036854775808) : Int) ≤ ρ 0 ∧ ρ 0 ≤ 9223372036854775807 := r0
  have r1 : ((-2147483648) : Int) ≤ ρ 1 ∧ ρ 1 ≤ 2147483647 := r1
  have r2 : (0 : Int) ≤ ρ 2 ∧ ρ 2 ≤ 60 := r2
  have r3 : (0 : Int) ≤ ρ 3 ∧ ρ 3 ≤ 60 := r3
  have r4 : (0 : Int) ≤ ρ 4 ∧ ρ 4 ≤ 7 := r4
  have r5 : (0 : Int) ≤ ρ 5 ∧ ρ 5 ≤ 1999 := r5
  have r6 : (0 : Int) ≤ ρ 6 ∧ ρ 6 ≤ 2000 := r6
  have r7 : (0 : Int) ≤ ρ 7 ∧ ρ 7 ≤ 8 := r7
  have r8 : ((-1) : Int) ≤ ρ 8 ∧ ρ 8 ≤ 7 := r8
  have r9 : ((-1) : Int) ≤ ρ 9 ∧ ρ 9 ≤ 19 := r9
  have r10 : (0 : Int) ≤ ρ 10 ∧ ρ 10 ≤ 4 := r10
  have r11 : ((-2147483648) : Int) ≤ ρ 11 ∧ ρ 11 ≤ 2147483647 := r11
  have r12 : ((-2147483648) : Int) ≤ ρ 12 ∧ ρ 12 ≤ 2147483647 := r12
  have r13 : ((-2147483648) : Int) ≤ ρ 13 ∧ ρ 13 ≤ 2147483647 := r13
  have r14 : (0 : Int) ≤ ρ 14 ∧ ρ 14 ≤ 8 := r14
  have r15 : (0 : Int) ≤ ρ 15 ∧ ρ 15 ≤ 5120 := r15
  have r16 : (0 : Int) ≤ ρ 16 ∧ ρ 16 ≤ 4 := r16
  have r17 : ((-2147483648) : Int) ≤ ρ 17 ∧ ρ 17 ≤ 2147483647 := r17
  have r18 : ((-1) : Int) ≤ ρ 18 ∧ ρ 18 ≤ 19 := r18
  have r19 : ((-1) : Int) ≤ ρ 19 ∧ ρ 19 ≤ 3 := r19
  have r20 : (0 : Int) ≤ ρ 20 ∧ ρ 20 ≤ 4 := r20
  have r21 : (1 : Int) ≤ ρ 21 ∧ ρ 21 ≤ 2000 := r21
  have r22 : (361 : Int) ≤ ρ 22 ∧ ρ 22 ≤ 361 := r22
  have r23 : (0 : Int) ≤ ρ 23 ∧ ρ 23 ≤ 7 := r23
  have r24 : (1 : Int) ≤ ρ 24 ∧ ρ 24 ≤ 8 := r24
  have r25 : (1 : Int) ≤ ρ 25 ∧ ρ 25 ≤ 2000 := r25
  have r26 : (1 : Int) ≤ ρ 26 ∧ ρ 26 ≤ 1 := r26
  have r27 : ((-2147483648) : Int) ≤ ρ 27 ∧ ρ 27 ≤ 2147483647 := r27
  have r28 : (0 : Int) ≤ ρ 28 ∧ ρ 28 ≤ 5120 := r28
  have r29 : (43 : Int) ≤ ρ 29 ∧ ρ 29 ≤ 43 := r29
  have r30 : (0 : Int) ≤ ρ 30 ∧ ρ 30 ≤ 2000 := r30
  have r31 : (0 : Int) ≤ ρ 31 ∧ ρ 31 ≤ 2000 := r31
  have r32 : (0 : Int) ≤ ρ 32 ∧ ρ 32 ≤ 4 := r32
  have r33 : (0 : Int) ≤ ρ 33 ∧ ρ 33 ≤ 2000 := r33
  have r34 : ((-2147483648) : Int) ≤ ρ 34 ∧ ρ 34 ≤ 2147483647 := r34
  have r35 : (0 : Int) ≤ ρ 35 ∧ ρ 35 ≤ 5120 := r35
  obtain ⟨f0, f1, f2, f3, f4, f5, f6, f7, f8, f9, f10, f11, f12, f13, f14, f15, f16, f17, -⟩ := hf
  have f0 : (0 : Int) ≤ -ρ 33 + ρ 31 := f0
  have f1 : (0 : Int) ≤ ρ 31 + -ρ 30 + (-1) := f1
  have f2 : (0 : Int) ≤ ρ 32 + -ρ 26 := f2
  have f3 : (0 : Int) ≤ ρ 33 + -ρ 30 + (-1) := f3
  have f4 : (0 : Int) ≤ ρ 35 + -ρ 28 := f4
  have f5 : (0 : Int) ≤ -ρ 32 + ρ 26 + 1 := f5
  have f6 : (0 : Int) ≤ ρ 30 + -ρ 25 := f6
  have f7 : (0 : Int) ≤ -ρ 30 + ρ 6 + (-1) := f7
  have f8 : (0 : Int) ≤ -ρ 25 + ρ 6 + (-1) := f8
  have f9 : (0 : Int) ≤ ρ 25 + -ρ 21 + (-1) := f9
  have f10 : (0 : Int) ≤ ρ 28 + -ρ 15 := f10
  have f11 : (0 : Int) ≤ -ρ 21 + ρ 6 + (-1) := f11
  have f12 : (0 : Int) ≤ ρ 24 + -ρ 23 + (-1) := f12
  have f13 : (0 : Int) ≤ ρ 24 + -ρ 14 := f13
  have f14 : (0 : Int) ≤ -ρ 23 + ρ 14 := f14
  have f15 : (0 : Int) ≤ ρ 6 + -ρ 5 + (-1) := f15
  have f16 : (0 : Int) ≤ ρ 21 + -ρ 5 + (-1) := f16
  have f17 : (0 : Int) ≤ -ρ 21 + ρ 6 := f17
  obtain ⟨m0, m1, m2, m3, m4, m5, m6, m7, m8, m9, m10, m11, m12, m13, m14, m15, m16, m17, m18, m19, m20, m21, m22, m23, m24, m25, m26, m27, m28, m29, m30, m31, m32, m33, m34, m35, m36, m37, m38, m39, m40, m41, m42, -⟩ := hm
  have m0 : γ 0 1 0 10 = ρ 2 := m0
  have m1 : γ 0 40 0 (ρ 2) = ρ 3 := m1
  have m2 : γ 0 9 (ρ 3) 2 = ρ 4 := m2
  have m3 : γ 0 2 0 6 = ρ 5 := m3
  have m4 : γ 0 2 0 3 = ρ 6 := m4
  have m5 : γ 0 10 (ρ 4 + 9 * ρ 3 + 1) 4 = ρ 7 := m5
  have m6 : γ 0 10 (ρ 4 + 9 * ρ 3 + 1) 11 = ρ 8 := m6
  have m7 : γ 0 10 (9 * ρ 3) 8 = ρ 9 := m7
  have m8 : γ 0 10 (9 * ρ 3) 12 = ρ 10 := m8
  have m9 : γ 0 2 0 4 = ρ 11 := m9
  have m10 : γ 0 2 0 5 = ρ 12 := m10
  have m11 : γ 0 2 0 9 = ρ 13 := m11
  have m12 : γ 0 2 0 13 = ρ 14 := m12
  have m13 : γ 0 3 0 1 = ρ 15 := m13
  have m14 : γ 0 10 (ρ 4 + 9 * ρ 3 + 1) 5 = ρ 16 := m14
  have m15 : γ 0 10 (ρ 4 + 9 * ρ 3 + 1) 7 = ρ 17 := m15
  have m16 : γ 0 10 (ρ 4 + 9 * ρ 3 + 1) 8 = ρ 18 := m16
  have m17 : γ 0 10 (ρ 4 + 9 * ρ 3 + 1) 9 = ρ 19 := m17
  have m18 : γ 0 10 (ρ 4 + 9 * ρ 3 + 1) 12 = ρ 20 := m18
  have m19 : γ 1 2 0 6 = ρ 21 := m19
  have m20 : γ 1 2 0 4 = ρ 11 := m20
  have m21 : γ 1 2 0 9 = ρ 5 := m21
  have m22 : γ 1 2 0 8 = ρ 22 := m22
  have m23 : γ 2 10 (9 * ρ 3) 8 = ρ 9 := m23
  have m24 : γ 2 10 (9 * ρ 3) 12 = ρ 10 := m24
  have m25 : γ 2 10 (ρ 4 + 9 * ρ 3 + 1) 4 = 6 := m25
  have m26 : γ 2 10 (ρ 4 + 9 * ρ 3 + 1) 5 = 0 := m26
  have m27 : γ 2 10 (ρ 4 + 9 * ρ 3 + 1) 7 = ρ 1 := m27
  have m28 : γ 2 10 (ρ 4 + 9 * ρ 3 + 1) 8 = (-1) := m28
  have m29 : γ 2 10 (ρ 4 + 9 * ρ 3 + 1) 9 = (-1) := m29
  have m30 : γ 2 10 (ρ 4 + 9 * ρ 3 + 1) 12 = 0 := m30
  have m31 : γ 3 2 0 13 = ρ 24 := m31
  have m32 : γ 6 2 0 6 = ρ 25 := m32
  have m33 : γ 6 10 (ρ 4 + 9 * ρ 3 + 1) 5 = ρ 26 := m33
  have m34 : γ 6 2 0 4 = ρ 11 := m34
  have m35 : γ 6 2 0 9 = ρ 27 := m35
  have m36 : γ 6 3 0 1 = ρ 28 := m36
  have m37 : γ 7 2 0 6 = ρ 30 := m37
  have m38 : γ 10 2 0 6 = ρ 31 := m38
  have m39 : γ 10 10 (ρ 4 + 9 * ρ 3 + 1) 5 = ρ 32 := m39
  have m40 : γ 10 2 0 4 = ρ 33 := m40
  have m41 : γ 10 2 0 9 = ρ 34 := m41
  have m42 : γ 10 3 0 1 = ρ 35 := m42
  obtain ⟨⟨⟨⟨⟨⟨⟨⟨⟨⟨-, c1⟩, c2⟩, c3⟩, c4⟩, c5⟩, c6⟩, c7⟩, c8⟩, c9⟩, c10⟩ := hc
  have c1 : ∀ (G : Nat) (k j : Int), ¬ rMdP m78_ G j → γ 1 G k j = γ 0 G k j := c1
  have c2 : ∀ (G : Nat) (k j : Int), ¬ rMdP m70_ G j → γ 2 G k j = γ 1 G k j := c2
  have c3 : ∀ (G : Nat) (k j : Int), ¬ rMdP m82_ G j → γ 3 G k j = γ 2 G k j := c3
  have c4 : γ 4 = rUp (γ 3) 10 (ρ 4 + 9 * ρ 3 + 1) 11 (ρ 23) := c4
  have c5 : ∀ (G : Nat) (k j : Int), ¬ rMdP m0_ G j → γ 5 G k j = γ 4 G k j := c5
  have c6 : ∀ (G : Nat) (k j : Int), ¬ rMdP m92_ G j → γ 6 G k j = γ 5 G k j := c6
  have c7 : ∀ (G : Nat) (k j : Int), ¬ rMdP m77_ G j → γ 7 G k j = γ 6 G k j := c7
  have c8 : γ 8 = rUp (γ 7) 2 0 6 (ρ 30 + 1) := c8
  have c9 : γ 9 = rUp (γ 8) 10 (ρ 4 + 9 * ρ 3 + 1) 4 6 := c9
  have c10 : ∀ (G : Nat) (k j : Int), ¬ rMdP m92_ G j → γ 10 G k j = γ 9 G k j := c10
  obtain ⟨l0, l1, l2, l3, l4, l5, l6, -⟩ := hl
  have l0 : sn115 [ρ 5, ρ 6, ρ 11, ρ 13] (γ 0) 0 1 (γ 1) := hS115 _ _ _ _ _ l0
  have l1 : sn103 [6, 0, ρ 1, ρ 2, ρ 3, ρ 4, ρ 9, ρ 10, ρ 7, ρ 16, ρ 17, ρ 18, ρ 19, ρ 20] (γ 1) 0 0 (γ 2) := hS103 _ _ _ _ _ l1
  have l2 : sn120 [ρ 0, ρ 14] (γ 2) 0 (ρ 23) (γ 3) := hS120 _ _ _ _ _ l2
  have l3 : sn117 [ρ 23, ρ 12] (γ 4) 0 0 (γ 5) := hS117 _ _ _ _ _ l3
  have l4 : sn139 [ρ 4 + 9 * ρ 3 + 1, ρ 21, ρ 6, 0, ρ 11, ρ 12, ρ 5, ρ 24, ρ 15] (γ 5) 0 1 (γ 6) := hS139 _ _ _ _ _ l4
  have l5 : sn114 [ρ 25, ρ 6] (γ 6) 0 (ρ 29) (γ 7) := hS114 _ _ _ _ _ l5
  have l6 : sn139 [ρ 4 + 9 * ρ 3 + 1, ρ 30 + 1, ρ 6, ρ 26, ρ 11, ρ 12, ρ 27, ρ 24, ρ 28] (γ 9) 0 0 (γ 10) := hS139 _ _ _ _ _ l6
  show sn156 [ρ 0, ρ 1, ρ 2, ρ 3, ρ 4, ρ 5, ρ 6, ρ 7, ρ 8, ρ 9, ρ 10, ρ 11, ρ 12, ρ 13, ρ 14, ρ 15, ρ 16, ρ 17, ρ 18, ρ 19, ρ 20] (γ 0) 0 0 (γ 10)
  refine Eq.symm ?_
  show fn156 [ρ 0, ρ 1] (γ 0) = _
  unfold fn156
  refine (zLet_eq (show _ = ρ 0 from rfl)).trans ?_
  refine (zLet_eq (show _ = ρ 1 from rfl)).trans ?_
  refine (zLet_eq m0).trans ?_
  refine (zLet_eq m1).trans ?_
  refine (zLet_eq m2).trans ?_
  refine (zLet_eq m3).trans ?_
  refine (zLet_eq m10).trans ?_
  refine (zLet_eq (show fn115 [] (γ 0) = (0, 1, γ 1) from l0.symm)).trans ?_
  refine (zLet_eq (show _ = γ 1 from rfl)).trans ?_
  refine (if_pos (show (1 : Int) ≤ 1 by omega)).trans ?_
  refine (zLet_eq m22).trans ?_
  refine (if_pos (show ρ 22 = 361 by omega)).trans ?_
  refine (zLet_eq (show fn103 [6, 0, ρ 1] (γ 1) = (0, 0, γ 2) from l1.symm)).trans ?_
  refine (zLet_eq (show _ = γ 2 from rfl)).trans ?_
  refine (zLet_eq (show fn120 [ρ 0] (γ 2) = (0, ρ 23, γ 3) from l2.symm)).trans ?_
  refine (zLet_eq (show _ = γ 3 from rfl)).trans ?_
  refine (zLet_eq (show _ = ρ 23 from rfl)).trans ?_
  refine (zLet_eq c4.symm).trans ?_
  refine (if_neg (show ¬ (ρ 23 < 0) by omega)).trans ?_
  refine (zLet_eq (show fn117 [ρ 23] (γ 4) = (0, 0, γ 5) from l3.symm)).trans ?_
  refine (zLet_eq (show _ = γ 5 from rfl)).trans ?_
  refine (if_neg (show ¬ ((1 : Int) ≤ 0) by omega)).trans ?_
  refine (zLet_eq (show fn139 [ρ 4 + 9 * ρ 3 + 1] (γ 5) = (0, 1, γ 6) from l4.symm)).trans ?_
  refine (zLet_eq (show _ = γ 6 from rfl)).trans ?_
  refine (if_pos (show (1 : Int) ≤ 1 by omega)).trans ?_
  refine (zLet_eq (show fn114 [] (γ 6) = (0, ρ 29, γ 7) from l5.symm)).trans ?_
  refine (zLet_eq (show _ = γ 7 from rfl)).trans ?_
  refine (if_pos (show (0 : Int) ≤ ρ 29 by omega)).trans ?_
  refine (zLet_eq (show _ = ρ 29 from rfl)).trans ?_
  refine (zLet_eq m37).trans ?_
  refine (if_pos (show ρ 29 = 43 by omega)).trans ?_
  refine (zLet_eq c8.symm).trans ?_
  refine (zLet_eq c9.symm).trans ?_
  refine (zLet_eq (show fn139 [ρ 4 + 9 * ρ 3 + 1] (γ 9) = (0, 0, γ 10) from l6.symm)).trans ?_
  refine (zLet_eq (show _ = γ 10 from rfl)).trans ?_
  refine (if_neg (show ¬ ((1 : Int) ≤ 0) by omega)).trans ?_
  rfl
theorem vn156_5 {S : Nat → zSpc} (hS103 : ∀ x g o v gz, S 103 x g o v gz → sn103 x g o v gz) (hS109 : ∀ x g o v gz, S 109 x g o v gz → sn109 x g o v gz) (hS114 : ∀ x g o v gz, S 114 x g o v gz → sn114 x g o v gz) (hS115 : ∀ x g o v gz, S 115 x g o v gz → sn115 x g o v gz) (hS117 : ∀ x g o v gz, S 117 x g o v gz → sn117 x g o v gz) (hS120 : ∀ x g o v gz, S 120 x g o v gz → sn120 x g o v gz) (hS139 : ∀ x g o v gz, S 139 x g o v gz → sn139 x g o v gz) {a : List Int} {g : rHp} : ∀ (ρ : Nat → Int) (γ : Nat → rHp), zO 21 S a g q156_5 ρ γ → zGl (fun _ _ _ => True) (sn156 a g) q156_5 ρ γ := by
  intro ρ γ h
  obtain ⟨ha, hg, hr, hf, hm, hc, hl⟩ := h
  have ha : a = [ρ 0, ρ 1, ρ 2, ρ 3, ρ 4, ρ 5, ρ 6, ρ 7, ρ 8, ρ 9, ρ 10, ρ 11, ρ 12, ρ 13, ρ 14, ρ 15, ρ 16, ρ 17, ρ 18, ρ 19, ρ 20] := ha
  subst ha
  subst hg
  obtain ⟨r0, r1, r2, r3, r4, r5, r6, r7, r8, r9, r10, r11, r12, r13, r14, r15, r16, r17, r18, r19, r20, r21, r22, r23, r24, r25, r26, r27, r28, r29, r30, r31, r32, r33, r34, r35, r36, -⟩ := hr
  have r0 : ((-9223372036854775808) : Int) ≤ ρ 0 ∧ ρ 0 ≤ 9223372036854775807 := r0
  have r1 : ((-2147483648) : Int) ≤ ρ 1 ∧ ρ 1 ≤ 2147483647 := r1
  have r2 : (0 : Int) ≤ ρ 2 ∧ ρ 2 ≤ 60 := r2
  have r3 : (0 : Int) ≤ ρ 3 ∧ ρ 3 ≤ 60 := r3
  have r4 : (0 : Int) ≤ ρ 4 ∧ ρ 4 ≤ 7 := r4
  have r5 : (0 : Int) ≤ ρ 5 ∧ ρ 5 ≤ 1999 := r5
  have r6 : (0 : Int) ≤ ρ 6 ∧ ρ 6 ≤ 2000 := r6
  have r7 : (0 : Int) ≤ ρ 7 ∧ ρ 7 ≤ 8 := r7
  have r8 : ((-1) : Int) ≤ ρ 8 ∧ ρ 8 ≤ 7 := r8
  have r9 : ((-1) : Int) ≤ ρ 9 ∧ ρ 9 ≤ 19 := r9
  have r10 : (0 : Int) ≤ ρ 10 ∧ ρ 10 ≤ 4 := r10
  have r11 : ((-2147483648) : Int) ≤ ρ 11 ∧ ρ 11 ≤ 2147483647 := r11
  have r12 : ((-2147483648) : Int) ≤ ρ 12 ∧ ρ 12 ≤ 2147483647 := r12
  have r13 : ((-2147483648) : Int) ≤ ρ 13 ∧ ρ 13 ≤ 2147483647 := r13
  have r14 : (0 : Int) ≤ ρ 14 ∧ ρ 14 ≤ 8 := r14
  have r15 : (0 : Int) ≤ ρ 15 ∧ ρ 15 ≤ 5120 := r15
  have r16 : (0 : Int) ≤ ρ 16 ∧ ρ 16 ≤ 4 := r16
  have r17 : ((-2147483648) : Int) ≤ ρ 17 ∧ ρ 17 ≤ 2147483647 := r17
  have r18 : ((-1) : Int) ≤ ρ 18 ∧ ρ 18 ≤ 19 := r18
  have r19 : ((-1) : Int) ≤ ρ 19 ∧ ρ 19 ≤ 3 := r19
  have r20 : (0 : Int) ≤ ρ 20 ∧ ρ 20 ≤ 4 := r20
  have r21 : (1 : Int) ≤ ρ 21 ∧ ρ 21 ≤ 2000 := r21
  have r22 : (361 : Int) ≤ ρ 22 ∧ ρ 22 ≤ 361 := r22
  have r23 : (0 : Int) ≤ ρ 23 ∧ ρ 23 ≤ 7 := r23
  have r24 : (1 : Int) ≤ ρ 24 ∧ ρ 24 ≤ 8 := r24
  have r25 : (1 : Int) ≤ ρ 25 ∧ ρ 25 ≤ 2000 := r25
  have r26 : (1 : Int) ≤ ρ 26 ∧ ρ 26 ≤ 1 := r26
  have r27 : ((-2147483648) : Int) ≤ ρ 27 ∧ ρ 27 ≤ 2147483647 := r27
  have r28 : (0 : Int) ≤ ρ 28 ∧ ρ 28 ≤ 5120 := r28
  have r29 : (43 : Int) ≤ ρ 29 ∧ ρ 29 ≤ 43 := r29
  have r30 : (0 : Int) ≤ ρ 30 ∧ ρ 30 ≤ 2000 := r30
  have r31 : (1 : Int) ≤ ρ 31 ∧ ρ 31 ≤ 2000 := r31
  have r32 : (1 : Int) ≤ ρ 32 ∧ ρ 32 ≤ 4 := r32
  have r33 : ((-2147483648) : Int) ≤ ρ 33 ∧ ρ 33 ≤ 2147483647 := r33
  have r34 : (0 : Int) ≤ ρ 34 ∧ ρ 34 ≤ 5120 := r34
  have r35 : ((-2147483648) : Int) ≤ ρ 35 ∧ ρ 35 ≤ 2147483647 := r35
  have r36 : ((-2147483648) : Int) ≤ ρ 36 ∧ ρ 36 ≤ 2147483647 := r36
  obtain ⟨f0, f1, f2, f3, f4, f5, f6, f7, f8, f9, f10, f11, f12, f13, f14, f15, -⟩ := hf
  have f0 : (0 : Int) ≤ ρ 31 + -ρ 30 + (-2) := f0
  have f1 : (0 : Int) ≤ ρ 34 + -ρ 28 := f1
  have f2 : (0 : Int) ≤ -ρ 30 + ρ 6 + (-2) := f2
  have f3 : (0 : Int) ≤ -ρ 32 + ρ 26 + 1 := f3
  have f4 : (0 : Int) ≤ ρ 30 + -ρ 25 := f4
  have f5 : (0 : Int) ≤ -ρ 30 + ρ 6 + (-1) := f5
  have f6 : (0 : Int) ≤ -ρ 25 + ρ 6 + (-1) := f6
  have f7 : (0 : Int) ≤ ρ 25 + -ρ 21 + (-1) := f7
  have f8 : (0 : Int) ≤ ρ 28 + -ρ 15 := f8
  have f9 : (0 : Int) ≤ -ρ 21 + ρ 6 + (-1) := f9
  have f10 : (0 : Int) ≤ ρ 24 + -ρ 23 + (-1) := f10
  have f11 : (0 : Int) ≤ ρ 24 + -ρ 14 := f11
  have f12 : (0 : Int) ≤ -ρ 23 + ρ 14 := f12
  have f13 : (0 : Int) ≤ ρ 6 + -ρ 5 + (-1) := f13
  have f14 : (0 : Int) ≤ ρ 21 + -ρ 5 + (-1) := f14
  have f15 : (0 : Int) ≤ -ρ 21 + ρ 6 := f15
  obtain ⟨m0, m1, m2, m3, m4, m5, m6, m7, m8, m9, m10, m11, m12, m13, m14, m15, m16, m17, m18, m19, m20, m21, m22, m23, m24, m25, m26, m27, m28, m29, m30, m31, m32, m33, m34, m35, m36, m37, m38, m39, m40, m41, m42, -⟩ := hm
  have m0 : γ 0 1 0 10 = ρ 2 := m0
  have m1 : γ 0 40 0 (ρ 2) = ρ 3 := m1
  have m2 : γ 0 9 (ρ 3) 2 = ρ 4 := m2
  have m3 : γ 0 2 0 6 = ρ 5 := m3
  have m4 : γ 0 2 0 3 = ρ 6 := m4
  have m5 : γ 0 10 (ρ 4 + 9 * ρ 3 + 1) 4 = ρ 7 := m5
  have m6 : γ 0 10 (ρ 4 + 9 * ρ 3 + 1) 11 = ρ 8 := m6
  have m7 : γ 0 10 (9 * ρ 3) 8 = ρ 9 := m7
  have m8 : γ 0 10 (9 * ρ 3) 12 = ρ 10 := m8
  have m9 : γ 0 2 0 4 = ρ 11 := m9
  have m10 : γ 0 2 0 5 = ρ 12 := m10
  have m11 : γ 0 2 0 9 = ρ 13 := m11
  have m12 : γ 0 2 0 13 = ρ 14 := m12
  have m13 : γ 0 3 0 1 = ρ 15 := m13
  have m14 : γ 0 10 (ρ 4 + 9 * ρ 3 + 1) 5 = ρ 16 := m14
  have m15 : γ 0 10 (ρ 4 + 9 * ρ 3 + 1) 7 = ρ 17 := m15
  have m16 : γ 0 10 (ρ 4 + 9 * ρ 3 + 1) 8 = ρ 18 := m16
  have m17 : γ 0 10 (ρ 4 + 9 * ρ 3 + 1) 9 = ρ 19 := m17
  have m18 : γ 0 10 (ρ 4 + 9 * ρ 3 + 1) 12 = ρ 20 := m18
  have m19 : γ 1 2 0 6 = ρ 21 := m19
  have m20 : γ 1 2 0 4 = ρ 11 := m20
  have m21 : γ 1 2 0 9 = ρ 5 := m21
  have m22 : γ 1 2 0 8 = ρ 22 := m22
  have m23 : γ 2 10 (9 * ρ 3) 8 = ρ 9 := m23
  have m24 : γ 2 10 (9 * ρ 3) 12 = ρ 10 := m24
  have m25 : γ 2 10 (ρ 4 + 9 * ρ 3 + 1) 4 = 6 := m25
  have m26 : γ 2 10 (ρ 4 + 9 * ρ 3 + 1) 5 = 0 := m26
  have m27 : γ 2 10 (ρ 4 + 9 * ρ 3 + 1) 7 = ρ 1 := m27
  have m28 : γ 2 10 (ρ 4 + 9 * ρ 3 + 1) 8 = (-1) := m28
  have m29 : γ 2 10 (ρ 4 + 9 * ρ 3 + 1) 9 = (-1) := m29
  have m30 : γ 2 10 (ρ 4 + 9 * ρ 3 + 1) 12 = 0 := m30
  have m31 : γ 3 2 0 13 = ρ 24 := m31
  have m32 : γ 6 2 0 6 = ρ 25 := m32
  have m33 : γ 6 10 (ρ 4 + 9 * ρ 3 + 1) 5 = ρ 26 := m33
  have m34 : γ 6 2 0 4 = ρ 11 := m34
  have m35 : γ 6 2 0 9 = ρ 27 := m35
  have m36 : γ 6 3 0 1 = ρ 28 := m36
  have m37 : γ 7 2 0 6 = ρ 30 := m37
  have m38 : γ 10 2 0 6 = ρ 31 := m38
  have m39 : γ 10 10 (ρ 4 + 9 * ρ 3 + 1) 5 = ρ 32 := m39
  have m40 : γ 10 2 0 4 = ρ 11 := m40
  have m41 : γ 10 2 0 9 = ρ 33 := m41
  have m42 : γ 10 3 0 1 = ρ 34 := m42
  obtain ⟨⟨⟨⟨⟨⟨⟨⟨⟨⟨⟨-, c1⟩, c2⟩, c3⟩, c4⟩, c5⟩, c6⟩, c7⟩, c8⟩, c9⟩, c10⟩, c11⟩ := hc
  have c1 : ∀ (G : Nat) (k j : Int), ¬ rMdP m78_ G j → γ 1 G k j = γ 0 G k j := c1
  have c2 : ∀ (G : Nat) (k j : Int), ¬ rMdP m70_ G j → γ 2 G k j = γ 1 G k j := c2
  have c3 : ∀ (G : Nat) (k j : Int), ¬ rMdP m82_ G j → γ 3 G k j = γ 2 G k j := c3
  have c4 : γ 4 = rUp (γ 3) 10 (ρ 4 + 9 * ρ 3 + 1) 11 (ρ 23) := c4
  have c5 : ∀ (G : Nat) (k j : Int), ¬ rMdP m0_ G j → γ 5 G k j = γ 4 G k j := c5
  have c6 : ∀ (G : Nat) (k j : Int), ¬ rMdP m92_ G j → γ 6 G k j = γ 5 G k j := c6
  have c7 : ∀ (G : Nat) (k j : Int), ¬ rMdP m77_ G j → γ 7 G k j = γ 6 G k j := c7
  have c8 : γ 8 = rUp (γ 7) 2 0 6 (ρ 30 + 1) := c8
  have c9 : γ 9 = rUp (γ 8) 10 (ρ 4 + 9 * ρ 3 + 1) 4 6 := c9
  have c10 : ∀ (G : Nat) (k j : Int), ¬ rMdP m92_ G j → γ 10 G k j = γ 9 G k j := c10
  have c11 : γ 11 = rUp (γ 10) 2 0 5 (ρ 36) := c11
  obtain ⟨l0, l1, l2, l3, l4, l5, l6, l7, l8, -⟩ := hl
  have l0 : sn115 [ρ 5, ρ 6, ρ 11, ρ 13] (γ 0) 0 1 (γ 1) := hS115 _ _ _ _ _ l0
  have l1 : sn103 [6, 0, ρ 1, ρ 2, ρ 3, ρ 4, ρ 9, ρ 10, ρ 7, ρ 16, ρ 17, ρ 18, ρ 19, ρ 20] (γ 1) 0 0 (γ 2) := hS103 _ _ _ _ _ l1
  have l2 : sn120 [ρ 0, ρ 14] (γ 2) 0 (ρ 23) (γ 3) := hS120 _ _ _ _ _ l2
  have l3 : sn117 [ρ 23, ρ 12] (γ 4) 0 0 (γ 5) := hS117 _ _ _ _ _ l3
  have l4 : sn139 [ρ 4 + 9 * ρ 3 + 1, ρ 21, ρ 6, 0, ρ 11, ρ 12, ρ 5, ρ 24, ρ 15] (γ 5) 0 1 (γ 6) := hS139 _ _ _ _ _ l4
  have l5 : sn114 [ρ 25, ρ 6] (γ 6) 0 (ρ 29) (γ 7) := hS114 _ _ _ _ _ l5
  have l6 : sn139 [ρ 4 + 9 * ρ 3 + 1, ρ 30 + 1, ρ 6, ρ 26, ρ 11, ρ 12, ρ 27, ρ 24, ρ 28] (γ 9) 0 1 (γ 10) := hS139 _ _ _ _ _ l6
  have l7 : zOpP (.ishl) (γ 0) (γ 1) [1, ρ 23] (ρ 35) := l7
  have l8 : zOpP (.ior) (γ 0) (γ 1) [ρ 12, ρ 35] (ρ 36) := l8
  show sn156 [ρ 0, ρ 1, ρ 2, ρ 3, ρ 4, ρ 5, ρ 6, ρ 7, ρ 8, ρ 9, ρ 10, ρ 11, ρ 12, ρ 13, ρ 14, ρ 15, ρ 16, ρ 17, ρ 18, ρ 19, ρ 20] (γ 0) 0 1 (γ 11)
  refine Eq.symm ?_
  show fn156 [ρ 0, ρ 1] (γ 0) = _
  unfold fn156
  refine (zLet_eq (show _ = ρ 0 from rfl)).trans ?_
  refine (zLet_eq (show _ = ρ 1 from rfl)).trans ?_
  refine (zLet_eq m0).trans ?_
  refine (zLet_eq m1).trans ?_
  refine (zLet_eq m2).trans ?_
  refine (zLet_eq m3).trans ?_
  refine (zLet_eq m10).trans ?_
  refine (zLet_eq (show fn115 [] (γ 0) = (0, 1, γ 1) from l0.symm)).trans ?_
  refine (zLet_eq (show _ = γ 1 from rfl)).trans ?_
  refine (if_pos (show (1 : Int) ≤ 1 by omega)).trans ?_
  refine (zLet_eq m22).trans ?_
  refine (if_pos (show ρ 22 = 361 by omega)).trans ?_
  refine (zLet_eq (show fn103 [6, 0, ρ 1] (γ 1) = (0, 0, γ 2) from l1.symm)).trans ?_
  refine (zLet_eq (show _ = γ 2 from rfl)).trans ?_
  refine (zLet_eq (show fn120 [ρ 0] (γ 2) = (0, ρ 23, γ 3) from l2.symm)).trans ?_
  refine (zLet_eq (show _ = γ 3 from rfl)).trans ?_
  refine (zLet_eq (show _ = ρ 23 from rfl)).trans ?_
  refine (zLet_eq c4.symm).trans ?_
  refine (if_neg (show ¬ (ρ 23 < 0) by omega)).trans ?_
  refine (zLet_eq (show fn117 [ρ 23] (γ 4) = (0, 0, γ 5) from l3.symm)).trans ?_
  refine (zLet_eq (show _ = γ 5 from rfl)).trans ?_
  refine (if_neg (show ¬ ((1 : Int) ≤ 0) by omega)).trans ?_
  refine (zLet_eq (show fn139 [ρ 4 + 9 * ρ 3 + 1] (γ 5) = (0, 1, γ 6) from l4.symm)).trans ?_
  refine (zLet_eq (show _ = γ 6 from rfl)).trans ?_
  refine (if_pos (show (1 : Int) ≤ 1 by omega)).trans ?_
  refine (zLet_eq (show fn114 [] (γ 6) = (0, ρ 29, γ 7) from l5.symm)).trans ?_
  refine (zLet_eq (show _ = γ 7 from rfl)).trans ?_
  refine (if_pos (show (0 : Int) ≤ ρ 29 by omega)).trans ?_
  refine (zLet_eq (show _ = ρ 29 from rfl)).trans ?_
  refine (zLet_eq m37).trans ?_
  refine (if_pos (show ρ 29 = 43 by omega)).trans ?_
  refine (zLet_eq c8.symm).trans ?_
  refine (zLet_eq c9.symm).trans ?_
  refine (zLet_eq (show fn139 [ρ 4 + 9 * ρ 3 + 1] (γ 9) = (0, 1, γ 10) from l6.symm)).trans ?_
  refine (zLet_eq (show _ = γ 10 from rfl)).trans ?_
  refine (if_pos (show (1 : Int) ≤ 1 by omega)).trans ?_
  refine (zLet_eq (zF2_ok l7)).trans ?_
  refine (zLet_eq (zF2_ok l8)).trans ?_
  refine (zLet_eq c11.symm).trans ?_
  rfl
theorem vn156_6 {S : Nat → zSpc} (hS103 : ∀ x g o v gz, S 103 x g o v gz → sn103 x g o v gz) (hS109 : ∀ x g o v gz, S 109 x g o v gz → sn109 x g o v gz) (hS114 : ∀ x g o v gz, S 114 x g o v gz → sn114 x g o v gz) (hS115 : ∀ x g o v gz, S 115 x g o v gz → sn115 x g o v gz) (hS117 : ∀ x g o v gz, S 117 x g o v gz → sn117 x g o v gz) (hS120 : ∀ x g o v gz, S 120 x g o v gz → sn120 x g o v gz) (hS139 : ∀ x g o v gz, S 139 x g o v gz → sn139 x g o v gz) {a : List Int} {g : rHp} : ∀ (ρ : Nat → Int) (γ : Nat → rHp), zO 21 S a g q156_6 ρ γ → zGl (fun _ _ _ => True) (sn156 a g) q156_6 ρ γ := by
  intro ρ γ h
  obtain ⟨ha, hg, hr, hf, hm, hc, hl⟩ := h
  have ha : a = [ρ 0, ρ 1, ρ 2, ρ 3, ρ 4, ρ 5, ρ 6, ρ 7, ρ 8, ρ 9, ρ 10, ρ 11, ρ 12, ρ 13, ρ 14, ρ 15, ρ 16, ρ 17, ρ 18, ρ 19, ρ 20] := ha
  subst ha
  subst hg
  obtain ⟨r0, r1, r2, r3, r4, r5, r6, r7, r8, r9, r10, r11, r12, r13, r14, r15, r16, r17, r18, r19, r20, r21, r22, r23, r24, r25, r26, r27, r28, r29, r30, r31, r32, r33, r34, r35, -⟩ := hr
  have r0 : ((-9223372036854775808) : Int) ≤ ρ 0 ∧ ρ 0 ≤ 9223372036854775807 := r0
  have r1 : ((-2147483648) : Int) ≤ ρ 1 ∧ ρ 1 ≤ 2147483647 := r1
  have r2 : (0 : Int) ≤ ρ 2 ∧ ρ 2 ≤ 60 := r2
  have r3 : (0 : Int) ≤ ρ 3 ∧ ρ 3 ≤ 60 := r3
  have r4 : (0 : Int) ≤ ρ 4 ∧ ρ 4 ≤ 7 := r4
  have r5 : (0 : Int) ≤ ρ 5 ∧ ρ 5 ≤ 1999 := r5
  have r6 : (0 : Int) ≤ ρ 6 ∧ ρ 6 ≤ 2000 := r6
  have r7 : (0 : Int) ≤ ρ 7 ∧ ρ 7 ≤ 8 := r7
  have r8 : ((-1) : Int) ≤ ρ 8 ∧ ρ 8 ≤ 7 := r8
  have r9 : ((-1) : Int) ≤ ρ 9 ∧ ρ 9 ≤ 19 := r9
  have r10 : (0 : Int) ≤ ρ 10 ∧ ρ 10 ≤ 4 := r10
  have r11 : ((-2147483648) : Int) ≤ ρ 11 ∧ ρ 11 ≤ 2147483647 := r11
  have r12 : ((-2147483648) : Int) ≤ ρ 12 ∧ ρ 12 ≤ 2147483647 := r12
  have r13 : ((-2147483648) : Int) ≤ ρ 13 ∧ ρ 13 ≤ 2147483647 := r13
  have r14 : (0 : Int) ≤ ρ 14 ∧ ρ 14 ≤ 8 := r14
  have r15 : (0 : Int) ≤ ρ 15 ∧ ρ 15 ≤ 5120 := r15
  have r16 : (0 : Int) ≤ ρ 16 ∧ ρ 16 ≤ 4 := r16
  have r17 : ((-2147483648) : Int) ≤ ρ 17 ∧ ρ 17 ≤ 2147483647 := r17
  have r18 : ((-1) : Int) ≤ ρ 18 ∧ ρ 18 ≤ 19 := r18
  have r19 : ((-1) : Int) ≤ ρ 19 ∧ ρ 19 ≤ 3 := r19
  have r20 : (0 : Int) ≤ ρ 20 ∧ ρ 20 ≤ 4 := r20
  have r21 : (1 : Int) ≤ ρ 21 ∧ ρ 21 ≤ 2000 := r21
  have r22 : (361 : Int) ≤ ρ 22 ∧ ρ 22 ≤ 361 := r22
  have r23 : (0 : Int) ≤ ρ 23 ∧ ρ 23 ≤ 7 := r23
  have r24 : (1 : Int) ≤ ρ 24 ∧ ρ 24 ≤ 8 := r24
  have r25 : (1 : Int) ≤ ρ 25 ∧ ρ 25 ≤ 2000 := r25
  have r26 : (1 : Int) ≤ ρ 26 ∧ ρ 26 ≤ 1 := r26
  have r27 : ((-2147483648) : Int) ≤ ρ 27 ∧ ρ 27 ≤ 2147483647 := r27
  have r28 : (0 : Int) ≤ ρ 28 ∧ ρ 28 ≤ 5120 := r28
  have r29 : (45 : Int) ≤ ρ 29 ∧ ρ 29 ≤ 45 := r29
  have r30 : (0 : Int) ≤ ρ 30 ∧ ρ 30 ≤ 2000 := r30
  have r31 : (0 : Int) ≤ ρ 31 ∧ ρ 31 ≤ 2000 := r31
  have r32 : (0 : Int) ≤ ρ 32 ∧ ρ 32 ≤ 4 := r32
  have r33 : (0 : Int) ≤ ρ 33 ∧ ρ 33 ≤ 2000 := r33
  have r34 : ((-2147483648) : Int) ≤ ρ 34 ∧ ρ 34 ≤ 2147483647 := r34
  have r35 : (0 : Int) ≤ ρ 35 ∧ ρ 35 ≤ 5120 := r35
  obtain ⟨f0, f1, f2, f3, f4, f5, f6, f7, f8, f9, f10, f11, f12, f13, f14, f15, f16, f17, -⟩ := hf
  have f0 : (0 : Int) ≤ -ρ 33 + ρ 31 := f0
  have f1 : (0 : Int) ≤ ρ 31 + -ρ 30 + (-1) := f1
  have f2 : (0 : Int) ≤ ρ 32 + -ρ 26 := f2
  have f3 : (0 : Int) ≤ ρ 33 + -ρ 30 + (-1) := f3
  have f4 : (0 : Int) ≤ ρ 35 + -ρ 28 := f4
  have f5 : (0 : Int) ≤ -ρ 32 + ρ 26 + 1 := f5
  have f6 : (0 : Int) ≤ ρ 30 + -ρ 25 := f6
  have f7 : (0 : Int) ≤ -ρ 30 + ρ 6 + (-1) := f7
  have f8 : (0 : Int) ≤ -ρ 25 + ρ 6 + (-1) := f8
  have f9 : (0 : Int) ≤ ρ 25 + -ρ 21 + (-1) := f9
  have f10 : (0 : Int) ≤ ρ 28 + -ρ 15 := f10
  have f11 : (0 : Int) ≤ -ρ 21 + ρ 6 + (-1) := f11
  have f12 : (0 : Int) ≤ ρ 24 + -ρ 23 + (-1) := f12
  have f13 : (0 : Int) ≤ ρ 24 + -ρ 14 := f13
  have f14 : (0 : Int) ≤ -ρ 23 + ρ 14 := f14
  have f15 : (0 : Int) ≤ ρ 6 + -ρ 5 + (-1) := f15
  have f16 : (0 : Int) ≤ ρ 21 + -ρ 5 + (-1) := f16
  have f17 : (0 : Int) ≤ -ρ 21 + ρ 6 := f17
  obtain ⟨m0, m1, m2, m3, m4, m5, m6, m7, m8, m9, m10, m11, m12, m13, m14, m15, m16, m17, m18, m19, m20, m21, m22, m23, m24, m25, m26, m27, m28, m29, m30, m31, m32, m33, m34, m35, m36, m37, m38, m39, m40, m41, m42, -⟩ := hm
  have m0 : γ 0 1 0 10 = ρ 2 := m0
  have m1 : γ 0 40 0 (ρ 2) = ρ 3 := m1
  have m2 : γ 0 9 (ρ 3) 2 = ρ 4 := m2
  have m3 : γ 0 2 0 6 = ρ 5 := m3
  have m4 : γ 0 2 0 3 = ρ 6 := m4
  have m5 : γ 0 10 (ρ 4 + 9 * ρ 3 + 1) 4 = ρ 7 := m5
  have m6 : γ 0 10 (ρ 4 + 9 * ρ 3 + 1) 11 = ρ 8 := m6
  have m7 : γ 0 10 (9 * ρ 3) 8 = ρ 9 := m7
  have m8 : γ 0 10 (9 * ρ 3) 12 = ρ 10 := m8
  have m9 : γ 0 2 0 4 = ρ 11 := m9
  have m10 : γ 0 2 0 5 = ρ 12 := m10
  have m11 : γ 0 2 0 9 = ρ 13 := m11
  have m12 : γ 0 2 0 13 = ρ 14 := m12
  have m13 : γ 0 3 0 1 = ρ 15 := m13
  have m14 : γ 0 10 (ρ 4 + 9 * ρ 3 + 1) 5 = ρ 16 := m14
  have m15 : γ 0 10 (ρ 4 + 9 * ρ 3 + 1) 7 = ρ 17 := m15
  have m16 : γ 0 10 (ρ 4 + 9 * ρ 3 + 1) 8 = ρ 18 := m16
  have m17 : γ 0 10 (ρ 4 + 9 * ρ 3 + 1) 9 = ρ 19 := m17
  have m18 : γ 0 10 (ρ 4 + 9 * ρ 3 + 1) 12 = ρ 20 := m18
  have m19 : γ 1 2 0 6 = ρ 21 := m19
  have m20 : γ 1 2 0 4 = ρ 11 := m20
  have m21 : γ 1 2 0 9 = ρ 5 := m21
  have m22 : γ 1 2 0 8 = ρ 22 := m22
  have m23 : γ 2 10 (9 * ρ 3) 8 = ρ 9 := m23
  have m24 : γ 2 10 (9 * ρ 3) 12 = ρ 10 := m24
  have m25 : γ 2 10 (ρ 4 + 9 * ρ 3 + 1) 4 = 6 := m25
  have m26 : γ 2 10 (ρ 4 + 9 * ρ 3 + 1) 5 = 0 := m26
  have m27 : γ 2 10 (ρ 4 + 9 * ρ 3 + 1) 7 = ρ 1 := m27
  have m28 : γ 2 10 (ρ 4 + 9 * ρ 3 + 1) 8 = (-1) := m28
  have m29 : γ 2 10 (ρ 4 + 9 * ρ 3 + 1) 9 = (-1) := m29
  have m30 : γ 2 10 (ρ 4 + 9 * ρ 3 + 1) 12 = 0 := m30
  have m31 : γ 3 2 0 13 = ρ 24 := m31
  have m32 : γ 6 2 0 6 = ρ 25 := m32
  have m33 : γ 6 10 (ρ 4 + 9 * ρ 3 + 1) 5 = ρ 26 := m33
  have m34 : γ 6 2 0 4 = ρ 11 := m34
  have m35 : γ 6 2 0 9 = ρ 27 := m35
  have m36 : γ 6 3 0 1 = ρ 28 := m36
  have m37 : γ 7 2 0 6 = ρ 30 := m37
  have m38 : γ 10 2 0 6 = ρ 31 := m38
  have m39 : γ 10 10 (ρ 4 + 9 * ρ 3 + 1) 5 = ρ 32 := m39
  have m40 : γ 10 2 0 4 = ρ 33 := m40
  have m41 : γ 10 2 0 9 = ρ 34 := m41
  have m42 : γ 10 3 0 1 = ρ 35 := m42
  obtain ⟨⟨⟨⟨⟨⟨⟨⟨⟨⟨-, c1⟩, c2⟩, c3⟩, c4⟩, c5⟩, c6⟩, c7⟩, c8⟩, c9⟩, c10⟩ := hc
  have c1 : ∀ (G : Nat) (k j : Int), ¬ rMdP m78_ G j → γ 1 G k j = γ 0 G k j := c1
  have c2 : ∀ (G : Nat) (k j : Int), ¬ rMdP m70_ G j → γ 2 G k j = γ 1 G k j := c2
  have c3 : ∀ (G : Nat) (k j : Int), ¬ rMdP m82_ G j → γ 3 G k j = γ 2 G k j := c3
  have c4 : γ 4 = rUp (γ 3) 10 (ρ 4 + 9 * ρ 3 + 1) 11 (ρ 23) := c4
  have c5 : ∀ (G : Nat) (k j : Int), ¬ rMdP m0_ G j → γ 5 G k j = γ 4 G k j := c5
  have c6 : ∀ (G : Nat) (k j : Int), ¬ rMdP m92_ G j → γ 6 G k j = γ 5 G k j := c6
  have c7 : ∀ (G : Nat) (k j : Int), ¬ rMdP m77_ G j → γ 7 G k j = γ 6 G k j := c7
  have c8 : γ 8 = rUp (γ 7) 2 0 6 (ρ 30 + 1) := c8
  have c9 : γ 9 = rUp (γ 8) 10 (ρ 4 + 9 * ρ 3 + 1) 4 7 := c9
  have c10 : ∀ (G : Nat) (k j : Int), ¬ rMdP m92_ G j → γ 10 G k j = γ 9 G k j := c10
  obtain ⟨l0, l1, l2, l3, l4, l5, l6, l7, -⟩ := hl
  have l0 : sn115 [ρ 5, ρ 6, ρ 11, ρ 13] (γ 0) 0 1 (γ 1) := hS115 _ _ _ _ _ l0
  have l1 : sn103 [6, 0, ρ 1, ρ 2, ρ 3, ρ 4, ρ 9, ρ 10, ρ 7, ρ 16, ρ 17, ρ 18, ρ 19, ρ 20] (γ 1) 0 0 (γ 2) := hS103 _ _ _ _ _ l1
  have l2 : sn120 [ρ 0, ρ 14] (γ 2) 0 (ρ 23) (γ 3) := hS120 _ _ _ _ _ l2
  have l3 : sn117 [ρ 23, ρ 12] (γ 4) 0 0 (γ 5) := hS117 _ _ _ _ _ l3
  have l4 : sn139 [ρ 4 + 9 * ρ 3 + 1, ρ 21, ρ 6, 0, ρ 11, ρ 12, ρ 5, ρ 24, ρ 15] (γ 5) 0 1 (γ 6) := hS139 _ _ _ _ _ l4
  have l5 : sn114 [ρ 25, ρ 6] (γ 6) 0 (ρ 29) (γ 7) := hS114 _ _ _ _ _ l5
  have l6 : ρ 29 ≠ 43 := l6
  have l7 : sn139 [ρ 4 + 9 * ρ 3 + 1, ρ 30 + 1, ρ 6, ρ 26, ρ 11, ρ 12, ρ 27, ρ 24, ρ 28] (γ 9) 0 0 (γ 10) := hS139 _ _ _ _ _ l7
  show sn156 [ρ 0, ρ 1, ρ 2, ρ 3, ρ 4, ρ 5, ρ 6, ρ 7, ρ 8, ρ 9, ρ 10, ρ 11, ρ 12, ρ 13, ρ 14, ρ 15, ρ 16, ρ 17, ρ 18, ρ 19, ρ 20] (γ 0) 0 0 (γ 10)
  refine Eq.symm ?_
  show fn156 [ρ 0, ρ 1] (γ 0) = _
  unfold fn156
  refine (zLet_eq (show _ = ρ 0 from rfl)).trans ?_
  refine (zLet_eq (show _ = ρ 1 from rfl)).trans ?_
  refine (zLet_eq m0).trans ?_
  refine (zLet_eq m1).trans ?_
  refine (zLet_eq m2).trans ?_
  refine (zLet_eq m3).trans ?_
  refine (zLet_eq m10).trans ?_
  refine (zLet_eq (show fn115 [] (γ 0) = (0, 1, γ 1) from l0.symm)).trans ?_
  refine (zLet_eq (show _ = γ 1 from rfl)).trans ?_
  refine (if_pos (show (1 : Int) ≤ 1 by omega)).trans ?_
  refine (zLet_eq m22).trans ?_
  refine (if_pos (show ρ 22 = 361 by omega)).trans ?_
  refine (zLet_eq (show fn103 [6, 0, ρ 1] (γ 1) = (0, 0, γ 2) from l1.symm)).trans ?_
  refine (zLet_eq (show _ = γ 2 from rfl)).trans ?_
  refine (zLet_eq (show fn120 [ρ 0] (γ 2) = (0, ρ 23, γ 3) from l2.symm)).trans ?_
  refine (zLet_eq (show _ = γ 3 from rfl)).trans ?_
  refine (zLet_eq (show _ = ρ 23 from rfl)).trans ?_
  refine (zLet_eq c4.symm).trans ?_
  refine (if_neg (show ¬ (ρ 23 < 0) by omega)).trans ?_
  refine (zLet_eq (show fn117 [ρ 23] (γ 4) = (0, 0, γ 5) from l3.symm)).trans ?_
  refine (zLet_eq (show _ = γ 5 from rfl)).trans ?_
  refine (if_neg (show ¬ ((1 : Int) ≤ 0) by omega)).trans ?_
  refine (zLet_eq (show fn139 [ρ 4 + 9 * ρ 3 + 1] (γ 5) = (0, 1, γ 6) from l4.symm)).trans ?_
  refine (zLet_eq (show _ = γ 6 from rfl)).trans ?_
  refine (if_pos (show (1 : Int) ≤ 1 by omega)).trans ?_
  refine (zLet_eq (show fn114 [] (γ 6) = (0, ρ 29, γ 7) from l5.symm)).trans ?_
  refine (zLet_eq (show _ = γ 7 from rfl)).trans ?_
  refine (if_pos (show (0 : Int) ≤ ρ 29 by omega)).trans ?_
  refine (zLet_eq (show _ = ρ 29 from rfl)).trans ?_
  refine (zLet_eq m37).trans ?_
  refine (if_neg (show ¬ (ρ 29 = 43) by omega)).trans ?_
  refine (if_pos (show ρ 29 = 45 by omega)).trans ?_
  refine (zLet_eq c8.symm).trans ?_
  refine (zLet_eq c9.symm).trans ?_
  refine (zLet_eq (show fn139 [ρ 4 + 9 * ρ 3 + 1] (γ 9) = (0, 0, γ 10) from l7.symm)).trans ?_
  refine (zLet_eq (show _ = γ 10 from rfl)).trans ?_
  refine (if_neg (show ¬ ((1 : Int) ≤ 0) by omega)).trans ?_
  rfl
theorem vn156_7 {S : Nat → zSpc} (hS103 : ∀ x g o v gz, S 103 x g o v gz → sn103 x g o v gz) (hS109 : ∀ x g o v gz, S 109 x g o v gz → sn109 x g o v gz) (hS114 : ∀ x g o v gz, S 114 x g o v gz → sn114 x g o v gz) (hS115 : ∀ x g o v gz, S 115 x g o v gz → sn115 x g o v gz) (hS117 : ∀ x g o v gz, S 117 x g o v gz → sn117 x g o v gz) (hS120 : ∀ x g o v gz, S 120 x g o v gz → sn120 x g o v gz) (hS139 : ∀ x g o v gz, S 139 x g o v gz → sn139 x g o v gz) {a : List Int} {g : rHp} : ∀ (ρ : Nat → Int) (γ : Nat → rHp), zO 21 S a g q156_7 ρ γ → zGl (fun _ _ _ => True) (sn156 a g) q156_7 ρ γ := by
  intro ρ γ h
  obtain ⟨ha, hg, hr, hf, hm, hc, hl⟩ := h
  have ha : a = [ρ 0, ρ 1, ρ 2, ρ 3, ρ 4, ρ 5, ρ 6, ρ 7, ρ 8, ρ 9, ρ 10, ρ 11, ρ 12, ρ 13, ρ 14, ρ 15, ρ 16, ρ 17, ρ 18, ρ 19, ρ 20] := ha
  subst ha
  subst hg
  obtain ⟨r0, r1, r2, r3, r4, r5, r6, r7, r8, r9, r10, r11, r12, r13, r14, r15, r16, r17, r18, r19, r20, r21, r22, r23, r24, r25, r26, r27, r28, r29, r30, r31, r32, r33, r34, r35, r36, -⟩ := hr
  have r0 : ((-9223372036854775808) : Int) ≤ ρ 0 ∧ ρ 0 ≤ 9223372036854775807 := r0
  have r1 : ((-2147483648) : Int) ≤ ρ 1 ∧ ρ 1 ≤ 2147483647 := r1
  have r2 : (0 : Int) ≤ ρ 2 ∧ ρ 2 ≤ 60 := r2
  have r3 : (0 : Int) ≤ ρ 3 ∧ ρ 3 ≤ 60 := r3
  have r4 : (0 : Int) ≤ ρ 4 ∧ ρ 4 ≤ 7 := r4
  have r5 : (0 : Int) ≤ ρ 5 ∧ ρ 5 ≤ 1999 := r5
  have r6 : (0 : Int) ≤ ρ 6 ∧ ρ 6 ≤ 2000 := r6
  have r7 : (0 : Int) ≤ ρ 7 ∧ ρ 7 ≤ 8 := r7
  have r8 : ((-1) : Int) ≤ ρ 8 ∧ ρ 8 ≤ 7 := r8
  have r9 : ((-1) : Int) ≤ ρ 9 ∧ ρ 9 ≤ 19 := r9
  have r10 : (0 : Int) ≤ ρ 10 ∧ ρ 10 ≤ 4 := r10
  have r11 : ((-2147483648) : Int) ≤ ρ 11 ∧ ρ 11 ≤ 2147483647 := r11
  have r12 : ((-2147483648) : Int) ≤ ρ 12 ∧ ρ 12 ≤ 2147483647 := r12
  have r13 : ((-2147483648) : Int) ≤ ρ 13 ∧ ρ 13 ≤ 2147483647 := r13
  have r14 : (0 : Int) ≤ ρ 14 ∧ ρ 14 ≤ 8 := r14
  have r15 : (0 : Int) ≤ ρ 15 ∧ ρ 15 ≤ 5120 := r15
  have r16 : (0 : Int) ≤ ρ 16 ∧ ρ 16 ≤ 4 := r16
  have r17 : ((-2147483648) : Int) ≤ ρ 17 ∧ ρ 17 ≤ 2147483647 := r17
  have r18 : ((-1) : Int) ≤ ρ 18 ∧ ρ 18 ≤ 19 := r18
  have r19 : ((-1) : Int) ≤ ρ 19 ∧ ρ 19 ≤ 3 := r19
  have r20 : (0 : Int) ≤ ρ 20 ∧ ρ 20 ≤ 4 := r20
  have r21 : (1 : Int) ≤ ρ 21 ∧ ρ 21 ≤ 2000 := r21
  have r22 : (361 : Int) ≤ ρ 22 ∧ ρ 22 ≤ 361 := r22
  have r23 : (0 : Int) ≤ ρ 23 ∧ ρ 23 ≤ 7 := r23
  have r24 : (1 : Int) ≤ ρ 24 ∧ ρ 24 ≤ 8 := r24
  have r25 : (1 : Int) ≤ ρ 25 ∧ ρ 25 ≤ 2000 := r25
  have r26 : (1 : Int) ≤ ρ 26 ∧ ρ 26 ≤ 1 := r26
  have r27 : ((-2147483648) : Int) ≤ ρ 27 ∧ ρ 27 ≤ 2147483647 := r27
  have r28 : (0 : Int) ≤ ρ 28 ∧ ρ 28 ≤ 5120 := r28
  have r29 : (45 : Int) ≤ ρ 29 ∧ ρ 29 ≤ 45 := r29
  have r30 : (0 : Int) ≤ ρ 30 ∧ ρ 30 ≤ 2000 := r30
  have r31 : (1 : Int) ≤ ρ 31 ∧ ρ 31 ≤ 2000 := r31
  have r32 : (1 : Int) ≤ ρ 32 ∧ ρ 32 ≤ 4 := r32
  have r33 : ((-2147483648) : Int) ≤ ρ 33 ∧ ρ 33 ≤ 2147483647 := r33
  have r34 : (0 : Int) ≤ ρ 34 ∧ ρ 34 ≤ 5120 := r34
  have r35 : ((-2147483648) : Int) ≤ ρ 35 ∧ ρ 35 ≤ 2147483647 := r35
  have r36 : ((-2147483648) : Int) ≤ ρ 36 ∧ ρ 36 ≤ 2147483647 := r36
  obtain ⟨f0, f1, f2, f3, f4, f5, f6, f7, f8, f9, f10, f11, f12, f13, f14, f15, -⟩ := hf
  have f0 : (0 : Int) ≤ ρ 31 + -ρ 30 + (-2) := f0
  have f1 : (0 : Int) ≤ ρ 34 + -ρ 28 := f1
  have f2 : (0 : Int) ≤ -ρ 30 + ρ 6 + (-2) := f2
  have f3 : (0 : Int) ≤ -ρ 32 + ρ 26 + 1 := f3
  have f4 : (0 : Int) ≤ ρ 30 + -ρ 25 := f4
  have f5 : (0 : Int) ≤ -ρ 30 + ρ 6 + (-1) := f5
  have f6 : (0 : Int) ≤ -ρ 25 + ρ 6 + (-1) := f6
  have f7 : (0 : Int) ≤ ρ 25 + -ρ 21 + (-1) := f7
  have f8 : (0 : Int) ≤ ρ 28 + -ρ 15 := f8
  have f9 : (0 : Int) ≤ -ρ 21 + ρ 6 + (-1) := f9
  have f10 : (0 : Int) ≤ ρ 24 + -ρ 23 + (-1) := f10
  have f11 : (0 : Int) ≤ ρ 24 + -ρ 14 := f11
  have f12 : (0 : Int) ≤ -ρ 23 + ρ 14 := f12
  have f13 : (0 : Int) ≤ ρ 6 + -ρ 5 + (-1) := f13
  have f14 : (0 : Int) ≤ ρ 21 + -ρ 5 + (-1) := f14
  have f15 : (0 : Int) ≤ -ρ 21 + ρ 6 := f15
  obtain ⟨m0, m1, m2, m3, m4, m5, m6, m7, m8, m9, m10, m11, m12, m13, m14, m15, m16, m17, m18, m19, m20, m21, m22, m23, m24, m25, m26, m27, m28, m29, m30, m31, m32, m33, m34, m35, m36, m37, m38, m39, m40, m41, m42, -⟩ := hm
  have m0 : γ 0 1 0 10 = ρ 2 := m0
  have m1 : γ 0 40 0 (ρ 2) = ρ 3 := m1
  have m2 : γ 0 9 (ρ 3) 2 = ρ 4 := m2
  have m3 : γ 0 2 0 6 = ρ 5 := m3
  have m4 : γ 0 2 0 3 = ρ 6 := m4
  have m5 : γ 0 10 (ρ 4 + 9 * ρ 3 + 1) 4 = ρ 7 := m5
  have m6 : γ 0 10 (ρ 4 + 9 * ρ 3 + 1) 11 = ρ 8 := m6
  have m7 : γ 0 10 (9 * ρ 3) 8 = ρ 9 := m7
  have m8 : γ 0 10 (9 * ρ 3) 12 = ρ 10 := m8
  have m9 : γ 0 2 0 4 = ρ 11 := m9
  have m10 : γ 0 2 0 5 = ρ 12 := m10
  have m11 : γ 0 2 0 9 = ρ 13 := m11
  have m12 : γ 0 2 0 13 = ρ 14 := m12
  have m13 : γ 0 3 0 1 = ρ 15 := m13
  have m14 : γ 0 10 (ρ 4 + 9 * ρ 3 + 1) 5 = ρ 16 := m14
  have m15 : γ 0 10 (ρ 4 + 9 * ρ 3 + 1) 7 = ρ 17 := m15
  have m16 : γ 0 10 (ρ 4 + 9 * ρ 3 + 1) 8 = ρ 18 := m16
  have m17 : γ 0 10 (ρ 4 + 9 * ρ 3 + 1) 9 = ρ 19 := m17
  have m18 : γ 0 10 (ρ 4 + 9 * ρ 3 + 1) 12 = ρ 20 := m18
  have m19 : γ 1 2 0 6 = ρ 21 := m19
  have m20 : γ 1 2 0 4 = ρ 11 := m20
  have m21 : γ 1 2 0 9 = ρ 5 := m21
  have m22 : γ 1 2 0 8 = ρ 22 := m22
  have m23 : γ 2 10 (9 * ρ 3) 8 = ρ 9 := m23
  have m24 : γ 2 10 (9 * ρ 3) 12 = ρ 10 := m24
  have m25 : γ 2 10 (ρ 4 + 9 * ρ 3 + 1) 4 = 6 := m25
  have m26 : γ 2 10 (ρ 4 + 9 * ρ 3 + 1) 5 = 0 := m26
  have m27 : γ 2 10 (ρ 4 + 9 * ρ 3 + 1) 7 = ρ 1 := m27
  have m28 : γ 2 10 (ρ 4 + 9 * ρ 3 + 1) 8 = (-1) := m28
  have m29 : γ 2 10 (ρ 4 + 9 * ρ 3 + 1) 9 = (-1) := m29
  have m30 : γ 2 10 (ρ 4 + 9 * ρ 3 + 1) 12 = 0 := m30
  have m31 : γ 3 2 0 13 = ρ 24 := m31
  have m32 : γ 6 2 0 6 = ρ 25 := m32
  have m33 : γ 6 10 (ρ 4 + 9 * ρ 3 + 1) 5 = ρ 26 := m33
  have m34 : γ 6 2 0 4 = ρ 11 := m34
  have m35 : γ 6 2 0 9 = ρ 27 := m35
  have m36 : γ 6 3 0 1 = ρ 28 := m36
  have m37 : γ 7 2 0 6 = ρ 30 := m37
  have m38 : γ 10 2 0 6 = ρ 31 := m38
  have m39 : γ 10 10 (ρ 4 + 9 * ρ 3 + 1) 5 = ρ 32 := m39
  have m40 : γ 10 2 0 4 = ρ 11 := m40
  have m41 : γ 10 2 0 9 = ρ 33 := m41
  have m42 : γ 10 3 0 1 = ρ 34 := m42
  obtain ⟨⟨⟨⟨⟨⟨⟨⟨⟨⟨⟨-, c1⟩, c2⟩, c3⟩, c4⟩, c5⟩, c6⟩, c7⟩, c8⟩, c9⟩, c10⟩, c11⟩ := hc
  have c1 : ∀ (G : Nat) (k j : Int), ¬ rMdP m78_ G j → γ 1 G k j = γ 0 G k j := c1
  have c2 : ∀ (G : Nat) (k j : Int), ¬ rMdP m70_ G j → γ 2 G k j = γ 1 G k j := c2
  have c3 : ∀ (G : Nat) (k j : Int), ¬ rMdP m82_ G j → γ 3 G k j = γ 2 G k j := c3
  have c4 : γ 4 = rUp (γ 3) 10 (ρ 4 + 9 * ρ 3 + 1) 11 (ρ 23) := c4
  have c5 : ∀ (G : Nat) (k j : Int), ¬ rMdP m0_ G j → γ 5 G k j = γ 4 G k j := c5
  have c6 : ∀ (G : Nat) (k j : Int), ¬ rMdP m92_ G j → γ 6 G k j = γ 5 G k j := c6
  have c7 : ∀ (G : Nat) (k j : Int), ¬ rMdP m77_ G j → γ 7 G k j = γ 6 G k j := c7
  have c8 : γ 8 = rUp (γ 7) 2 0 6 (ρ 30 + 1) := c8
  have c9 : γ 9 = rUp (γ 8) 10 (ρ 4 + 9 * ρ 3 + 1) 4 7 := c9
  have c10 : ∀ (G : Nat) (k j : Int), ¬ rMdP m92_ G j → γ 10 G k j = γ 9 G k j := c10
  have c11 : γ 11 = rUp (γ 10) 2 0 5 (ρ 36) := c11
  obtain ⟨l0, l1, l2, l3, l4, l5, l6, l7, l8, l9, -⟩ := hl
  have l0 : sn115 [ρ 5, ρ 6, ρ 11, ρ 13] (γ 0) 0 1 (γ 1) := hS115 _ _ _ _ _ l0
  have l1 : sn103 [6, 0, ρ 1, ρ 2, ρ 3, ρ 4, ρ 9, ρ 10, ρ 7, ρ 16, ρ 17, ρ 18, ρ 19, ρ 20] (γ 1) 0 0 (γ 2) := hS103 _ _ _ _ _ l1
  have l2 : sn120 [ρ 0, ρ 14] (γ 2) 0 (ρ 23) (γ 3) := hS120 _ _ _ _ _ l2
  have l3 : sn117 [ρ 23, ρ 12] (γ 4) 0 0 (γ 5) := hS117 _ _ _ _ _ l3
  have l4 : sn139 [ρ 4 + 9 * ρ 3 + 1, ρ 21, ρ 6, 0, ρ 11, ρ 12, ρ 5, ρ 24, ρ 15] (γ 5) 0 1 (γ 6) := hS139 _ _ _ _ _ l4
  have l5 : sn114 [ρ 25, ρ 6] (γ 6) 0 (ρ 29) (γ 7) := hS114 _ _ _ _ _ l5
  have l6 : ρ 29 ≠ 43 := l6
  have l7 : sn139 [ρ 4 + 9 * ρ 3 + 1, ρ 30 + 1, ρ 6, ρ 26, ρ 11, ρ 12, ρ 27, ρ 24, ρ 28] (γ 9) 0 1 (γ 10) := hS139 _ _ _ _ _ l7
  have l8 : zOpP (.ishl) (γ 0) (γ 1) [1, ρ 23] (ρ 35) := l8
  have l9 : zOpP (.ior) (γ 0) (γ 1) [ρ 12, ρ 35] (ρ 36) := l9
  show sn156 [ρ 0, ρ 1, ρ 2, ρ 3, ρ 4, ρ 5, ρ 6, ρ 7, ρ 8, ρ 9, ρ 10, ρ 11, ρ 12, ρ 13, ρ 14, ρ 15, ρ 16, ρ 17, ρ 18, ρ 19, ρ 20] (γ 0) 0 1 (γ 11)
  refine Eq.symm ?_
  show fn156 [ρ 0, ρ 1] (γ 0) = _
  unfold fn156
  refine (zLet_eq (show _ = ρ 0 from rfl)).trans ?_
  refine (zLet_eq (show _ = ρ 1 from rfl)).trans ?_
  refine (zLet_eq m0).trans ?_
  refine (zLet_eq m1).trans ?_
  refine (zLet_eq m2).trans ?_
  refine (zLet_eq m3).trans ?_
  refine (zLet_eq m10).trans ?_
  refine (zLet_eq (show fn115 [] (γ 0) = (0, 1, γ 1) from l0.symm)).trans ?_
  refine (zLet_eq (show _ = γ 1 from rfl)).trans ?_
  refine (if_pos (show (1 : Int) ≤ 1 by omega)).trans ?_
  refine (zLet_eq m22).trans ?_
  refine (if_pos (show ρ 22 = 361 by omega)).trans ?_
  refine (zLet_eq (show fn103 [6, 0, ρ 1] (γ 1) = (0, 0, γ 2) from l1.symm)).trans ?_
  refine (zLet_eq (show _ = γ 2 from rfl)).trans ?_
  refine (zLet_eq (show fn120 [ρ 0] (γ 2) = (0, ρ 23, γ 3) from l2.symm)).trans ?_
  refine (zLet_eq (show _ = γ 3 from rfl)).trans ?_
  refine (zLet_eq (show _ = ρ 23 from rfl)).trans ?_
  refine (zLet_eq c4.symm).trans ?_
  refine (if_neg (show ¬ (ρ 23 < 0) by omega)).trans ?_
  refine (zLet_eq (show fn117 [ρ 23] (γ 4) = (0, 0, γ 5) from l3.symm)).trans ?_
  refine (zLet_eq (show _ = γ 5 from rfl)).trans ?_
  refine (if_neg (show ¬ ((1 : Int) ≤ 0) by omega)).trans ?_
  refine (zLet_eq (show fn139 [ρ 4 + 9 * ρ 3 + 1] (γ 5) = (0, 1, γ 6) from l4.symm)).trans ?_
  refine (zLet_eq (show _ = γ 6 from rfl)).trans ?_
  refine (if_pos (show (1 : Int) ≤ 1 by omega)).trans ?_
  refine (zLet_eq (show fn114 [] (γ 6) = (0, ρ 29, γ 7) from l5.symm)).trans ?_
  refine (zLet_eq (show _ = γ 7 from rfl)).trans ?_
  refine (if_pos (show (0 : Int) ≤ ρ 29 by omega)).trans ?_
  refine (zLet_eq (show _ = ρ 29 from rfl)).trans ?_
  refine (zLet_eq m37).trans ?_
  refine (if_neg (show ¬ (ρ 29 = 43) by omega)).trans ?_
  refine (if_pos (show ρ 29 = 45 by omega)).trans ?_
  refine (zLet_eq c8.symm).trans ?_
  refine (zLet_eq c9.symm).trans ?_
  refine (zLet_eq (show fn139 [ρ 4 + 9 * ρ 3 + 1] (γ 9) = (0, 1, γ 10) from l7.symm)).trans ?_
  refine (zLet_eq (show _ = γ 10 from rfl)).trans ?_
  refine (if_pos (show (1 : Int) ≤ 1 by omega)).trans ?_
  refine (zLet_eq (zF2_ok l8)).trans ?_
  refine (zLet_eq (zF2_ok l9)).trans ?_
  refine (zLet_eq c11.symm).trans ?_
  rfl
theorem vn156_8 {S : Nat → zSpc} (hS103 : ∀ x g o v gz, S 103 x g o v gz → sn103 x g o v gz) (hS109 : ∀ x g o v gz, S 109 x g o v gz → sn109 x g o v gz) (hS114 : ∀ x g o v gz, S 114 x g o v gz → sn114 x g o v gz) (hS115 : ∀ x g o v gz, S 115 x g o v gz → sn115 x g o v gz) (hS117 : ∀ x g o v gz, S 117 x g o v gz → sn117 x g o v gz) (hS120 : ∀ x g o v gz, S 120 x g o v gz → sn120 x g o v gz) (hS139 : ∀ x g o v gz, S 139 x g o v gz → sn139 x g o v gz) {a : List Int} {g : rHp} : ∀ (ρ : Nat → Int) (γ : Nat → rHp), zO 21 S a g q156_8 ρ γ → zGl (fun _ _ _ => True) (sn156 a g) q156_8 ρ γ := by
  intro ρ γ h
  obtain ⟨ha, hg, hr, hf, hm, hc, hl⟩ := h
  have ha : a = [ρ 0, ρ 1, ρ 2, ρ 3, ρ 4, ρ 5, ρ 6, ρ 7, ρ 8, ρ 9, ρ 10, ρ 11, ρ 12, ρ 13, ρ 14, ρ 15, ρ 16, ρ 17, ρ 18, ρ 19, ρ 20] := ha
  subst ha
  subst hg
  obtain ⟨r0, r1, r2, r3, r4, r5, r6, r7, r8, r9, r10, r11, r12, r13, r14, r15, r16, r17, r18, r19, r20, r21, r22, r23, r24, r25, r26, r27, r28, r29, r30, r31, r32, r33, r34, r35, -⟩ := hr
  have r0 : ((-9223372036854775808) : Int) ≤ ρ 0 ∧ ρ 0 ≤ 9223372036854775807 := r0
  have r1 : ((-2147483648) : Int) ≤ ρ 1 ∧ ρ 1 ≤ 2147483647 := r1
  have r2 : (0 : Int) ≤ ρ 2 ∧ ρ 2 ≤ 60 := r2
  have r3 : (0 : Int) ≤ ρ 3 ∧ ρ 3 ≤ 60 := r3
  have r4 : (0 : Int) ≤ ρ 4 ∧ ρ 4 ≤ 7 := r4
  have r5 : (0 : Int) ≤ ρ 5 ∧ ρ 5 ≤ 1999 := r5
  have r6 : (0 : Int) ≤ ρ 6 ∧ ρ 6 ≤ 2000 := r6
  have r7 : (0 : Int) ≤ ρ 7 ∧ ρ 7 ≤ 8 := r7
  have r8 : ((-1) : Int) ≤ ρ 8 ∧ ρ 8 ≤ 7 := r8
  have r9 : ((-1) : Int) ≤ ρ 9 ∧ ρ 9 ≤ 19 := r9
  have r10 : (0 : Int) ≤ ρ 10 ∧ ρ 10 ≤ 4 := r10
  have r11 : ((-2147483648) : Int) ≤ ρ 11 ∧ ρ 11 ≤ 2147483647 := r11
  have r12 : ((-2147483648) : Int) ≤ ρ 12 ∧ ρ 12 ≤ 2147483647 := r12
  have r13 : ((-2147483648) : Int) ≤ ρ 13 ∧ ρ 13 ≤ 2147483647 := r13
  have r14 : (0 : Int) ≤ ρ 14 ∧ ρ 14 ≤ 8 := r14
  have r15 : (0 : Int) ≤ ρ 15 ∧ ρ 15 ≤ 5120 := r15
  have r16 : (0 : Int) ≤ ρ 16 ∧ ρ 16 ≤ 4 := r16
  have r17 : ((-2147483648) : Int) ≤ ρ 17 ∧ ρ 17 ≤ 2147483647 := r17
  have r18 : ((-1) : Int) ≤ ρ 18 ∧ ρ 18 ≤ 19 := r18
  have r19 : ((-1) : Int) ≤ ρ 19 ∧ ρ 19 ≤ 3 := r19
  have r20 : (0 : Int) ≤ ρ 20 ∧ ρ 20 ≤ 4 := r20
  have r21 : (1 : Int) ≤ ρ 21 ∧ ρ 21 ≤ 2000 := r21
  have r22 : (361 : Int) ≤ ρ 22 ∧ ρ 22 ≤ 361 := r22
  have r23 : (0 : Int) ≤ ρ 23 ∧ ρ 23 ≤ 7 := r23
  have r24 : (1 : Int) ≤ ρ 24 ∧ ρ 24 ≤ 8 := r24
  have r25 : (1 : Int) ≤ ρ 25 ∧ ρ 25 ≤ 2000 := r25
  have r26 : (1 : Int) ≤ ρ 26 ∧ ρ 26 ≤ 1 := r26
  have r27 : ((-2147483648) : Int) ≤ ρ 27 ∧ ρ 27 ≤ 2147483647 := r27
  have r28 : (0 : Int) ≤ ρ 28 ∧ ρ 28 ≤ 5120 := r28
  have r29 : (42 : Int) ≤ ρ 29 ∧ ρ 29 ≤ 42 := r29
  have r30 : (0 : Int) ≤ ρ 30 ∧ ρ 30 ≤ 2000 := r30
  have r31 : (0 : Int) ≤ ρ 31 ∧ ρ 31 ≤ 2000 := r31
  have r32 : (0 : Int) ≤ ρ 32 ∧ ρ 32 ≤ 4 := r32
  have r33 : (0 : Int) ≤ ρ 33 ∧ ρ 33 ≤ 2000 := r33
  have r34 : ((-2147483648) : Int) ≤ ρ 34 ∧ ρ 34 ≤ 2147483647 := r34
  have r35 : (0 : Int) ≤ ρ 35 ∧ ρ 35 ≤ 5120 := r35
  obtain ⟨f0, f1, f2, f3, f4, f5, f6, f7, f8, f9, f10, f11, f12, f13, f14, f15, f16, f17, -⟩ := hf
  have f0 : (0 : Int) ≤ -ρ 33 + ρ 31 := f0
  have f1 : (0 : Int) ≤ ρ 31 + -ρ 30 + (-1) := f1
  have f2 : (0 : Int) ≤ ρ 32 + -ρ 26 := f2
  have f3 : (0 : Int) ≤ ρ 33 + -ρ 30 + (-1) := f3
  have f4 : (0 : Int) ≤ ρ 35 + -ρ 28 := f4
  have f5 : (0 : Int) ≤ -ρ 32 + ρ 26 + 1 := f5
  have f6 : (0 : Int) ≤ ρ 30 + -ρ 25 := f6
  have f7 : (0 : Int) ≤ -ρ 30 + ρ 6 + (-1) := f7
  have f8 : (0 : Int) ≤ -ρ 25 + ρ 6 + (-1) := f8
  have f9 : (0 : Int) ≤ ρ 25 + -ρ 21 + (-1) := f9
  have f10 : (0 : Int) ≤ ρ 28 + -ρ 15 := f10
  have f11 : (0 : Int) ≤ -ρ 21 + ρ 6 + (-1) := f11
  have f12 : (0 : Int) ≤ ρ 24 + -ρ 23 + (-1) := f12
  have f13 : (0 : Int) ≤ ρ 24 + -ρ 14 := f13
  have f14 : (0 : Int) ≤ -ρ 23 + ρ 14 := f14
  have f15 : (0 : Int) ≤ ρ 6 + -ρ 5 + (-1) := f15
  have f16 : (0 : Int) ≤ ρ 21 + -ρ 5 + (-1) := f16
  have f17 : (0 : Int) ≤ -ρ 21 + ρ 6 := f17
  obtain ⟨m0, m1, m2, m3, m4, m5, m6, m7, m8, m9, m10, m11, m12, m13, m14, m15, m16, m17, m18, m19, m20, m21, m22, m23, m24, m25, m26, m27, m28, m29, m30, m31, m32, m33, m34, m35, m36, m37, m38, m39, m40, m41, m42, -⟩ := hm
  have m0 : γ 0 1 0 10 = ρ 2 := m0
  have m1 : γ 0 40 0 (ρ 2) = ρ 3 := m1
  have m2 : γ 0 9 (ρ 3) 2 = ρ 4 := m2
  have m3 : γ 0 2 0 6 = ρ 5 := m3
  have m4 : γ 0 2 0 3 = ρ 6 := m4
  have m5 : γ 0 10 (ρ 4 + 9 * ρ 3 + 1) 4 = ρ 7 := m5
  have m6 : γ 0 10 (ρ 4 + 9 * ρ 3 + 1) 11 = ρ 8 := m6
  have m7 : γ 0 10 (9 * ρ 3) 8 = ρ 9 := m7
  have m8 : γ 0 10 (9 * ρ 3) 12 = ρ 10 := m8
  have m9 : γ 0 2 0 4 = ρ 11 := m9
  have m10 : γ 0 2 0 5 = ρ 12 := m10
  have m11 : γ 0 2 0 9 = ρ 13 := m11
  have m12 : γ 0 2 0 13 = ρ 14 := m12
  have m13 : γ 0 3 0 1 = ρ 15 := m13
  have m14 : γ 0 10 (ρ 4 + 9 * ρ 3 + 1) 5 = ρ 16 := m14
  have m15 : γ 0 10 (ρ 4 + 9 * ρ 3 + 1) 7 = ρ 17 := m15
  have m16 : γ 0 10 (ρ 4 + 9 * ρ 3 + 1) 8 = ρ 18 := m16
  have m17 : γ 0 10 (ρ 4 + 9 * ρ 3 + 1) 9 = ρ 19 := m17
  have m18 : γ 0 10 (ρ 4 + 9 * ρ 3 + 1) 12 = ρ 20 := m18
  have m19 : γ 1 2 0 6 = ρ 21 := m19
  have m20 : γ 1 2 0 4 = ρ 11 := m20
  have m21 : γ 1 2 0 9 = ρ 5 := m21
  have m22 : γ 1 2 0 8 = ρ 22 := m22
  have m23 : γ 2 10 (9 * ρ 3) 8 = ρ 9 := m23
  have m24 : γ 2 10 (9 * ρ 3) 12 = ρ 10 := m24
  have m25 : γ 2 10 (ρ 4 + 9 * ρ 3 + 1) 4 = 6 := m25
  have m26 : γ 2 10 (ρ 4 + 9 * ρ 3 + 1) 5 = 0 := m26
  have m27 : γ 2 10 (ρ 4 + 9 * ρ 3 + 1) 7 = ρ 1 := m27
  have m28 : γ 2 10 (ρ 4 + 9 * ρ 3 + 1) 8 = (-1) := m28
  have m29 : γ 2 10 (ρ 4 + 9 * ρ 3 + 1) 9 = (-1) := m29
  have m30 : γ 2 10 (ρ 4 + 9 * ρ 3 + 1) 12 = 0 := m30
  have m31 : γ 3 2 0 13 = ρ 24 := m31
  have m32 : γ 6 2 0 6 = ρ 25 := m32
  have m33 : γ 6 10 (ρ 4 + 9 * ρ 3 + 1) 5 = ρ 26 := m33
  have m34 : γ 6 2 0 4 = ρ 11 := m34
  have m35 : γ 6 2 0 9 = ρ 27 := m35
  have m36 : γ 6 3 0 1 = ρ 28 := m36
  have m37 : γ 7 2 0 6 = ρ 30 := m37
  have m38 : γ 10 2 0 6 = ρ 31 := m38
  have m39 : γ 10 10 (ρ 4 + 9 * ρ 3 + 1) 5 = ρ 32 := m39
  have m40 : γ 10 2 0 4 = ρ 33 := m40
  have m41 : γ 10 2 0 9 = ρ 34 := m41
  have m42 : γ 10 3 0 1 = ρ 35 := m42
  obtain ⟨⟨⟨⟨⟨⟨⟨⟨⟨⟨-, c1⟩, c2⟩, c3⟩, c4⟩, c5⟩, c6⟩, c7⟩, c8⟩, c9⟩, c10⟩ := hc
  have c1 : ∀ (G : Nat) (k j : Int), ¬ rMdP m78_ G j → γ 1 G k j = γ 0 G k j := c1
  have c2 : ∀ (G : Nat) (k j : Int), ¬ rMdP m70_ G j → γ 2 G k j = γ 1 G k j := c2
  have c3 : ∀ (G : Nat) (k j : Int), ¬ rMdP m82_ G j → γ 3 G k j = γ 2 G k j := c3
  have c4 : γ 4 = rUp (γ 3) 10 (ρ 4 + 9 * ρ 3 + 1) 11 (ρ 23) := c4
  have c5 : ∀ (G : Nat) (k j : Int), ¬ rMdP m0_ G j → γ 5 G k j = γ 4 G k j := c5
  have c6 : ∀ (G : Nat) (k j : Int), ¬ rMdP m92_ G j → γ 6 G k j = γ 5 G k j := c6
  have c7 : ∀ (G : Nat) (k j : Int), ¬ rMdP m77_ G j → γ 7 G k j = γ 6 G k j := c7
  have c8 : γ 8 = rUp (γ 7) 2 0 6 (ρ 30 + 1) := c8
  have c9 : γ 9 = rUp (γ 8) 10 (ρ 4 + 9 * ρ 3 + 1) 4 8 := c9
  have c10 : ∀ (G : Nat) (k j : Int), ¬ rMdP m92_ G j → γ 10 G k j = γ 9 G k j := c10
  obtain ⟨l0, l1, l2, l3, l4, l5, l6, l7, l8, -⟩ := hl
  have l0 : sn115 [ρ 5, ρ 6, ρ 11, ρ 13] (γ 0) 0 1 (γ 1) := hS115 _ _ _ _ _ l0
  have l1 : sn103 [6, 0, ρ 1, ρ 2, ρ 3, ρ 4, ρ 9, ρ 10, ρ 7, ρ 16, ρ 17, ρ 18, ρ 19, ρ 20] (γ 1) 0 0 (γ 2) := hS103 _ _ _ _ _ l1
  have l2 : sn120 [ρ 0, ρ 14] (γ 2) 0 (ρ 23) (γ 3) := hS120 _ _ _ _ _ l2
  have l3 : sn117 [ρ 23, ρ 12] (γ 4) 0 0 (γ 5) := hS117 _ _ _ _ _ l3
  have l4 : sn139 [ρ 4 + 9 * ρ 3 + 1, ρ 21, ρ 6, 0, ρ 11, ρ 12, ρ 5, ρ 24, ρ 15] (γ 5) 0 1 (γ 6) := hS139 _ _ _ _ _ l4
  have l5 : sn114 [ρ 25, ρ 6] (γ 6) 0 (ρ 29) (γ 7) := hS114 _ _ _ _ _ l5
  have l6 : ρ 29 ≠ 43 := l6
  have l7 : ρ 29 ≠ 45 := l7
  have l8 : sn139 [ρ 4 + 9 * ρ 3 + 1, ρ 30 + 1, ρ 6, ρ 26, ρ 11, ρ 12, ρ 27, ρ 24, ρ 28] (γ 9) 0 0 (γ 10) := hS139 _ _ _ _ _ l8
  show sn156 [ρ 0, ρ 1, ρ 2, ρ 3, ρ 4, ρ 5, ρ 6, ρ 7, ρ 8, ρ 9, ρ 10, ρ 11, ρ 12, ρ 13, ρ 14, ρ 15, ρ 16, ρ 17, ρ 18, ρ 19, ρ 20] (γ 0) 0 0 (γ 10)
  refine Eq.symm ?_
  show fn156 [ρ 0, ρ 1] (γ 0) = _
  unfold fn156
  refine (zLet_eq (show _ = ρ 0 from rfl)).trans ?_
  refine (zLet_eq (show _ = ρ 1 from rfl)).trans ?_
  refine (zLet_eq m0).trans ?_
  refine (zLet_eq m1).trans ?_
  refine (zLet_eq m2).trans ?_
  refine (zLet_eq m3).trans ?_
  refine (zLet_eq m10).trans ?_
  refine (zLet_eq (show fn115 [] (γ 0) = (0, 1, γ 1) from l0.symm)).trans ?_
  refine (zLet_eq (show _ = γ 1 from rfl)).trans ?_
  refine (if_pos (show (1 : Int) ≤ 1 by omega)).trans ?_
  refine (zLet_eq m22).trans ?_
  refine (if_pos (show ρ 22 = 361 by omega)).trans ?_
  refine (zLet_eq (show fn103 [6, 0, ρ 1] (γ 1) = (0, 0, γ 2) from l1.symm)).trans ?_
  refine (zLet_eq (show _ = γ 2 from rfl)).trans ?_
  refine (zLet_eq (show fn120 [ρ 0] (γ 2) = (0, ρ 23, γ 3) from l2.symm)).trans ?_
  refine (zLet_eq (show _ = γ 3 from rfl)).trans ?_
  refine (zLet_eq (show _ = ρ 23 from rfl)).trans ?_
  refine (zLet_eq c4.symm).trans ?_
  refine (if_neg (show ¬ (ρ 23 < 0) by omega)).trans ?_
  refine (zLet_eq (show fn117 [ρ 23] (γ 4) = (0, 0, γ 5) from l3.symm)).trans ?_
  refine (zLet_eq (show _ = γ 5 from rfl)).trans ?_
  refine (if_neg (show ¬ ((1 : Int) ≤ 0) by omega)).trans ?_
  refine (zLet_eq (show fn139 [ρ 4 + 9 * ρ 3 + 1] (γ 5) = (0, 1, γ 6) from l4.symm)).trans ?_
  refine (zLet_eq (show _ = γ 6 from rfl)).trans ?_
  refine (if_pos (show (1 : Int) ≤ 1 by omega)).trans ?_
  refine (zLet_eq (show fn114 [] (γ 6) = (0, ρ 29, γ 7) from l5.symm)).trans ?_
  refine (zLet_eq (show _ = γ 7 from rfl)).trans ?_
  refine (if_pos (show (0 : Int) ≤ ρ 29 by omega)).trans ?_
  refine (zLet_eq (show _ = ρ 29 from rfl)).trans ?_
  refine (zLet_eq m37).trans ?_
  refine (if_neg (show ¬ (ρ 29 = 43) by omega)).trans ?_
  refine (if_neg (show ¬ (ρ 29 = 45) by omega)).trans ?_
  refine (if_pos (show ρ 29 = 42 by omega)).trans ?_
  refine (zLet_eq c8.symm).trans ?_
  refine (zLet_eq c9.symm).trans ?_
  refine (zLet_eq (show fn139 [ρ 4 + 9 * ρ 3 + 1] (γ 9) = (0, 0, γ 10) from l8.symm)).trans ?_
  refine (zLet_eq (show _ = γ 10 from rfl)).trans ?_
  refine (if_neg (show ¬ ((1 : Int) ≤ 0) by omega)).trans ?_
  rfl
theorem vn156_9 {S : Nat → zSpc} (hS103 : ∀ x g o v gz, S 103 x g o v gz → sn103 x g o v gz) (hS109 : ∀ x g o v gz, S 109 x g o v gz → sn109 x g o v gz) (hS114 : ∀ x g o v gz, S 114 x g o v gz → sn114 x g o v gz) (hS115 : ∀ x g o v gz, S 115 x g o v gz → sn115 x g o v gz) (hS117 : ∀ x g o v gz, S 117 x g o v gz → sn117 x g o v gz) (hS120 : ∀ x g o v gz, S 120 x g o v gz → sn120 x g o v gz) (hS139 : ∀ x g o v gz, S 139 x g o v gz → sn139 x g o v gz) {a : List Int} {g : rHp} : ∀ (ρ : Nat → Int) (γ : Nat → rHp), zO 21 S a g q156_9 ρ γ → zGl (fun _ _ _ => True) (sn156 a g) q156_9 ρ γ := by
  intro ρ γ h
  obtain ⟨ha, hg, hr, hf, hm, hc, hl⟩ := h
  have ha : a = [ρ 0, ρ 1, ρ 2, ρ 3, ρ 4, ρ 5, ρ 6, ρ 7, ρ 8, ρ 9, ρ 10, ρ 11, ρ 12, ρ 13, ρ 14, ρ 15, ρ 16, ρ 17, ρ 18, ρ 19, ρ 20] := ha
  subst ha
  subst hg
  obtain ⟨r0, r1, r2, r3, r4, r5, r6, r7, r8, r9, r10, r11, r12, r13, r14, r15, r16, r17, r18, r19, r20, r21, r22, r23, r24, r25, r26, r27, r28, r29, r30, r31, r32, r33, r34, r35, r36, -⟩ := hr
  have r0 : ((-9223372036854775808) : Int) ≤ ρ 0 ∧ ρ 0 ≤ 9223372036854775807 := r0
  have r1 : ((-2147483648) : Int) ≤ ρ 1 ∧ ρ 1 ≤ 2147483647 := r1
  have r2 : (0 : Int) ≤ ρ 2 ∧ ρ 2 ≤ 60 := r2
  have r3 : (0 : Int) ≤ ρ 3 ∧ ρ 3 ≤ 60 := r3
  have r4 : (0 : Int) ≤ ρ 4 ∧ ρ 4 ≤ 7 := r4
  have r5 : (0 : Int) ≤ ρ 5 ∧ ρ 5 ≤ 1999 := r5
  have r6 : (0 : Int) ≤ ρ 6 ∧ ρ 6 ≤ 2000 := r6
  have r7 : (0 : Int) ≤ ρ 7 ∧ ρ 7 ≤ 8 := r7
  have r8 : ((-1) : Int) ≤ ρ 8 ∧ ρ 8 ≤ 7 := r8
  have r9 : ((-1) : Int) ≤ ρ 9 ∧ ρ 9 ≤ 19 := r9
  have r10 : (0 : Int) ≤ ρ 10 ∧ ρ 10 ≤ 4 := r10
  have r11 : ((-2147483648) : Int) ≤ ρ 11 ∧ ρ 11 ≤ 2147483647 := r11
  have r12 : ((-2147483648) : Int) ≤ ρ 12 ∧ ρ 12 ≤ 2147483647 := r12
  have r13 : ((-2147483648) : Int) ≤ ρ 13 ∧ ρ 13 ≤ 2147483647 := r13
  have r14 : (0 : Int) ≤ ρ 14 ∧ ρ 14 ≤ 8 := r14
  have r15 : (0 : Int) ≤ ρ 15 ∧ ρ 15 ≤ 5120 := r15
  have r16 : (0 : Int) ≤ ρ 16 ∧ ρ 16 ≤ 4 := r16
  have r17 : ((-2147483648) : Int) ≤ ρ 17 ∧ ρ 17 ≤ 2147483647 := r17
  have r18 : ((-1) : Int) ≤ ρ 18 ∧ ρ 18 ≤ 19 := r18
  have r19 : ((-1) : Int) ≤ ρ 19 ∧ ρ 19 ≤ 3 := r19
  have r20 : (0 : Int) ≤ ρ 20 ∧ ρ 20 ≤ 4 := r20
  have r21 : (1 : Int) ≤ ρ 21 ∧ ρ 21 ≤ 2000 := r21
  have r22 : (361 : Int) ≤ ρ 22 ∧ ρ 22 ≤ 361 := r22
  have r23 : (0 : Int) ≤ ρ 23 ∧ ρ 23 ≤ 7 := r23
  have r24 : (1 : Int) ≤ ρ 24 ∧ ρ 24 ≤ 8 := r24
  have r25 : (1 : Int) ≤ ρ 25 ∧ ρ 25 ≤ 2000 := r25
  have r26 : (1 : Int) ≤ ρ 26 ∧ ρ 26 ≤ 1 := r26
  have r27 : ((-2147483648) : Int) ≤ ρ 27 ∧ ρ 27 ≤ 2147483647 := r27
  have r28 : (0 : Int) ≤ ρ 28 ∧ ρ 28 ≤ 5120 := r28
  have r29 : (42 : Int) ≤ ρ 29 ∧ ρ 29 ≤ 42 := r29
  have r30 : (0 : Int) ≤ ρ 30 ∧ ρ 30 ≤ 2000 := r30
  have r31 : (1 : Int) ≤ ρ 31 ∧ ρ 31 ≤ 2000 := r31
  have r32 : (1 : Int) ≤ ρ 32 ∧ ρ 32 ≤ 4 := r32
  have r33 : ((-2147483648) : Int) ≤ ρ 33 ∧ ρ 33 ≤ 2147483647 := r33
  have r34 : (0 : Int) ≤ ρ 34 ∧ ρ 34 ≤ 5120 := r34
  have r35 : ((-2147483648) : Int) ≤ ρ 35 ∧ ρ 35 ≤ 2147483647 := r35
  have r36 : ((-2147483648) : Int) ≤ ρ 36 ∧ ρ 36 ≤ 2147483647 := r36
  obtain ⟨f0, f1, f2, f3, f4, f5, f6, f7, f8, f9, f10, f11, f12, f13, f14, f15, -⟩ := hf
  have f0 : (0 : Int) ≤ ρ 31 + -ρ 30 + (-2) := f0
  have f1 : (0 : Int) ≤ ρ 34 + -ρ 28 := f1
  have f2 : (0 : Int) ≤ -ρ 30 + ρ 6 + (-2) := f2
  have f3 : (0 : Int) ≤ -ρ 32 + ρ 26 + 1 := f3
  have f4 : (0 : Int) ≤ ρ 30 + -ρ 25 := f4
  have f5 : (0 : Int) ≤ -ρ 30 + ρ 6 + (-1) := f5
  have f6 : (0 : Int) ≤ -ρ 25 + ρ 6 + (-1) := f6
  have f7 : (0 : Int) ≤ ρ 25 + -ρ 21 + (-1) := f7
  have f8 : (0 : Int) ≤ ρ 28 + -ρ 15 := f8
  have f9 : (0 : Int) ≤ -ρ 21 + ρ 6 + (-1) := f9
  have f10 : (0 : Int) ≤ ρ 24 + -ρ 23 + (-1) := f10
  have f11 : (0 : Int) ≤ ρ 24 + -ρ 14 := f11
  have f12 : (0 : Int) ≤ -ρ 23 + ρ 14 := f12
  have f13 : (0 : Int) ≤ ρ 6 + -ρ 5 + (-1) := f13
  have f14 : (0 : Int) ≤ ρ 21 + -ρ 5 + (-1) := f14
  have f15 : (0 : Int) ≤ -ρ 21 + ρ 6 := f15
  obtain ⟨m0, m1, m2, m3, m4, m5, m6, m7, m8, m9, m10, m11, m12, m13, m14, m15, m16, m17, m18, m19, m20, m21, m22, m23, m24, m25, m26, m27, m28, m29, m30, m31, m32, m33, m34, m35, m36, m37, m38, m39, m40, m41, m42, -⟩ := hm
  have m0 : γ 0 1 0 10 = ρ 2 := m0
  have m1 : γ 0 40 0 (ρ 2) = ρ 3 := m1
  have m2 : γ 0 9 (ρ 3) 2 = ρ 4 := m2
  have m3 : γ 0 2 0 6 = ρ 5 := m3
  have m4 : γ 0 2 0 3 = ρ 6 := m4
  have m5 : γ 0 10 (ρ 4 + 9 * ρ 3 + 1) 4 = ρ 7 := m5
  have m6 : γ 0 10 (ρ 4 + 9 * ρ 3 + 1) 11 = ρ 8 := m6
  have m7 : γ 0 10 (9 * ρ 3) 8 = ρ 9 := m7
  have m8 : γ 0 10 (9 * ρ 3) 12 = ρ 10 := m8
  have m9 : γ 0 2 0 4 = ρ 11 := m9
  have m10 : γ 0 2 0 5 = ρ 12 := m10
  have m11 : γ 0 2 0 9 = ρ 13 := m11
  have m12 : γ 0 2 0 13 = ρ 14 := m12
  have m13 : γ 0 3 0 1 = ρ 15 := m13
  have m14 : γ 0 10 (ρ 4 + 9 * ρ 3 + 1) 5 = ρ 16 := m14
  have m15 : γ 0 10 (ρ 4 + 9 * ρ 3 + 1) 7 = ρ 17 := m15
  have m16 : γ 0 10 (ρ 4 + 9 * ρ 3 + 1) 8 = ρ 18 := m16
  have m17 : γ 0 10 (ρ 4 + 9 * ρ 3 + 1) 9 = ρ 19 := m17
  have m18 : γ 0 10 (ρ 4 + 9 * ρ 3 + 1) 12 = ρ 20 := m18
  have m19 : γ 1 2 0 6 = ρ 21 := m19
  have m20 : γ 1 2 0 4 = ρ 11 := m20
  have m21 : γ 1 2 0 9 = ρ 5 := m21
  have m22 : γ 1 2 0 8 = ρ 22 := m22
  have m23 : γ 2 10 (9 * ρ 3) 8 = ρ 9 := m23
  have m24 : γ 2 10 (9 * ρ 3) 12 = ρ 10 := m24
  have m25 : γ 2 10 (ρ 4 + 9 * ρ 3 + 1) 4 = 6 := m25
  have m26 : γ 2 10 (ρ 4 + 9 * ρ 3 + 1) 5 = 0 := m26
  have m27 : γ 2 10 (ρ 4 + 9 * ρ 3 + 1) 7 = ρ 1 := m27
  have m28 : γ 2 10 (ρ 4 + 9 * ρ 3 + 1) 8 = (-1) := m28
  have m29 : γ 2 10 (ρ 4 + 9 * ρ 3 + 1) 9 = (-1) := m29
  have m30 : γ 2 10 (ρ 4 + 9 * ρ 3 + 1) 12 = 0 := m30
  have m31 : γ 3 2 0 13 = ρ 24 := m31
  have m32 : γ 6 2 0 6 = ρ 25 := m32
  have m33 : γ 6 10 (ρ 4 + 9 * ρ 3 + 1) 5 = ρ 26 := m33
  have m34 : γ 6 2 0 4 = ρ 11 := m34
  have m35 : γ 6 2 0 9 = ρ 27 := m35
  have m36 : γ 6 3 0 1 = ρ 28 := m36
  have m37 : γ 7 2 0 6 = ρ 30 := m37
  have m38 : γ 10 2 0 6 = ρ 31 := m38
  have m39 : γ 10 10 (ρ 4 + 9 * ρ 3 + 1) 5 = ρ 32 := m39
  have m40 : γ 10 2 0 4 = ρ 11 := m40
  have m41 : γ 10 2 0 9 = ρ 33 := m41
  have m42 : γ 10 3 0 1 = ρ 34 := m42
  obtain ⟨⟨⟨⟨⟨⟨⟨⟨⟨⟨⟨-, c1⟩, c2⟩, c3⟩, c4⟩, c5⟩, c6⟩, c7⟩, c8⟩, c9⟩, c10⟩, c11⟩ := hc
  have c1 : ∀ (G : Nat) (k j : Int), ¬ rMdP m78_ G j → γ 1 G k j = γ 0 G k j := c1
  have c2 : ∀ (G : Nat) (k j : Int), ¬ rMdP m70_ G j → γ 2 G k j = γ 1 G k j := c2
  have c3 : ∀ (G : Nat) (k j : Int), ¬ rMdP m82_ G j → γ 3 G k j = γ 2 G k j := c3
  have c4 : γ 4 = rUp (γ 3) 10 (ρ 4 + 9 * ρ 3 + 1) 11 (ρ 23) := c4
  have c5 : ∀ (G : Nat) (k j : Int), ¬ rMdP m0_ G j → γ 5 G k j = γ 4 G k j := c5
  have c6 : ∀ (G : Nat) (k j : Int), ¬ rMdP m92_ G j → γ 6 G k j = γ 5 G k j := c6
  have c7 : ∀ (G : Nat) (k j : Int), ¬ rMdP m77_ G j → γ 7 G k j = γ 6 G k j := c7
  have c8 : γ 8 = rUp (γ 7) 2 0 6 (ρ 30 + 1) := c8
  have c9 : γ 9 = rUp (γ 8) 10 (ρ 4 + 9 * ρ 3 + 1) 4 8 := c9
  have c10 : ∀ (G : Nat) (k j : Int), ¬ rMdP m92_ G j → γ 10 G k j = γ 9 G k j := c10
  have c11 : γ 11 = rUp (γ 10) 2 0 5 (ρ 36) := c11
  obtain ⟨l0, l1, l2, l3, l4, l5, l6, l7, l8, l9, l10, -⟩ := hl
  have l0 : sn115 [ρ 5, ρ 6, ρ 11, ρ 13] (γ 0) 0 1 (γ 1) := hS115 _ _ _ _ _ l0
  have l1 : sn103 [6, 0, ρ 1, ρ 2, ρ 3, ρ 4, ρ 9, ρ 10, ρ 7, ρ 16, ρ 17, ρ 18, ρ 19, ρ 20] (γ 1) 0 0 (γ 2) := hS103 _ _ _ _ _ l1
  have l2 : sn120 [ρ 0, ρ 14] (γ 2) 0 (ρ 23) (γ 3) := hS120 _ _ _ _ _ l2
  have l3 : sn117 [ρ 23, ρ 12] (γ 4) 0 0 (γ 5) := hS117 _ _ _ _ _ l3
  have l4 : sn139 [ρ 4 + 9 * ρ 3 + 1, ρ 21, ρ 6, 0, ρ 11, ρ 12, ρ 5, ρ 24, ρ 15] (γ 5) 0 1 (γ 6) := hS139 _ _ _ _ _ l4
  have l5 : sn114 [ρ 25, ρ 6] (γ 6) 0 (ρ 29) (γ 7) := hS114 _ _ _ _ _ l5
  have l6 : ρ 29 ≠ 43 := l6
  have l7 : ρ 29 ≠ 45 := l7
  have l8 : sn139 [ρ 4 + 9 * ρ 3 + 1, ρ 30 + 1, ρ 6, ρ 26, ρ 11, ρ 12, ρ 27, ρ 24, ρ 28] (γ 9) 0 1 (γ 10) := hS139 _ _ _ _ _ l8
  have l9 : zOpP (.ishl) (γ 0) (γ 1) [1, ρ 23] (ρ 35) := l9
  have l10 : zOpP (.ior) (γ 0) (γ 1) [ρ 12, ρ 35] (ρ 36) := l10
  show sn156 [ρ 0, ρ 1, ρ 2, ρ 3, ρ 4, ρ 5, ρ 6, ρ 7, ρ 8, ρ 9, ρ 10, ρ 11, ρ 12, ρ 13, ρ 14, ρ 15, ρ 16, ρ 17, ρ 18, ρ 19, ρ 20] (γ 0) 0 1 (γ 11)
  refine Eq.symm ?_
  show fn156 [ρ 0, ρ 1] (γ 0) = _
  unfold fn156
  refine (zLet_eq (show _ = ρ 0 from rfl)).trans ?_
  refine (zLet_eq (show _ = ρ 1 from rfl)).trans ?_
  refine (zLet_eq m0).trans ?_
  refine (zLet_eq m1).trans ?_
  refine (zLet_eq m2).trans ?_
  refine (zLet_eq m3).trans ?_
  refine (zLet_eq m10).trans ?_
  refine (zLet_eq (show fn115 [] (γ 0) = (0, 1, γ 1) from l0.symm)).trans ?_
  refine (zLet_eq (show _ = γ 1 from rfl)).trans ?_
  refine (if_pos (show (1 : Int) ≤ 1 by omega)).trans ?_
  refine (zLet_eq m22).trans ?_
  refine (if_pos (show ρ 22 = 361 by omega)).trans ?_
  refine (zLet_eq (show fn103 [6, 0, ρ 1] (γ 1) = (0, 0, γ 2) from l1.symm)).trans ?_
  refine (zLet_eq (show _ = γ 2 from rfl)).trans ?_
  refine (zLet_eq (show fn120 [ρ 0] (γ 2) = (0, ρ 23, γ 3) from l2.symm)).trans ?_
  refine (zLet_eq (show _ = γ 3 from rfl)).trans ?_
  refine (zLet_eq (show _ = ρ 23 from rfl)).trans ?_
  refine (zLet_eq c4.symm).trans ?_
  refine (if_neg (show ¬ (ρ 23 < 0) by omega)).trans ?_
  refine (zLet_eq (show fn117 [ρ 23] (γ 4) = (0, 0, γ 5) from l3.symm)).trans ?_
  refine (zLet_eq (show _ = γ 5 from rfl)).trans ?_
  refine (if_neg (show ¬ ((1 : Int) ≤ 0) by omega)).trans ?_
  refine (zLet_eq (show fn139 [ρ 4 + 9 * ρ 3 + 1] (γ 5) = (0, 1, γ 6) from l4.symm)).trans ?_
  refine (zLet_eq (show _ = γ 6 from rfl)).trans ?_
  refine (if_pos (show (1 : Int) ≤ 1 by omega)).trans ?_
  refine (zLet_eq (show fn114 [] (γ 6) = (0, ρ 29, γ 7) from l5.symm)).trans ?_
  refine (zLet_eq (show _ = γ 7 from rfl)).trans ?_
  refine (if_pos (show (0 : Int) ≤ ρ 29 by omega)).trans ?_
  refine (zLet_eq (show _ = ρ 29 from rfl)).trans ?_
  refine (zLet_eq m37).trans ?_
  refine (if_neg (show ¬ (ρ 29 = 43) by omega)).trans ?_
  refine (if_neg (show ¬ (ρ 29 = 45) by omega)).trans ?_
  refine (if_pos (show ρ 29 = 42 by omega)).trans ?_
  refine (zLet_eq c8.symm).trans ?_
  refine (zLet_eq c9.symm).trans ?_
  refine (zLet_eq (show fn139 [ρ 4 + 9 * ρ 3 + 1] (γ 9) = (0, 1, γ 10) from l8.symm)).trans ?_
  refine (zLet_eq (show _ = γ 10 from rfl)).trans ?_
  refine (if_pos (show (1 : Int) ≤ 1 by omega)).trans ?_
  refine (zLet_eq (zF2_ok l9)).trans ?_
  refine (zLet_eq (zF2_ok l10)).trans ?_
  refine (zLet_eq c11.symm).trans ?_
  rfl
theorem vn156_10 {S : Nat → zSpc} (hS103 : ∀ x g o v gz, S 103 x g o v gz → sn103 x g o v gz) (hS109 : ∀ x g o v gz, S 109 x g o v gz → sn109 x g o v gz) (hS114 : ∀ x g o v gz, S 114 x g o v gz → sn114 x g o v gz) (hS115 : ∀ x g o v gz, S 115 x g o v gz → sn115 x g o v gz) (hS117 : ∀ x g o v gz, S 117 x g o v gz → sn117 x g o v gz) (hS120 : ∀ x g o v gz, S 120 x g o v gz → sn120 x g o v gz) (hS139 : ∀ x g o v gz, S 139 x g o v gz → sn139 x g o v gz) {a : List Int} {g : rHp} : ∀ (ρ : Nat → Int) (γ : Nat → rHp), zO 21 S a g q156_10 ρ γ → zGl (fun _ _ _ => True) (sn156 a g) q156_10 ρ γ := by
  intro ρ γ h
  obtain ⟨ha, hg, hr, hf, hm, hc, hl⟩ := h
  have ha : a = [ρ 0, ρ 1, ρ 2, ρ 3, ρ 4, ρ 5, ρ 6, ρ 7, ρ 8, ρ 9, ρ 10, ρ 11, ρ 12, ρ 13, ρ 14, ρ 15, ρ 16, ρ 17, ρ 18, ρ 19, ρ 20] := ha
  subst ha
  subst hg
  obtain ⟨r0, r1, r2, r3, r4, r5, r6, r7, r8, r9, r10, r11, r12, r13, r14, r15, r16, r17, r18, r19, r20, r21, r22, r23, r24, r25, r26, r27, r28, r29, r30, -⟩ := hr
  have r0 : ((-9223372036854775808) : Int) ≤ ρ 0 ∧ ρ 0 ≤ 9223372036854775807 := r0
  have r1 : ((-2147483648) : Int) ≤ ρ 1 ∧ ρ 1 ≤ 2147483647 := r1
  have r2 : (0 : Int) ≤ ρ 2 ∧ ρ 2 ≤ 60 := r2
  have r3 : (0 : Int) ≤ ρ 3 ∧ ρ 3 ≤ 60 := r3
  have r4 : (0 : Int) ≤ ρ 4 ∧ ρ 4 ≤ 7 := r4
  have r5 : (0 : Int) ≤ ρ 5 ∧ ρ 5 ≤ 1999 := r5
  have r6 : (0 : Int) ≤ ρ 6 ∧ ρ 6 ≤ 2000 := r6
  have r7 : (0 : Int) ≤ ρ 7 ∧ ρ 7 ≤ 8 := r7
  have r8 : ((-1) : Int) ≤ ρ 8 ∧ ρ 8 ≤ 7 := r8
  have r9 : ((-1) : Int) ≤ ρ 9 ∧ ρ 9 ≤ 19 := r9
  have r10 : (0 : Int) ≤ ρ 10 ∧ ρ 10 ≤ 4 := r10
  have r11 : ((-2147483648) : Int) ≤ ρ 11 ∧ ρ 11 ≤ 2147483647 := r11
  have r12 : ((-2147483648) : Int) ≤ ρ 12 ∧ ρ 12 ≤ 2147483647 := r12
  have r13 : ((-2147483648) : Int) ≤ ρ 13 ∧ ρ 13 ≤ 2147483647 := r13
  have r14 : (0 : Int) ≤ ρ 14 ∧ ρ 14 ≤ 8 := r14
  have r15 : (0 : Int) ≤ ρ 15 ∧ ρ 15 ≤ 5120 := r15
  have r16 : (0 : Int) ≤ ρ 16 ∧ ρ 16 ≤ 4 := r16
  have r17 : ((-2147483648) : Int) ≤ ρ 17 ∧ ρ 17 ≤ 2147483647 := r17
  have r18 : ((-1) : Int) ≤ ρ 18 ∧ ρ 18 ≤ 19 := r18
  have r19 : ((-1) : Int) ≤ ρ 19 ∧ ρ 19 ≤ 3 := r19
  have r20 : (0 : Int) ≤ ρ 20 ∧ ρ 20 ≤ 4 := r20
  have r21 : (1 : Int) ≤ ρ 21 ∧ ρ 21 ≤ 2000 := r21
  have r22 : (361 : Int) ≤ ρ 22 ∧ ρ 22 ≤ 361 := r22
  have r23 : (0 : Int) ≤ ρ 23 ∧ ρ 23 ≤ 7 := r23
  have r24 : (1 : Int) ≤ ρ 24 ∧ ρ 24 ≤ 8 := r24
  have r25 : (1 : Int) ≤ ρ 25 ∧ ρ 25 ≤ 2000 := r25
  have r26 : (1 : Int) ≤ ρ 26 ∧ ρ 26 ≤ 1 := r26
  have r27 : ((-2147483648) : Int) ≤ ρ 27 ∧ ρ 27 ≤ 2147483647 := r27
  have r28 : (0 : Int) ≤ ρ 28 ∧ ρ 28 ≤ 5120 := r28
  have r29 : (0 : Int) ≤ ρ 29 ∧ ρ 29 ≤ 255 := r29
  have r30 : (0 : Int) ≤ ρ 30 ∧ ρ 30 ≤ 2000 := r30
  obtain ⟨f0, f1, f2, f3, f4, f5, f6, f7, f8, f9, f10, f11, -⟩ := hf
  have f0 : (0 : Int) ≤ ρ 30 + -ρ 25 := f0
  have f1 : (0 : Int) ≤ -ρ 30 + ρ 6 + (-1) := f1
  have f2 : (0 : Int) ≤ -ρ 25 + ρ 6 + (-1) := f2
  have f3 : (0 : Int) ≤ ρ 25 + -ρ 21 + (-1) := f3
  have f4 : (0 : Int) ≤ ρ 28 + -ρ 15 := f4
  have f5 : (0 : Int) ≤ -ρ 21 + ρ 6 + (-1) := f5
  have f6 : (0 : Int) ≤ ρ 24 + -ρ 23 + (-1) := f6
  have f7 : (0 : Int) ≤ ρ 24 + -ρ 14 := f7
  have f8 : (0 : Int) ≤ -ρ 23 + ρ 14 := f8
  have f9 : (0 : Int) ≤ ρ 6 + -ρ 5 + (-1) := f9
  have f10 : (0 : Int) ≤ ρ 21 + -ρ 5 + (-1) := f10
  have f11 : (0 : Int) ≤ -ρ 21 + ρ 6 := f11
  obtain ⟨m0, m1, m2, m3, m4, m5, m6, m7, m8, m9, m10, m11, m12, m13, m14, m15, m16, m17, m18, m19, m20, m21, m22, m23, m24, m25, m26, m27, m28, m29, m30, m31, m32, m33, m34, m35, m36, m37, m38, -⟩ := hm
  have m0 : γ 0 1 0 10 = ρ 2 := m0
  have m1 : γ 0 40 0 (ρ 2) = ρ 3 := m1
  have m2 : γ 0 9 (ρ 3) 2 = ρ 4 := m2
  have m3 : γ 0 2 0 6 = ρ 5 := m3
  have m4 : γ 0 2 0 3 = ρ 6 := m4
  have m5 : γ 0 10 (ρ 4 + 9 * ρ 3 + 1) 4 = ρ 7 := m5
  have m6 : γ 0 10 (ρ 4 + 9 * ρ 3 + 1) 11 = ρ 8 := m6
  have m7 : γ 0 10 (9 * ρ 3) 8 = ρ 9 := m7
  have m8 : γ 0 10 (9 * ρ 3) 12 = ρ 10 := m8
  have m9 : γ 0 2 0 4 = ρ 11 := m9
  have m10 : γ 0 2 0 5 = ρ 12 := m10
  have m11 : γ 0 2 0 9 = ρ 13 := m11
  have m12 : γ 0 2 0 13 = ρ 14 := m12
  have m13 : γ 0 3 0 1 = ρ 15 := m13
  have m14 : γ 0 10 (ρ 4 + 9 * ρ 3 + 1) 5 = ρ 16 := m14
  have m15 : γ 0 10 (ρ 4 + 9 * ρ 3 + 1) 7 = ρ 17 := m15
  have m16 : γ 0 10 (ρ 4 + 9 * ρ 3 + 1) 8 = ρ 18 := m16
  have m17 : γ 0 10 (ρ 4 + 9 * ρ 3 + 1) 9 = ρ 19 := m17
  have m18 : γ 0 10 (ρ 4 + 9 * ρ 3 + 1) 12 = ρ 20 := m18
  have m19 : γ 1 2 0 6 = ρ 21 := m19
  have m20 : γ 1 2 0 4 = ρ 11 := m20
  have m21 : γ 1 2 0 9 = ρ 5 := m21
  have m22 : γ 1 2 0 8 = ρ 22 := m22
  have m23 : γ 2 10 (9 * ρ 3) 8 = ρ 9 := m23
  have m24 : γ 2 10 (9 * ρ 3) 12 = ρ 10 := m24
  have m25 : γ 2 10 (ρ 4 + 9 * ρ 3 + 1) 4 = 6 := m25
  have m26 : γ 2 10 (ρ 4 + 9 * ρ 3 + 1) 5 = 0 := m26
  have m27 : γ 2 10 (ρ 4 + 9 * ρ 3 + 1) 7 = ρ 1 := m27
  have m28 : γ 2 10 (ρ 4 + 9 * ρ 3 + 1) 8 = (-1) := m28
  have m29 : γ 2 10 (ρ 4 + 9 * ρ 3 + 1) 9 = (-1) := m29
  have m30 : γ 2 10 (ρ 4 + 9 * ρ 3 + 1) 12 = 0 := m30
  have m31 : γ 3 2 0 13 = ρ 24 := m31
  have m32 : γ 6 2 0 6 = ρ 25 := m32
  have m33 : γ 6 10 (ρ 4 + 9 * ρ 3 + 1) 5 = ρ 26 := m33
  have m34 : γ 6 2 0 4 = ρ 11 := m34
  have m35 : γ 6 2 0 9 = ρ 27 := m35
  have m36 : γ 6 3 0 1 = ρ 28 := m36
  have m37 : γ 7 2 0 6 = ρ 30 := m37
  have m38 : γ 8 2 0 4 = ρ 30 := m38
  obtain ⟨⟨⟨⟨⟨⟨⟨⟨-, c1⟩, c2⟩, c3⟩, c4⟩, c5⟩, c6⟩, c7⟩, c8⟩ := hc
  have c1 : ∀ (G : Nat) (k j : Int), ¬ rMdP m78_ G j → γ 1 G k j = γ 0 G k j := c1
  have c2 : ∀ (G : Nat) (k j : Int), ¬ rMdP m70_ G j → γ 2 G k j = γ 1 G k j := c2
  have c3 : ∀ (G : Nat) (k j : Int), ¬ rMdP m82_ G j → γ 3 G k j = γ 2 G k j := c3
  have c4 : γ 4 = rUp (γ 3) 10 (ρ 4 + 9 * ρ 3 + 1) 11 (ρ 23) := c4
  have c5 : ∀ (G : Nat) (k j : Int), ¬ rMdP m0_ G j → γ 5 G k j = γ 4 G k j := c5
  have c6 : ∀ (G : Nat) (k j : Int), ¬ rMdP m92_ G j → γ 6 G k j = γ 5 G k j := c6
  have c7 : ∀ (G : Nat) (k j : Int), ¬ rMdP m77_ G j → γ 7 G k j = γ 6 G k j := c7
  have c8 : ∀ (G : Nat) (k j : Int), ¬ rMdP m72_ G j → γ 8 G k j = γ 7 G k j := c8
  obtain ⟨l0, l1, l2, l3, l4, l5, l6, l7, l8, l9, -⟩ := hl
  have l0 : sn115 [ρ 5, ρ 6, ρ 11, ρ 13] (γ 0) 0 1 (γ 1) := hS115 _ _ _ _ _ l0
  have l1 : sn103 [6, 0, ρ 1, ρ 2, ρ 3, ρ 4, ρ 9, ρ 10, ρ 7, ρ 16, ρ 17, ρ 18, ρ 19, ρ 20] (γ 1) 0 0 (γ 2) := hS103 _ _ _ _ _ l1
  have l2 : sn120 [ρ 0, ρ 14] (γ 2) 0 (ρ 23) (γ 3) := hS120 _ _ _ _ _ l2
  have l3 : sn117 [ρ 23, ρ 12] (γ 4) 0 0 (γ 5) := hS117 _ _ _ _ _ l3
  have l4 : sn139 [ρ 4 + 9 * ρ 3 + 1, ρ 21, ρ 6, 0, ρ 11, ρ 12, ρ 5, ρ 24, ρ 15] (γ 5) 0 1 (γ 6) := hS139 _ _ _ _ _ l4
  have l5 : sn114 [ρ 25, ρ 6] (γ 6) 0 (ρ 29) (γ 7) := hS114 _ _ _ _ _ l5
  have l6 : ρ 29 ≠ 43 := l6
  have l7 : ρ 29 ≠ 45 := l7
  have l8 : ρ 29 ≠ 42 := l8
  have l9 : sn109 [ρ 30, ρ 11] (γ 7) 0 0 (γ 8) := hS109 _ _ _ _ _ l9
  show sn156 [ρ 0, ρ 1, ρ 2, ρ 3, ρ 4, ρ 5, ρ 6, ρ 7, ρ 8, ρ 9, ρ 10, ρ 11, ρ 12, ρ 13, ρ 14, ρ 15, ρ 16, ρ 17, ρ 18, ρ 19, ρ 20] (γ 0) 0 0 (γ 8)
  refine Eq.symm ?_
  show fn156 [ρ 0, ρ 1] (γ 0) = _
  unfold fn156
  refine (zLet_eq (show _ = ρ 0 from rfl)).trans ?_
  refine (zLet_eq (show _ = ρ 1 from rfl)).trans ?_
  refine (zLet_eq m0).trans ?_
  refine (zLet_eq m1).trans ?_
  refine (zLet_eq m2).trans ?_
  refine (zLet_eq m3).trans ?_
  refine (zLet_eq m10).trans ?_
  refine (zLet_eq (show fn115 [] (γ 0) = (0, 1, γ 1) from l0.symm)).trans ?_
  refine (zLet_eq (show _ = γ 1 from rfl)).trans ?_
  refine (if_pos (show (1 : Int) ≤ 1 by omega)).trans ?_
  refine (zLet_eq m22).trans ?_
  refine (if_pos (show ρ 22 = 361 by omega)).trans ?_
  refine (zLet_eq (show fn103 [6, 0, ρ 1] (γ 1) = (0, 0, γ 2) from l1.symm)).trans ?_
  refine (zLet_eq (show _ = γ 2 from rfl)).trans ?_
  refine (zLet_eq (show fn120 [ρ 0] (γ 2) = (0, ρ 23, γ 3) from l2.symm)).trans ?_
  refine (zLet_eq (show _ = γ 3 from rfl)).trans ?_
  refine (zLet_eq (show _ = ρ 23 from rfl)).trans ?_
  refine (zLet_eq c4.symm).trans ?_
  refine (if_neg (show ¬ (ρ 23 < 0) by omega)).trans ?_
  refine (zLet_eq (show fn117 [ρ 23] (γ 4) = (0, 0, γ 5) from l3.symm)).trans ?_
  refine (zLet_eq (show _ = γ 5 from rfl)).trans ?_
  refine (if_neg (show ¬ ((1 : Int) ≤ 0) by omega)).trans ?_
  refine (zLet_eq (show fn139 [ρ 4 + 9 * ρ 3 + 1] (γ 5) = (0, 1, γ 6) from l4.symm)).trans ?_
  refine (zLet_eq (show _ = γ 6 from rfl)).trans ?_
  refine (if_pos (show (1 : Int) ≤ 1 by omega)).trans ?_
  refine (zLet_eq (show fn114 [] (γ 6) = (0, ρ 29, γ 7) from l5.symm)).trans ?_
  refine (zLet_eq (show _ = γ 7 from rfl)).trans ?_
  refine (if_pos (show (0 : Int) ≤ ρ 29 by omega)).trans ?_
  refine (zLet_eq (show _ = ρ 29 from rfl)).trans ?_
  refine (zLet_eq m37).trans ?_
  refine (if_neg (show ¬ (ρ 29 = 43) by omega)).trans ?_
  refine (if_neg (show ¬ (ρ 29 = 45) by omega)).trans ?_
  refine (if_neg (show ¬ (ρ 29 = 42) by omega)).trans ?_
  refine (zLet_eq (show fn109 [ρ 30] (γ 7) = (0, 0, γ 8) from l9.symm)).trans ?_
  refine (zLet_eq (show _ = γ 8 from rfl)).trans ?_
  rfl
theorem vn156_11 {S : Nat → zSpc} (hS103 : ∀ x g o v gz, S 103 x g o v gz → sn103 x g o v gz) (hS109 : ∀ x g o v gz, S 109 x g o v gz → sn109 x g o v gz) (hS114 : ∀ x g o v gz, S 114 x g o v gz → sn114 x g o v gz) (hS115 : ∀ x g o v gz, S 115 x g o v gz → sn115 x g o v gz) (hS117 : ∀ x g o v gz, S 117 x g o v gz → sn117 x g o v gz) (hS120 : ∀ x g o v gz, S 120 x g o v gz → sn120 x g o v gz) (hS139 : ∀ x g o v gz, S 139 x g o v gz → sn139 x g o v gz) {a : List Int} {g : rHp} : ∀ (ρ : Nat → Int) (γ : Nat → rHp), zO 21 S a g q156_11 ρ γ → zGl (fun _ _ _ => True) (sn156 a g) q156_11 ρ γ := by
  intro ρ γ h
  obtain ⟨ha, hg, hr, hf, hm, hc, hl⟩ := h
  have ha : a = [ρ 0, ρ 1, ρ 2, ρ 3, ρ 4, ρ 5, ρ 6, ρ 7, ρ 8, ρ 9, ρ 10, ρ 11, ρ 12, ρ 13, ρ 14, ρ 15, ρ 16, ρ 17, ρ 18, ρ 19, ρ 20] := ha
  subst ha
  subst hg
  obtain ⟨r0, r1, r2, r3, r4, r5, r6, r7, r8, r9, r10, r11, r12, r13, r14, r15, r16, r17, r18, r19, r20, r21, r22, r23, r24, -⟩ := hr
  have r0 : ((-9223372036854775808) : Int) ≤ ρ 0 ∧ ρ 0 ≤ 9223372036854775807 := r0
  have r1 : ((-2147483648) : Int) ≤ ρ 1 ∧ ρ 1 ≤ 2147483647 := r1
  have r2 : (0 : Int) ≤ ρ 2 ∧ ρ 2 ≤ 60 := r2
  have r3 : (0 : Int) ≤ ρ 3 ∧ ρ 3 ≤ 60 := r3
  have r4 : (0 : Int) ≤ ρ 4 ∧ ρ 4 ≤ 7 := r4
  have r5 : (0 : Int) ≤ ρ 5 ∧ ρ 5 ≤ 1999 := r5
  have r6 : (0 : Int) ≤ ρ 6 ∧ ρ 6 ≤ 2000 := r6
  have r7 : (0 : Int) ≤ ρ 7 ∧ ρ 7 ≤ 8 := r7
  have r8 : ((-1) : Int) ≤ ρ 8 ∧ ρ 8 ≤ 7 := r8
  have r9 : ((-1) : Int) ≤ ρ 9 ∧ ρ 9 ≤ 19 := r9
  have r10 : (0 : Int) ≤ ρ 10 ∧ ρ 10 ≤ 4 := r10
  have r11 : ((-2147483648) : Int) ≤ ρ 11 ∧ ρ 11 ≤ 2147483647 := r11
  have r12 : ((-2147483648) : Int) ≤ ρ 12 ∧ ρ 12 ≤ 2147483647 := r12
  have r13 : ((-2147483648) : Int) ≤ ρ 13 ∧ ρ 13 ≤ 2147483647 := r13
  have r14 : (0 : Int) ≤ ρ 14 ∧ ρ 14 ≤ 8 := r14
  have r15 : (0 : Int) ≤ ρ 15 ∧ ρ 15 ≤ 5120 := r15
  have r16 : (0 : Int) ≤ ρ 16 ∧ ρ 16 ≤ 4 := r16
  have r17 : ((-2147483648) : Int) ≤ ρ 17 ∧ ρ 17 ≤ 2147483647 := r17
  have r18 : ((-1) : Int) ≤ ρ 18 ∧ ρ 18 ≤ 19 := r18
  have r19 : ((-1) : Int) ≤ ρ 19 ∧ ρ 19 ≤ 3 := r19
  have r20 : (0 : Int) ≤ ρ 20 ∧ ρ 20 ≤ 4 := r20
  have r21 : (1 : Int) ≤ ρ 21 ∧ ρ 21 ≤ 2000 := r21
  have r22 : (361 : Int) ≤ ρ 22 ∧ ρ 22 ≤ 361 := r22
  have r23 : (0 : Int) ≤ ρ 23 ∧ ρ 23 ≤ 7 := r23
  have r24 : (1 : Int) ≤ ρ 24 ∧ ρ 24 ≤ 8 := r24
  obtain ⟨f0, f1, f2, f3, f4, f5, -⟩ := hf
  have f0 : (0 : Int) ≤ ρ 24 + -ρ 23 + (-1) := f0
  have f1 : (0 : Int) ≤ ρ 24 + -ρ 14 := f1
  have f2 : (0 : Int) ≤ -ρ 23 + ρ 14 := f2
  have f3 : (0 : Int) ≤ ρ 6 + -ρ 5 + (-1) := f3
  have f4 : (0 : Int) ≤ ρ 21 + -ρ 5 + (-1) := f4
  have f5 : (0 : Int) ≤ -ρ 21 + ρ 6 := f5
  obtain ⟨m0, m1, m2, m3, m4, m5, m6, m7, m8, m9, m10, m11, m12, m13, m14, m15, m16, m17, m18, m19, m20, m21, m22, m23, m24, m25, m26, m27, m28, m29, m30, m31, m32, -⟩ := hm
  have m0 : γ 0 1 0 10 = ρ 2 := m0
  have m1 : γ 0 40 0 (ρ 2) = ρ 3 := m1
  have m2 : γ 0 9 (ρ 3) 2 = ρ 4 := m2
  have m3 : γ 0 2 0 6 = ρ 5 := m3
  have m4 : γ 0 2 0 3 = ρ 6 := m4
  have m5 : γ 0 10 (ρ 4 + 9 * ρ 3 + 1) 4 = ρ 7 := m5
  have m6 : γ 0 10 (ρ 4 + 9 * ρ 3 + 1) 11 = ρ 8 := m6
  have m7 : γ 0 10 (9 * ρ 3) 8 = ρ 9 := m7
  have m8 : γ 0 10 (9 * ρ 3) 12 = ρ 10 := m8
  have m9 : γ 0 2 0 4 = ρ 11 := m9
  have m10 : γ 0 2 0 5 = ρ 12 := m10
  have m11 : γ 0 2 0 9 = ρ 13 := m11
  have m12 : γ 0 2 0 13 = ρ 14 := m12
  have m13 : γ 0 3 0 1 = ρ 15 := m13
  have m14 : γ 0 10 (ρ 4 + 9 * ρ 3 + 1) 5 = ρ 16 := m14
  have m15 : γ 0 10 (ρ 4 + 9 * ρ 3 + 1) 7 = ρ 17 := m15
  have m16 : γ 0 10 (ρ 4 + 9 * ρ 3 + 1) 8 = ρ 18 := m16
  have m17 : γ 0 10 (ρ 4 + 9 * ρ 3 + 1) 9 = ρ 19 := m17
  have m18 : γ 0 10 (ρ 4 + 9 * ρ 3 + 1) 12 = ρ 20 := m18
  have m19 : γ 1 2 0 6 = ρ 21 := m19
  have m20 : γ 1 2 0 4 = ρ 11 := m20
  have m21 : γ 1 2 0 9 = ρ 5 := m21
  have m22 : γ 1 2 0 8 = ρ 22 := m22
  have m23 : γ 2 10 (9 * ρ 3) 8 = ρ 9 := m23
  have m24 : γ 2 10 (9 * ρ 3) 12 = ρ 10 := m24
  have m25 : γ 2 10 (ρ 4 + 9 * ρ 3 + 1) 4 = 6 := m25
  have m26 : γ 2 10 (ρ 4 + 9 * ρ 3 + 1) 5 = 0 := m26
  have m27 : γ 2 10 (ρ 4 + 9 * ρ 3 + 1) 7 = ρ 1 := m27
  have m28 : γ 2 10 (ρ 4 + 9 * ρ 3 + 1) 8 = (-1) := m28
  have m29 : γ 2 10 (ρ 4 + 9 * ρ 3 + 1) 9 = (-1) := m29
  have m30 : γ 2 10 (ρ 4 + 9 * ρ 3 + 1) 12 = 0 := m30
  have m31 : γ 3 2 0 13 = ρ 24 := m31
  have m32 : γ 6 2 0 4 = ρ 1 := m32
  obtain ⟨⟨⟨⟨⟨⟨-, c1⟩, c2⟩, c3⟩, c4⟩, c5⟩, c6⟩ := hc
  have c1 : ∀ (G : Nat) (k j : Int), ¬ rMdP m78_ G j → γ 1 G k j = γ 0 G k j := c1
  have c2 : ∀ (G : Nat) (k j : Int), ¬ rMdP m70_ G j → γ 2 G k j = γ 1 G k j := c2
  have c3 : ∀ (G : Nat) (k j : Int), ¬ rMdP m82_ G j → γ 3 G k j = γ 2 G k j := c3
  have c4 : γ 4 = rUp (γ 3) 10 (ρ 4 + 9 * ρ 3 + 1) 11 (ρ 23) := c4
  have c5 : ∀ (G : Nat) (k j : Int), ¬ rMdP m0_ G j → γ 5 G k j = γ 4 G k j := c5
  have c6 : ∀ (G : Nat) (k j : Int), ¬ rMdP m72_ G j → γ 6 G k j = γ 5 G k j := c6
  obtain ⟨l0, l1, l2, l3, l4, -⟩ := hl
  have l0 : sn115 [ρ 5, ρ 6, ρ 11, ρ 13] (γ 0) 0 1 (γ 1) := hS115 _ _ _ _ _ l0
  have l1 : sn103 [6, 0, ρ 1, ρ 2, ρ 3, ρ 4, ρ 9, ρ 10, ρ 7, ρ 16, ρ 17, ρ 18, ρ 19, ρ 20] (γ 1) 0 0 (γ 2) := hS103 _ _ _ _ _ l1
  have l2 : sn120 [ρ 0, ρ 14] (γ 2) 0 (ρ 23) (γ 3) := hS120 _ _ _ _ _ l2
  have l3 : sn117 [ρ 23, ρ 12] (γ 4) 0 1 (γ 5) := hS117 _ _ _ _ _ l3
  have l4 : sn109 [ρ 1, ρ 11] (γ 5) 0 0 (γ 6) := hS109 _ _ _ _ _ l4
  show sn156 [ρ 0, ρ 1, ρ 2, ρ 3, ρ 4, ρ 5, ρ 6, ρ 7, ρ 8, ρ 9, ρ 10, ρ 11, ρ 12, ρ 13, ρ 14, ρ 15, ρ 16, ρ 17, ρ 18, ρ 19, ρ 20] (γ 0) 0 0 (γ 6)
  refine Eq.symm ?_
  show fn156 [ρ 0, ρ 1] (γ 0) = _
  unfold fn156
  refine (zLet_eq (show _ = ρ 0 from rfl)).trans ?_
  refine (zLet_eq (show _ = ρ 1 from rfl)).trans ?_
  refine (zLet_eq m0).trans ?_
  refine (zLet_eq m1).trans ?_
  refine (zLet_eq m2).trans ?_
  refine (zLet_eq m3).trans ?_
  refine (zLet_eq m10).trans ?_
  refine (zLet_eq (show fn115 [] (γ 0) = (0, 1, γ 1) from l0.symm)).trans ?_
  refine (zLet_eq (show _ = γ 1 from rfl)).trans ?_
  refine (if_pos (show (1 : Int) ≤ 1 by omega)).trans ?_
  refine (zLet_eq m22).trans ?_
  refine (if_pos (show ρ 22 = 361 by omega)).trans ?_
  refine (zLet_eq (show fn103 [6, 0, ρ 1] (γ 1) = (0, 0, γ 2) from l1.symm)).trans ?_
  refine (zLet_eq (show _ = γ 2 from rfl)).trans ?_
  refine (zLet_eq (show fn120 [ρ 0] (γ 2) = (0, ρ 23, γ 3) from l2.symm)).trans ?_
  refine (zLet_eq (show _ = γ 3 from rfl)).trans ?_
  refine (zLet_eq (show _ = ρ 23 from rfl)).trans ?_
  refine (zLet_eq c4.symm).trans ?_
  refine (if_neg (show ¬ (ρ 23 < 0) by omega)).trans ?_
  refine (zLet_eq (show fn117 [ρ 23] (γ 4) = (0, 1, γ 5) from l3.symm)).trans ?_
  refine (zLet_eq (show _ = γ 5 from rfl)).trans ?_
  refine (if_pos (show (1 : Int) ≤ 1 by omega)).trans ?_
  refine (zLet_eq (show fn109 [ρ 1] (γ 5) = (0, 0, γ 6) from l4.symm)).trans ?_
  refine (zLet_eq (show _ = γ 6 from rfl)).trans ?_
  rfl
theorem vn156_12 {S : Nat → zSpc} (hS103 : ∀ x g o v gz, S 103 x g o v gz → sn103 x g o v gz) (hS109 : ∀ x g o v gz, S 109 x g o v gz → sn109 x g o v gz) (hS114 : ∀ x g o v gz, S 114 x g o v gz → sn114 x g o v gz) (hS115 : ∀ x g o v gz, S 115 x g o v gz → sn115 x g o v gz) (hS117 : ∀ x g o v gz, S 117 x g o v gz → sn117 x g o v gz) (hS120 : ∀ x g o v gz, S 120 x g o v gz → sn120 x g o v gz) (hS139 : ∀ x g o v gz, S 139 x g o v gz → sn139 x g o v gz) {a : List Int} {g : rHp} : ∀ (ρ : Nat → Int) (γ : Nat → rHp), zO 21 S a g q156_12 ρ γ → zGl (fun _ _ _ => True) (sn156 a g) q156_12 ρ γ := by
  intro ρ γ h
  obtain ⟨ha, hg, hr, hf, hm, hc, hl⟩ := h
  have ha : a = [ρ 0, ρ 1, ρ 2, ρ 3, ρ 4, ρ 5, ρ 6, ρ 7, ρ 8, ρ 9, ρ 10, ρ 11, ρ 12, ρ 13, ρ 14, ρ 15, ρ 16, ρ 17, ρ 18, ρ 19, ρ 20] := ha
  subst ha
  subst hg
  obtain ⟨r0, r1, r2, r3, r4, r5, r6, r7, r8, r9, r10, r11, r12, r13, r14, r15, r16, r17, r18, r19, r20, r21, r22, -⟩ := hr
  have r0 : ((-9223372036854775808) : Int) ≤ ρ 0 ∧ ρ 0 ≤ 9223372036854775807 := r0
  have r1 : ((-2147483648) : Int) ≤ ρ 1 ∧ ρ 1 ≤ 2147483647 := r1
  have r2 : (0 : Int) ≤ ρ 2 ∧ ρ 2 ≤ 60 := r2
  have r3 : (0 : Int) ≤ ρ 3 ∧ ρ 3 ≤ 60 := r3
  have r4 : (0 : Int) ≤ ρ 4 ∧ ρ 4 ≤ 7 := r4
  have r5 : (0 : Int) ≤ ρ 5 ∧ ρ 5 ≤ 1999 := r5
  have r6 : (0 : Int) ≤ ρ 6 ∧ ρ 6 ≤ 2000 := r6
  have r7 : (0 : Int) ≤ ρ 7 ∧ ρ 7 ≤ 8 := r7
  have r8 : ((-1) : Int) ≤ ρ 8 ∧ ρ 8 ≤ 7 := r8
  have r9 : ((-1) : Int) ≤ ρ 9 ∧ ρ 9 ≤ 19 := r9
  have r10 : (0 : Int) ≤ ρ 10 ∧ ρ 10 ≤ 4 := r10
  have r11 : ((-2147483648) : Int) ≤ ρ 11 ∧ ρ 11 ≤ 2147483647 := r11
  have r12 : ((-2147483648) : Int) ≤ ρ 12 ∧ ρ 12 ≤ 2147483647 := r12
  have r13 : ((-2147483648) : Int) ≤ ρ 13 ∧ ρ 13 ≤ 2147483647 := r13
  have r14 : (0 : Int) ≤ ρ 14 ∧ ρ 14 ≤ 8 := r14
  have r15 : (0 : Int) ≤ ρ 15 ∧ ρ 15 ≤ 5120 := r15
  have r16 : (0 : Int) ≤ ρ 16 ∧ ρ 16 ≤ 4 := r16
  have r17 : ((-2147483648) : Int) ≤ ρ 17 ∧ ρ 17 ≤ 2147483647 := r17
  have r18 : ((-1) : Int) ≤ ρ 18 ∧ ρ 18 ≤ 19 := r18
  have r19 : ((-1) : Int) ≤ ρ 19 ∧ ρ 19 ≤ 3 := r19
  have r20 : (0 : Int) ≤ ρ 20 ∧ ρ 20 ≤ 4 := r20
  have r21 : (1 : Int) ≤ ρ 21 ∧ ρ 21 ≤ 2000 := r21
  have r22 : ((-9223372036854775808) : Int) ≤ ρ 22 ∧ ρ 22 ≤ 9223372036854775807 := r22
  obtain ⟨f0, f1, f2, -⟩ := hf
  have f0 : (0 : Int) ≤ ρ 6 + -ρ 5 + (-1) := f0
  have f1 : (0 : Int) ≤ ρ 21 + -ρ 5 + (-1) := f1
  have f2 : (0 : Int) ≤ -ρ 21 + ρ 6 := f2
  obtain ⟨m0, m1, m2, m3, m4, m5, m6, m7, m8, m9, m10, m11, m12, m13, m14, m15, m16, m17, m18, m19, m20, m21, m22, m23, -⟩ := hm
  have m0 : γ 0 1 0 10 = ρ 2 := m0
  have m1 : γ 0 40 0 (ρ 2) = ρ 3 := m1
  have m2 : γ 0 9 (ρ 3) 2 = ρ 4 := m2
  have m3 : γ 0 2 0 6 = ρ 5 := m3
  have m4 : γ 0 2 0 3 = ρ 6 := m4
  have m5 : γ 0 10 (ρ 4 + 9 * ρ 3 + 1) 4 = ρ 7 := m5
  have m6 : γ 0 10 (ρ 4 + 9 * ρ 3 + 1) 11 = ρ 8 := m6
  have m7 : γ 0 10 (9 * ρ 3) 8 = ρ 9 := m7
  have m8 : γ 0 10 (9 * ρ 3) 12 = ρ 10 := m8
  have m9 : γ 0 2 0 4 = ρ 11 := m9
  have m10 : γ 0 2 0 5 = ρ 12 := m10
  have m11 : γ 0 2 0 9 = ρ 13 := m11
  have m12 : γ 0 2 0 13 = ρ 14 := m12
  have m13 : γ 0 3 0 1 = ρ 15 := m13
  have m14 : γ 0 10 (ρ 4 + 9 * ρ 3 + 1) 5 = ρ 16 := m14
  have m15 : γ 0 10 (ρ 4 + 9 * ρ 3 + 1) 7 = ρ 17 := m15
  have m16 : γ 0 10 (ρ 4 + 9 * ρ 3 + 1) 8 = ρ 18 := m16
  have m17 : γ 0 10 (ρ 4 + 9 * ρ 3 + 1) 9 = ρ 19 := m17
  have m18 : γ 0 10 (ρ 4 + 9 * ρ 3 + 1) 12 = ρ 20 := m18
  have m19 : γ 1 2 0 6 = ρ 21 := m19
  have m20 : γ 1 2 0 4 = ρ 11 := m20
  have m21 : γ 1 2 0 9 = ρ 5 := m21
  have m22 : γ 1 2 0 8 = ρ 22 := m22
  have m23 : γ 2 2 0 4 = ρ 5 := m23
  obtain ⟨⟨-, c1⟩, c2⟩ := hc
  have c1 : ∀ (G : Nat) (k j : Int), ¬ rMdP m78_ G j → γ 1 G k j = γ 0 G k j := c1
  have c2 : ∀ (G : Nat) (k j : Int), ¬ rMdP m72_ G j → γ 2 G k j = γ 1 G k j := c2
  obtain ⟨l0, l1, l2, -⟩ := hl
  have l0 : sn115 [ρ 5, ρ 6, ρ 11, ρ 13] (γ 0) 0 1 (γ 1) := hS115 _ _ _ _ _ l0
  have l1 : ρ 22 ≠ 361 := l1
  have l2 : sn109 [ρ 5, ρ 11] (γ 1) 0 0 (γ 2) := hS109 _ _ _ _ _ l2
  show sn156 [ρ 0, ρ 1, ρ 2, ρ 3, ρ 4, ρ 5, ρ 6, ρ 7, ρ 8, ρ 9, ρ 10, ρ 11, ρ 12, ρ 13, ρ 14, ρ 15, ρ 16, ρ 17, ρ 18, ρ 19, ρ 20] (γ 0) 0 0 (γ 2)
  refine Eq.symm ?_
  show fn156 [ρ 0, ρ 1] (γ 0) = _
  unfold fn156
  refine (zLet_eq (show _ = ρ 0 from rfl)).trans ?_
  refine (zLet_eq (show _ = ρ 1 from rfl)).trans ?_
  refine (zLet_eq m0).trans ?_
  refine (zLet_eq m1).trans ?_
  refine (zLet_eq m2).trans ?_
  refine (zLet_eq m3).trans ?_
  refine (zLet_eq m10).trans ?_
  refine (zLet_eq (show fn115 [] (γ 0) = (0, 1, γ 1) from l0.symm)).trans ?_
  refine (zLet_eq (show _ = γ 1 from rfl)).trans ?_
  refine (if_pos (show (1 : Int) ≤ 1 by omega)).trans ?_
  refine (zLet_eq m22).trans ?_
  refine (if_neg (show ¬ (ρ 22 = 361) by omega)).trans ?_
  refine (zLet_eq (show fn109 [ρ 5] (γ 1) = (0, 0, γ 2) from l2.symm)).trans ?_
  refine (zLet_eq (show _ = γ 2 from rfl)).trans ?_
  rfl
theorem yn156 {S : Nat → zSpc} (hS103 : ∀ x g o v gz, S 103 x g o v gz → sn103 x g o v gz) (hS109 : ∀ x g o v gz, S 109 x g o v gz → sn109 x g o v gz) (hS114 : ∀ x g o v gz, S 114 x g o v gz → sn114 x g o v gz) (hS115 : ∀ x g o v gz, S 115 x g o v gz → sn115 x g o v gz) (hS117 : ∀ x g o v gz, S 117 x g o v gz → sn117 x g o v gz) (hS120 : ∀ x g o v gz, S 120 x g o v gz → sn120 x g o v gz) (hS139 : ∀ x g o v gz, S 139 x g o v gz → sn139 x g o v gz) : ∀ x g o v gz, zSem uW uT w156_.2.2.2.1 w156_.2.2.1.1.length S q156 (fun i => q156a.getD i []) (zNA a156_) x g o v gz → sn156 x g o v gz := by
  intro a g o v gz h
  exact zSem_all (l0 := q156) (las := q156a) (S := S) (J := (fun _ _ _ => True)) (P := sn156 a g) (fun _ => (show zAll _ [q156_0, q156_1, q156_2, q156_3, q156_4, q156_5, q156_6, q156_7, q156_8, q156_9, q156_10, q156_11, q156_12] from (zAll_c (vn156_0 hS103 hS109 hS114 hS115 hS117 hS120 hS139) (zAll_c (vn156_1 hS103 hS109 hS114 hS115 hS117 hS120 hS139) (zAll_c (vn156_2 hS103 hS109 hS114 hS115 hS117 hS120 hS139) (zAll_c (vn156_3 hS103 hS109 hS114 hS115 hS117 hS120 hS139) (zAll_c (vn156_4 hS103 hS109 hS114 hS115 hS117 hS120 hS139) (zAll_c (vn156_5 hS103 hS109 hS114 hS115 hS117 hS120 hS139) (zAll_c (vn156_6 hS103 hS109 hS114 hS115 hS117 hS120 hS139) (zAll_c (vn156_7 hS103 hS109 hS114 hS115 hS117 hS120 hS139) (zAll_c (vn156_8 hS103 hS109 hS114 hS115 hS117 hS120 hS139) (zAll_c (vn156_9 hS103 hS109 hS114 hS115 hS117 hS120 hS139) (zAll_c (vn156_10 hS103 hS109 hS114 hS115 hS117 hS120 hS139) (zAll_c (vn156_11 hS103 hS109 hS114 hS115 hS117 hS120 hS139) (zAll_c (vn156_12 hS103 hS109 hS114 hS115 hS117 hS120 hS139) zAll_n))))))))))))))) (fun _ => (show zAllI _ 0 [] from trivial)) h
theorem vn157_0 {S : Nat → zSpc} (hS103 : ∀ x g o v gz, S 103 x g o v gz → sn103 x g o v gz) (hS104 : ∀ x g o v gz, S 104 x g o v gz → sn104 x g o v gz) (hS105 : ∀ x g o v gz, S 105 x g o v gz → sn105 x g o v gz) (hS106 : ∀ x g o v gz, S 106 x g o v gz → sn106 x g o v gz) (hS107 : ∀ x g o v gz, S 107 x g o v gz → sn107 x g o v gz) (hS109 : ∀ x g o v gz, S 109 x g o v gz → sn109 x g o v gz) (hS114 : ∀ x g o v gz, S 114 x g o v gz → sn114 x g o v gz) (hS115 : ∀ x g o v gz, S 115 x g o v gz → sn115 x g o v gz) (hS116 : ∀ x g o v gz, S 116 x g o v gz → sn116 x g o v gz) (hS135 : ∀ x g o v gz, S 135 x g o v gz → sn135 x g o v gz) (hS139 : ∀ x g o v gz, S 139 x g o v gz → sn139 x g o v gz) (hS145 : ∀ x g o v gz, S 145 x g o v gz → sn145 x g o v gz) (hS154 : ∀ x g o v gz, S 154 x g o v gz → sn154 x g o v gz) (hS155 : ∀ x g o v gz, S 155 x g o v gz → sn155 x g o v gz) (hS156 : ∀ x g o v gz, S 156 x g o v gz → sn156 x g o v gz) {a : List Int} {g : rHp} : ∀ (ρ : Nat → Int) (γ : Nat → rHp), zO 22 S a g q157_0 ρ γ → zGl (fun _ _ _ => True) (sn157 a g) q157_0 ρ γ := by
  intro ρ γ h
  obtain ⟨ha, hg, hr, hf, hm, hc, hl⟩ := h
  have ha : a = [ρ 0, ρ 1, ρ 2, ρ 3, ρ 4, ρ 5, ρ 6, ρ 7, ρ 8, ρ 9, ρ 10, ρ 11, ρ 12, ρ 13, ρ 14, ρ 15, ρ 16, ρ 17, ρ 18, ρ 19, ρ 20, ρ 21] := ha
  subst ha
  subst hg
  obtain ⟨r0, r1, r2, r3, r4, r5, r6, r7, r8, r9, r10, r11, r12, r13, r14, r15, r16, r17, r18, r19, r20, r21, r22, -⟩ := hr
  have r0 : (0 : Int) ≤ ρ 0 ∧ ρ 0 ≤ 60 := r0
  have r1 : (0 : Int) ≤ ρ 1 ∧ ρ 1 ≤ 60 := r1
  have r2 : (0 : Int) ≤ ρ 2 ∧ ρ 2 ≤ 7 := r2
  have r3 : (0 : Int) ≤ ρ 3 ∧ ρ 3 ≤ 2000 := r3
  have r4 : (0 : Int) ≤ ρ 4 ∧ ρ 4 ≤ 2000 := r4
  have r5 : (0 : Int) ≤ ρ 5 ∧ ρ 5 ≤ 8 := r5
  have r6 : ((-1) : Int) ≤ ρ 6 ∧ ρ 6 ≤ 7 := r6
  have r7 : ((-1) : Int) ≤ ρ 7 ∧ ρ 7 ≤ 19 := r7
  have r8 : (0 : Int) ≤ ρ 8 ∧ ρ 8 ≤ 2 := r8
  have r9 : ((-1) : Int) ≤ ρ 9 ∧ ρ 9 ≤ 19 := r9
  have r10 : (0 : Int) ≤ ρ 10 ∧ ρ 10 ≤ 4 := r10
  have r11 : (0 : Int) ≤ ρ 11 ∧ ρ 11 ≤ 20 := r11
  have r12 : ((-2147483648) : Int) ≤ ρ 12 ∧ ρ 12 ≤ 2147483647 := r12
  have r13 : ((-2147483648) : Int) ≤ ρ 13 ∧ ρ 13 ≤ 2147483647 := r13
  have r14 : ((-2147483648) : Int) ≤ ρ 14 ∧ ρ 14 ≤ 2147483647 := r14
  have r15 : (0 : Int) ≤ ρ 15 ∧ ρ 15 ≤ 8 := r15
  have r16 : (0 : Int) ≤ ρ 16 ∧ ρ 16 ≤ 32 := r16
  have r17 : (0 : Int) ≤ ρ 17 ∧ ρ 17 ≤ 5120 := r17
  have r18 : (0 : Int) ≤ ρ 18 ∧ ρ 18 ≤ 4 := r18
  have r19 : ((-2147483648) : Int) ≤ ρ 19 ∧ ρ 19 ≤ 2147483647 := r19
  have r20 : ((-1) : Int) ≤ ρ 20 ∧ ρ 20 ≤ 3 := r20
  have r21 : (0 : Int) ≤ ρ 21 ∧ ρ 21 ≤ 4 := r21
  have r22 : (0 : Int) ≤ ρ 22 ∧ ρ 22 ≤ 2000 := r22
  obtain ⟨f0, f1, -⟩ := hf
  have f0 : (0 : Int) ≤ ρ 22 + -ρ 3 := f0
  have f1 : (0 : Int) ≤ ρ 22 + -ρ 4 := f1
  obtain ⟨m0, m1, m2, m3, m4, m5, m6, m7, m8, m9, m10, m11, m12, m13, m14, m15, m16, m17, m18, m19, m20, m21, m22, m23, -⟩ := hm
  have m0 : γ 0 1 0 10 = ρ 0 := m0
  have m1 : γ 0 40 0 (ρ 0) = ρ 1 := m1
  have m2 : γ 0 9 (ρ 1) 2 = ρ 2 := m2
  have m3 : γ 0 2 0 6 = ρ 3 := m3
  have m4 : γ 0 2 0 3 = ρ 4 := m4
  have m5 : γ 0 10 (ρ 2 + 9 * ρ 1 + 1) 4 = ρ 5 := m5
  have m6 : γ 0 10 (ρ 2 + 9 * ρ 1 + 1) 11 = ρ 6 := m6
  have m7 : γ 0 10 (ρ 2 + 9 * ρ 1 + 1) 8 = ρ 7 := m7
  have m8 : γ 0 2 0 7 = ρ 8 := m8
  have m9 : γ 0 10 (9 * ρ 1) 8 = ρ 9 := m9
  have m10 : γ 0 10 (9 * ρ 1) 12 = ρ 10 := m10
  have m11 : γ 0 1 0 7 = ρ 11 := m11
  have m12 : γ 0 2 0 4 = ρ 12 := m12
  have m13 : γ 0 2 0 5 = ρ 13 := m13
  have m14 : γ 0 2 0 9 = ρ 14 := m14
  have m15 : γ 0 2 0 13 = ρ 15 := m15
  have m16 : γ 0 2 0 16 = ρ 16 := m16
  have m17 : γ 0 3 0 1 = ρ 17 := m17
  have m18 : γ 0 10 (ρ 2 + 9 * ρ 1 + 1) 5 = ρ 18 := m18
  have m19 : γ 0 10 (ρ 2 + 9 * ρ 1 + 1) 7 = ρ 19 := m19
  have m20 : γ 0 10 (ρ 2 + 9 * ρ 1 + 1) 9 = ρ 20 := m20
  have m21 : γ 0 10 (ρ 2 + 9 * ρ 1 + 1) 12 = ρ 21 := m21
  have m22 : γ 1 2 0 6 = ρ 22 := m22
  have m23 : γ 5 2 0 4 = ρ 22 := m23
  obtain ⟨⟨⟨⟨⟨-, c1⟩, c2⟩, c3⟩, c4⟩, c5⟩ := hc
  have c1 : ∀ (G : Nat) (k j : Int), ¬ rMdP m77_ G j → γ 1 G k j = γ 0 G k j := c1
  have c2 : ∀ (G : Nat) (k j : Int), ¬ rMdP m0_ G j → γ 2 G k j = γ 1 G k j := c2
  have c3 : ∀ (G : Nat) (k j : Int), ¬ rMdP m0_ G j → γ 3 G k j = γ 2 G k j := c3
  have c4 : ∀ (G : Nat) (k j : Int), ¬ rMdP m0_ G j → γ 4 G k j = γ 3 G k j := c4
  have c5 : ∀ (G : Nat) (k j : Int), ¬ rMdP m72_ G j → γ 5 G k j = γ 4 G k j := c5
  obtain ⟨l0, l1, l2, l3, l4, -⟩ := hl
  have l0 : sn114 [ρ 3, ρ 4] (γ 0) 0 (-1) (γ 1) := hS114 _ _ _ _ _ l0
  have l1 : sn106 [(-1)] (γ 1) 0 0 (γ 2) := hS106 _ _ _ _ _ l1
  have l2 : sn105 [(-1)] (γ 2) 0 0 (γ 3) := hS105 _ _ _ _ _ l2
  have l3 : sn107 [(-1)] (γ 3) 0 0 (γ 4) := hS107 _ _ _ _ _ l3
  have l4 : sn109 [ρ 22, ρ 12] (γ 4) 0 0 (γ 5) := hS109 _ _ _ _ _ l4
  show sn157 [ρ 0, ρ 1, ρ 2, ρ 3, ρ 4, ρ 5, ρ 6, ρ 7, ρ 8, ρ 9, ρ 10, ρ 11, ρ 12, ρ 13, ρ 14, ρ 15, ρ 16, ρ 17, ρ 18, ρ 19, ρ 20, ρ 21] (γ 0) 0 0 (γ 5)
  refine Eq.symm ?_
  show fn157 [] (γ 0) = _
  unfold fn157
  refine (zLet_eq m0).trans ?_
  refine (zLet_eq m1).trans ?_
  refine (zLet_eq m2).trans ?_
  refine (zLet_eq (show fn114 [] (γ 0) = (0, (-1), γ 1) from l0.symm)).trans ?_
  refine (zLet_eq (show _ = γ 1 from rfl)).trans ?_
  refine (if_neg (show ¬ ((0 : Int) ≤ (-1)) by omega)).trans ?_
  refine (zLet_eq m22).trans ?_
  refine (zLet_eq (show fn106 [(-1)] (γ 1) = (0, 0, γ 2) from l1.symm)).trans ?_
  refine (zLet_eq (show _ = γ 2 from rfl)).trans ?_
  refine (zLet_eq (show fn105 [(-1)] (γ 2) = (0, 0, γ 3) from l2.symm)).trans ?_
  refine (zLet_eq (show _ = γ 3 from rfl)).trans ?_
  refine (zLet_eq (show fn107 [(-1)] (γ 3) = (0, 0, γ 4) from l3.symm)).trans ?_
  refine (zLet_eq (show _ = γ 4 from rfl)).trans ?_
  refine (zLet_eq (show fn109 [ρ 22] (γ 4) = (0, 0, γ 5) from l4.symm)).trans ?_
  refine (zLet_eq (show _ = γ 5 from rfl)).trans ?_
  rfl
theorem vn157_1 {S : Nat → zSpc} (hS103 : ∀ x g o v gz, S 103 x g o v gz → sn103 x g o v gz) (hS104 : ∀ x g o v gz, S 104 x g o v gz → sn104 x g o v gz) (hS105 : ∀ x g o v gz, S 105 x g o v gz → sn105 x g o v gz) (hS106 : ∀ x g o v gz, S 106 x g o v gz → sn106 x g o v gz) (hS107 : ∀ x g o v gz, S 107 x g o v gz → sn107 x g o v gz) (hS109 : ∀ x g o v gz, S 109 x g o v gz → sn109 x g o v gz) (hS114 : ∀ x g o v gz, S 114 x g o v gz → sn114 x g o v gz) (hS115 : ∀ x g o v gz, S 115 x g o v gz → sn115 x g o v gz) (hS116 : ∀ x g o v gz, S 116 x g o v gz → sn116 x g o v gz) (hS135 : ∀ x g o v gz, S 135 x g o v gz → sn135 x g o v gz) (hS139 : ∀ x g o v gz, S 139 x g o v gz → sn139 x g o v gz) (hS145 : ∀ x g o v gz, S 145 x g o v gz → sn145 x g o v gz) (hS154 : ∀ x g o v gz, S 154 x g o v gz → sn154 x g o v gz) (hS155 : ∀ x g o v gz, S 155 x g o v gz → sn155 x g o v gz) (hS156 : ∀ x g o v gz, S 156 x g o v gz → sn156 x g o v gz) {a : List Int} {g : rHp} : ∀ (ρ : Nat → Int) (γ : Nat → rHp), zO 22 S a g q157_1 ρ γ → zGl (fun _ _ _ => True) (sn157 a g) q157_1 ρ γ := by
  intro ρ γ h
  obtain ⟨ha, hg, hr, hf, hm, hc, hl⟩ := h
  have ha : a = [ρ 0, ρ 1, ρ 2, ρ 3, ρ 4, ρ 5, ρ 6, ρ 7, ρ 8, ρ 9, ρ 10, ρ 11, ρ 12, ρ 13, ρ 14, ρ 15, ρ 16, ρ 17, ρ 18, ρ 19, ρ 20, ρ 21] := ha
  subst ha
  subst hg
  obtain ⟨r0, r1, r2, r3, r4, r5, r6, r7, r8, r9, r10, r11, r12, r13, r14, r15, r16, r17, r18, r19, r20, r21, r22, r23, r24, -⟩ := hr
  have r0 : (0 : Int) ≤ ρ 0 ∧ ρ 0 ≤ 60 := r0
  have r1 : (0 : Int) ≤ ρ 1 ∧ ρ 1 ≤ 60 := r1
  have r2 : (0 : Int) ≤ ρ 2 ∧ ρ 2 ≤ 7 := r2
  have r3 : (0 : Int) ≤ ρ 3 ∧ ρ 3 ≤ 2000 := r3
  have r4 : (0 : Int) ≤ ρ 4 ∧ ρ 4 ≤ 2000 := r4
  have r5 : (0 : Int) ≤ ρ 5 ∧ ρ 5 ≤ 8 := r5
  have r6 : ((-1) : Int) ≤ ρ 6 ∧ ρ 6 ≤ 7 := r6
  have r7 : ((-1) : Int) ≤ ρ 7 ∧ ρ 7 ≤ 19 := r7
  have r8 : (0 : Int) ≤ ρ 8 ∧ ρ 8 ≤ 2 := r8
  have r9 : ((-1) : Int) ≤ ρ 9 ∧ ρ 9 ≤ 19 := r9
  have r10 : (0 : Int) ≤ ρ 10 ∧ ρ 10 ≤ 4 := r10
  have r11 : (0 : Int) ≤ ρ 11 ∧ ρ 11 ≤ 20 := r11
  have r12 : ((-2147483648) : Int) ≤ ρ 12 ∧ ρ 12 ≤ 2147483647 := r12
  have r13 : ((-2147483648) : Int) ≤ ρ 13 ∧ ρ 13 ≤ 2147483647 := r13
  have r14 : ((-2147483648) : Int) ≤ ρ 14 ∧ ρ 14 ≤ 2147483647 := r14
  have r15 : (0 : Int) ≤ ρ 15 ∧ ρ 15 ≤ 8 := r15
  have r16 : (0 : Int) ≤ ρ 16 ∧ ρ 16 ≤ 32 := r16
  have r17 : (0 : Int) ≤ ρ 17 ∧ ρ 17 ≤ 5120 := r17
  have r18 : (0 : Int) ≤ ρ 18 ∧ ρ 18 ≤ 4 := r18
  have r19 : ((-2147483648) : Int) ≤ ρ 19 ∧ ρ 19 ≤ 2147483647 := r19
  have r20 : ((-1) : Int) ≤ ρ 20 ∧ ρ 20 ≤ 3 := r20
  have r21 : (0 : Int) ≤ ρ 21 ∧ ρ 21 ≤ 4 := r21
  have r22 : (45 : Int) ≤ ρ 22 ∧ ρ 22 ≤ 45 := r22
  have r23 : (0 : Int) ≤ ρ 23 ∧ ρ 23 ≤ 2000 := r23
  have r24 : (0 : Int) ≤ ρ 24 ∧ ρ 24 ≤ 2000 := r24
  obtain ⟨f0, f1, f2, f3, -⟩ := hf
  have f0 : (0 : Int) ≤ ρ 24 + -ρ 23 := f0
  have f1 : (0 : Int) ≤ ρ 23 + -ρ 3 := f1
  have f2 : (0 : Int) ≤ -ρ 23 + ρ 4 + (-1) := f2
  have f3 : (0 : Int) ≤ ρ 4 + -ρ 3 + (-1) := f3
  obtain ⟨m0, m1, m2, m3, m4, m5, m6, m7, m8, m9, m10, m11, m12, m13, m14, m15, m16, m17, m18, m19, m20, m21, m22, m23, m24, -⟩ := hm
  have m0 : γ 0 1 0 10 = ρ 0 := m0
  have m1 : γ 0 40 0 (ρ 0) = ρ 1 := m1
  have m2 : γ 0 9 (ρ 1) 2 = ρ 2 := m2
  have m3 : γ 0 2 0 6 = ρ 3 := m3
  have m4 : γ 0 2 0 3 = ρ 4 := m4
  have m5 : γ 0 10 (ρ 2 + 9 * ρ 1 + 1) 4 = ρ 5 := m5
  have m6 : γ 0 10 (ρ 2 + 9 * ρ 1 + 1) 11 = ρ 6 := m6
  have m7 : γ 0 10 (ρ 2 + 9 * ρ 1 + 1) 8 = ρ 7 := m7
  have m8 : γ 0 2 0 7 = ρ 8 := m8
  have m9 : γ 0 10 (9 * ρ 1) 8 = ρ 9 := m9
  have m10 : γ 0 10 (9 * ρ 1) 12 = ρ 10 := m10
  have m11 : γ 0 1 0 7 = ρ 11 := m11
  have m12 : γ 0 2 0 4 = ρ 12 := m12
  have m13 : γ 0 2 0 5 = ρ 13 := m13
  have m14 : γ 0 2 0 9 = ρ 14 := m14
  have m15 : γ 0 2 0 13 = ρ 15 := m15
  have m16 : γ 0 2 0 16 = ρ 16 := m16
  have m17 : γ 0 3 0 1 = ρ 17 := m17
  have m18 : γ 0 10 (ρ 2 + 9 * ρ 1 + 1) 5 = ρ 18 := m18
  have m19 : γ 0 10 (ρ 2 + 9 * ρ 1 + 1) 7 = ρ 19 := m19
  have m20 : γ 0 10 (ρ 2 + 9 * ρ 1 + 1) 9 = ρ 20 := m20
  have m21 : γ 0 10 (ρ 2 + 9 * ρ 1 + 1) 12 = ρ 21 := m21
  have m22 : γ 1 2 0 6 = ρ 23 := m22
  have m23 : γ 5 2 0 6 = ρ 24 := m23
  have m24 : γ 5 2 0 4 = ρ 23 := m24
  obtain ⟨⟨⟨⟨⟨-, c1⟩, c2⟩, c3⟩, c4⟩, c5⟩ := hc
  have c1 : ∀ (G : Nat) (k j : Int), ¬ rMdP m77_ G j → γ 1 G k j = γ 0 G k j := c1
  have c2 : ∀ (G : Nat) (k j : Int), ¬ rMdP m0_ G j → γ 2 G k j = γ 1 G k j := c2
  have c3 : ∀ (G : Nat) (k j : Int), ¬ rMdP m0_ G j → γ 3 G k j = γ 2 G k j := c3
  have c4 : ∀ (G : Nat) (k j : Int), ¬ rMdP m0_ G j → γ 4 G k j = γ 3 G k j := c4
  have c5 : ∀ (G : Nat) (k j : Int), ¬ rMdP m80_ G j → γ 5 G k j = γ 4 G k j := c5
  obtain ⟨l0, l1, l2, l3, l4, l5, -⟩ := hl
  have l0 : sn114 [ρ 3, ρ 4] (γ 0) 0 (ρ 22) (γ 1) := hS114 _ _ _ _ _ l0
  have l1 : ρ 22 ≠ 33 := l1
  have l2 : sn106 [ρ 22] (γ 1) 0 0 (γ 2) := hS106 _ _ _ _ _ l2
  have l3 : sn105 [ρ 22] (γ 2) 0 0 (γ 3) := hS105 _ _ _ _ _ l3
  have l4 : sn107 [ρ 22] (γ 3) 0 0 (γ 4) := hS107 _ _ _ _ _ l4
  have l5 : sn116 [ρ 23, ρ 4, ρ 12] (γ 4) 0 0 (γ 5) := hS116 _ _ _ _ _ l5
  show sn157 [ρ 0, ρ 1, ρ 2, ρ 3, ρ 4, ρ 5, ρ 6, ρ 7, ρ 8, ρ 9, ρ 10, ρ 11, ρ 12, ρ 13, ρ 14, ρ 15, ρ 16, ρ 17, ρ 18, ρ 19, ρ 20, ρ 21] (γ 0) 0 0 (γ 5)
  refine Eq.symm ?_
  show fn157 [] (γ 0) = _
  unfold fn157
  refine (zLet_eq m0).trans ?_
  refine (zLet_eq m1).trans ?_
  refine (zLet_eq m2).trans ?_
  refine (zLet_eq (show fn114 [] (γ 0) = (0, ρ 22, γ 1) from l0.symm)).trans ?_
  refine (zLet_eq (show _ = γ 1 from rfl)).trans ?_
  refine (if_pos (show (0 : Int) ≤ ρ 22 by omega)).trans ?_
  refine (zLet_eq (show _ = ρ 22 from rfl)).trans ?_
  refine (zLet_eq m22).trans ?_
  refine (if_pos (show ρ 22 ≠ 33 by omega)).trans ?_
  refine (zLet_eq (show fn106 [ρ 22] (γ 1) = (0, 0, γ 2) from l2.symm)).trans ?_
  refine (zLet_eq (show _ = γ 2 from rfl)).trans ?_
  refine (if_neg (show ¬ ((1 : Int) ≤ 0) by omega)).trans ?_
  refine (zLet_eq (show fn105 [ρ 22] (γ 2) = (0, 0, γ 3) from l3.symm)).trans ?_
  refine (zLet_eq (show _ = γ 3 from rfl)).trans ?_
  refine (if_neg (show ¬ ((1 : Int) ≤ 0) by omega)).trans ?_
  refine (zLet_eq (show fn107 [ρ 22] (γ 3) = (0, 0, γ 4) from l4.symm)).trans ?_
  refine (zLet_eq (show _ = γ 4 from rfl)).trans ?_
  refine (if_neg (show ¬ ((1 : Int) ≤ 0) by omega)).trans ?_
  refine (if_pos (show ρ 22 = 45 by omega)).trans ?_
  refine (zLet_eq (show fn116 [] (γ 4) = (0, 0, γ 5) from l5.symm)).trans ?_
  refine (zLet_eq (show _ = γ 5 from rfl)).trans ?_
  refine (if_neg (show ¬ ((1 : Int) ≤ 0) by omega)).trans ?_
  rfl
theorem vn157_2 {S : Nat → zSpc} (hS103 : ∀ x g o v gz, S 103 x g o v gz → sn103 x g o v gz) (hS104 : ∀ x g o v gz, S 104 x g o v gz → sn104 x g o v gz) (hS105 : ∀ x g o v gz, S 105 x g o v gz → sn105 x g o v gz) (hS106 : ∀ x g o v gz, S 106 x g o v gz → sn106 x g o v gz) (hS107 : ∀ x g o v gz, S 107 x g o v gz → sn107 x g o v gz) (hS109 : ∀ x g o v gz, S 109 x g o v gz → sn109 x g o v gz) (hS114 : ∀ x g o v gz, S 114 x g o v gz → sn114 x g o v gz) (hS115 : ∀ x g o v gz, S 115 x g o v gz → sn115 x g o v gz) (hS116 : ∀ x g o v gz, S 116 x g o v gz → sn116 x g o v gz) (hS135 : ∀ x g o v gz, S 135 x g o v gz → sn135 x g o v gz) (hS139 : ∀ x g o v gz, S 139 x g o v gz → sn139 x g o v gz) (hS145 : ∀ x g o v gz, S 145 x g o v gz → sn145 x g o v gz) (hS154 : ∀ x g o v gz, S 154 x g o v gz → sn154 x g o v gz) (hS155 : ∀ x g o v gz, S 155 x g o v gz → sn155 x g o v gz) (hS156 : ∀ x g o v gz, S 156 x g o v gz → sn156 x g o v gz) {a : List Int} {g : rHp} : ∀ (ρ : Nat → Int) (γ : Nat → rHp), zO 22 S a g q157_2 ρ γ → zGl (fun _ _ _ => True) (sn157 a g) q157_2 ρ γ := by
  intro ρ γ h
  obtain ⟨ha, hg, hr, hf, hm, hc, hl⟩ := h
  have ha : a = [ρ 0, ρ 1, ρ 2, ρ 3, ρ 4, ρ 5, ρ 6, ρ 7, ρ 8, ρ 9, ρ 10, ρ 11, ρ 12, ρ 13, ρ 14, ρ 15, ρ 16, ρ 17, ρ 18, ρ 19, ρ 20, ρ 21] := ha
  subst ha
  subst hg
  obtain ⟨r0, r1, r2, r3, r4, r5, r6, r7, r8, r9, r10, r11, r12, r13, r14, r15, r16, r17, r18, r19, r20, r21, r22, r23, r24, r25, r26, r27, r28, -⟩ := hr
  have r0 : (0 : Int) ≤ ρ 0 ∧ ρ 0 ≤ 60 := r0
  have r1 : (0 : Int) ≤ ρ 1 ∧ ρ 1 ≤ 60 := r1
  have r2 : (0 : Int) ≤ ρ 2 ∧ ρ 2 ≤ 7 := r2
  have r3 : (0 : Int) ≤ ρ 3 ∧ ρ 3 ≤ 2000 := r3
  have r4 : (0 : Int) ≤ ρ 4 ∧ ρ 4 ≤ 2000 := r4
  have r5 : (0 : Int) ≤ ρ 5 ∧ ρ 5 ≤ 8 := r5
  have r6 : ((-1) : Int) ≤ ρ 6 ∧ ρ 6 ≤ 7 := r6
  have r7 : ((-1) : Int) ≤ ρ 7 ∧ ρ 7 ≤ 19 := r7
  have r8 : (0 : Int) ≤ ρ 8 ∧ ρ 8 ≤ 2 := r8
  have r9 : ((-1) : Int) ≤ ρ 9 ∧ ρ 9 ≤ 19 := r9
  have r10 : (0 : Int) ≤ ρ 10 ∧ ρ 10 ≤ 4 := r10
  have r11 : (0 : Int) ≤ ρ 11 ∧ ρ 11 ≤ 20 := r11
  have r12 : ((-2147483648) : Int) ≤ ρ 12 ∧ ρ 12 ≤ 2147483647 := r12
  have r13 : ((-2147483648) : Int) ≤ ρ 13 ∧ ρ 13 ≤ 2147483647 := r13
  have r14 : ((-2147483648) : Int) ≤ ρ 14 ∧ ρ 14 ≤ 2147483647 := r14
  have r15 : (0 : Int) ≤ ρ 15 ∧ ρ 15 ≤ 8 := r15
  have r16 : (0 : Int) ≤ ρ 16 ∧ ρ 16 ≤ 32 := r16
  have r17 : (0 : Int) ≤ ρ 17 ∧ ρ 17 ≤ 5120 := r17
  have r18 : (0 : Int) ≤ ρ 18 ∧ ρ 18 ≤ 4 := r18
  have r19 : ((-2147483648) : Int) ≤ ρ 19 ∧ ρ 19 ≤ 2147483647 := r19
  have r20 : ((-1) : Int) ≤ ρ 20 ∧ ρ 20 ≤ 3 := r20
  have r21 : (0 : Int) ≤ ρ 21 ∧ ρ 21 ≤ 4 := r21
  have r22 : (45 : Int) ≤ ρ 22 ∧ ρ 22 ≤ 45 := r22
  have r23 : (0 : Int) ≤ ρ 23 ∧ ρ 23 ≤ 2000 := r23
  have r24 : (1 : Int) ≤ ρ 24 ∧ ρ 24 ≤ 2000 := r24
  have r25 : ((-9223372036854775808) : Int) ≤ ρ 25 ∧ ρ 25 ≤ 9223372036854775807 := r25
  have r26 : (1 : Int) ≤ ρ 26 ∧ ρ 26 ≤ 1 := r26
  have r27 : (0 : Int) ≤ ρ 27 ∧ ρ 27 ≤ 2000 := r27
  have r28 : (0 : Int) ≤ ρ 28 ∧ ρ 28 ≤ 2000 := r28
  obtain ⟨f0, f1, f2, f3, f4, f5, f6, -⟩ := hf
  have f0 : (0 : Int) ≤ -ρ 28 + ρ 27 := f0
  have f1 : (0 : Int) ≤ ρ 27 + -ρ 24 := f1
  have f2 : (0 : Int) ≤ ρ 28 + -ρ 27 := f2
  have f3 : (0 : Int) ≤ ρ 24 + -ρ 23 + (-1) := f3
  have f4 : (0 : Int) ≤ ρ 23 + -ρ 3 := f4
  have f5 : (0 : Int) ≤ -ρ 23 + ρ 4 + (-1) := f5
  have f6 : (0 : Int) ≤ ρ 4 + -ρ 3 + (-1) := f6
  obtain ⟨m0, m1, m2, m3, m4, m5, m6, m7, m8, m9, m10, m11, m12, m13, m14, m15, m16, m17, m18, m19, m20, m21, m22, m23, m24, m25, m26, m27, m28, m29, m30, m31, m32, m33, m34, m35, m36, m37, -⟩ := hm
  have m0 : γ 0 1 0 10 = ρ 0 := m0
  have m1 : γ 0 40 0 (ρ 0) = ρ 1 := m1
  have m2 : γ 0 9 (ρ 1) 2 = ρ 2 := m2
  have m3 : γ 0 2 0 6 = ρ 3 := m3
  have m4 : γ 0 2 0 3 = ρ 4 := m4
  have m5 : γ 0 10 (ρ 2 + 9 * ρ 1 + 1) 4 = ρ 5 := m5
  have m6 : γ 0 10 (ρ 2 + 9 * ρ 1 + 1) 11 = ρ 6 := m6
  have m7 : γ 0 10 (ρ 2 + 9 * ρ 1 + 1) 8 = ρ 7 := m7
  have m8 : γ 0 2 0 7 = ρ 8 := m8
  have m9 : γ 0 10 (9 * ρ 1) 8 = ρ 9 := m9
  have m10 : γ 0 10 (9 * ρ 1) 12 = ρ 10 := m10
  have m11 : γ 0 1 0 7 = ρ 11 := m11
  have m12 : γ 0 2 0 4 = ρ 12 := m12
  have m13 : γ 0 2 0 5 = ρ 13 := m13
  have m14 : γ 0 2 0 9 = ρ 14 := m14
  have m15 : γ 0 2 0 13 = ρ 15 := m15
  have m16 : γ 0 2 0 16 = ρ 16 := m16
  have m17 : γ 0 3 0 1 = ρ 17 := m17
  have m18 : γ 0 10 (ρ 2 + 9 * ρ 1 + 1) 5 = ρ 18 := m18
  have m19 : γ 0 10 (ρ 2 + 9 * ρ 1 + 1) 7 = ρ 19 := m19
  have m20 : γ 0 10 (ρ 2 + 9 * ρ 1 + 1) 9 = ρ 20 := m20
  have m21 : γ 0 10 (ρ 2 + 9 * ρ 1 + 1) 12 = ρ 21 := m21
  have m22 : γ 1 2 0 6 = ρ 23 := m22
  have m23 : γ 5 2 0 6 = ρ 24 := m23
  have m24 : γ 5 2 0 4 = ρ 12 := m24
  have m25 : γ 6 10 (9 * ρ 1) 8 = ρ 9 := m25
  have m26 : γ 6 10 (9 * ρ 1) 12 = ρ 10 := m26
  have m27 : γ 6 10 (ρ 2 + 9 * ρ 1 + 1) 4 = 4 := m27
  have m28 : γ 6 10 (ρ 2 + 9 * ρ 1 + 1) 5 = 0 := m28
  have m29 : γ 6 10 (ρ 2 + 9 * ρ 1 + 1) 7 = ρ 23 := m29
  have m30 : γ 6 10 (ρ 2 + 9 * ρ 1 + 1) 8 = (-1) := m30
  have m31 : γ 6 10 (ρ 2 + 9 * ρ 1 + 1) 9 = (-1) := m31
  have m32 : γ 6 10 (ρ 2 + 9 * ρ 1 + 1) 12 = 0 := m32
  have m33 : γ 5 2 0 10 = ρ 25 := m33
  have m34 : γ 7 10 (ρ 2 + 9 * ρ 1 + 1) 5 = ρ 26 := m34
  have m35 : γ 8 2 0 6 = ρ 27 := m35
  have m36 : γ 8 10 (ρ 2 + 9 * ρ 1 + 1) 4 = 4 := m36
  have m37 : γ 8 2 0 4 = ρ 28 := m37
  obtain ⟨⟨⟨⟨⟨⟨⟨⟨-, c1⟩, c2⟩, c3⟩, c4⟩, c5⟩, c6⟩, c7⟩, c8⟩ := hc
  have c1 : ∀ (G : Nat) (k j : Int), ¬ rMdP m77_ G j → γ 1 G k j = γ 0 G k j := c1
  have c2 : ∀ (G : Nat) (k j : Int), ¬ rMdP m0_ G j → γ 2 G k j = γ 1 G k j := c2
  have c3 : ∀ (G : Nat) (k j : Int), ¬ rMdP m0_ G j → γ 3 G k j = γ 2 G k j := c3
  have c4 : ∀ (G : Nat) (k j : Int), ¬ rMdP m0_ G j → γ 4 G k j = γ 3 G k j := c4
  have c5 : ∀ (G : Nat) (k j : Int), ¬ rMdP m80_ G j → γ 5 G k j = γ 4 G k j := c5
  have c6 : ∀ (G : Nat) (k j : Int), ¬ rMdP m70_ G j → γ 6 G k j = γ 5 G k j := c6
  have c7 : ∀ (G : Nat) (k j : Int), ¬ rMdP m71_ G j → γ 7 G k j = γ 6 G k j := c7
  have c8 : ∀ (G : Nat) (k j : Int), ¬ rMdP m103_ G j → γ 8 G k j = γ 7 G k j := c8
  obtain ⟨l0, l1, l2, l3, l4, l5, l6, l7, l8, -⟩ := hl
  have l0 : sn114 [ρ 3, ρ 4] (γ 0) 0 (ρ 22) (γ 1) := hS114 _ _ _ _ _ l0
  have l1 : ρ 22 ≠ 33 := l1
  have l2 : sn106 [ρ 22] (γ 1) 0 0 (γ 2) := hS106 _ _ _ _ _ l2
  have l3 : sn105 [ρ 22] (γ 2) 0 0 (γ 3) := hS105 _ _ _ _ _ l3
  have l4 : sn107 [ρ 22] (γ 3) 0 0 (γ 4) := hS107 _ _ _ _ _ l4
  have l5 : sn116 [ρ 23, ρ 4, ρ 12] (γ 4) 0 1 (γ 5) := hS116 _ _ _ _ _ l5
  have l6 : sn103 [4, 0, ρ 23, ρ 0, ρ 1, ρ 2, ρ 9, ρ 10, ρ 5, ρ 18, ρ 19, ρ 7, ρ 20, ρ 21] (γ 5) 0 0 (γ 6) := hS103 _ _ _ _ _ l6
  have l7 : sn104 [ρ 2 + 9 * ρ 1 + 1, 0, ρ 23, 0, ρ 25, 0] (γ 6) 0 0 (γ 7) := hS104 _ _ _ _ _ l7
  have l8 : sn154 [ρ 0, ρ 1, ρ 2, ρ 24, ρ 4, 4, ρ 9, ρ 10, ρ 12] (γ 7) 0 0 (γ 8) := hS154 _ _ _ _ _ l8
  show sn157 [ρ 0, ρ 1, ρ 2, ρ 3, ρ 4, ρ 5, ρ 6, ρ 7, ρ 8, ρ 9, ρ 10, ρ 11, ρ 12, ρ 13, ρ 14, ρ 15, ρ 16, ρ 17, ρ 18, ρ 19, ρ 20, ρ 21] (γ 0) 0 0 (γ 8)
  refine Eq.symm ?_
  show fn157 [] (γ 0) = _
  unfold fn157
  refine (zLet_eq m0).trans ?_
  refine (zLet_eq m1).trans ?_
  refine (zLet_eq m2).trans ?_
  refine (zLet_eq (show fn114 [] (γ 0) = (0, ρ 22, γ 1) from l0.symm)).trans ?_
  refine (zLet_eq (show _ = γ 1 from rfl)).trans ?_
  refine (if_pos (show (0 : Int) ≤ ρ 22 by omega)).trans ?_
  refine (zLet_eq (show _ = ρ 22 from rfl)).trans ?_
  refine (zLet_eq m22).trans ?_
  refine (if_pos (show ρ 22 ≠ 33 by omega)).trans ?_
  refine (zLet_eq (show fn106 [ρ 22] (γ 1) = (0, 0, γ 2) from l2.symm)).trans ?_
  refine (zLet_eq (show _ = γ 2 from rfl)).trans ?_
  refine (if_neg (show ¬ ((1 : Int) ≤ 0) by omega)).trans ?_
  refine (zLet_eq (show fn105 [ρ 22] (γ 2) = (0, 0, γ 3) from l3.symm)).trans ?_
  refine (zLet_eq (show _ = γ 3 from rfl)).trans ?_
  refine (if_neg (show ¬ ((1 : Int) ≤ 0) by omega)).trans ?_
  refine (zLet_eq (show fn107 [ρ 22] (γ 3) = (0, 0, γ 4) from l4.symm)).trans ?_
  refine (zLet_eq (show _ = γ 4 from rfl)).trans ?_
  refine (if_neg (show ¬ ((1 : Int) ≤ 0) by omega)).trans ?_
  refine (if_pos (show ρ 22 = 45 by omega)).trans ?_
  refine (zLet_eq (show fn116 [] (γ 4) = (0, 1, γ 5) from l5.symm)).trans ?_
  refine (zLet_eq (show _ = γ 5 from rfl)).trans ?_
  refine (if_pos (show (1 : Int) ≤ 1 by omega)).trans ?_
  refine (zLet_eq (show fn103 [4, 0, ρ 23] (γ 5) = (0, 0, γ 6) from l6.symm)).trans ?_
  refine (zLet_eq (show _ = γ 6 from rfl)).trans ?_
  refine (zLet_eq m33).trans ?_
  refine (zLet_eq (show fn104 [ρ 2 + 9 * ρ 1 + 1, 0, ρ 23, 0, ρ 25] (γ 6) = (0, 0, γ 7) from l7.symm)).trans ?_
  refine (zLet_eq (show _ = γ 7 from rfl)).trans ?_
  refine (zLet_eq (show fn154 [] (γ 7) = (0, 0, γ 8) from l8.symm)).trans ?_
  refine (zLet_eq (show _ = γ 8 from rfl)).trans ?_
  refine (if_neg (show ¬ ((1 : Int) ≤ 0) by omega)).trans ?_
  rfl
theorem vn157_3 {S : Nat → zSpc} (hS103 : ∀ x g o v gz, S 103 x g o v gz → sn103 x g o v gz) (hS104 : ∀ x g o v gz, S 104 x g o v gz → sn104 x g o v gz) (hS105 : ∀ x g o v gz, S 105 x g o v gz → sn105 x g o v gz) (hS106 : ∀ x g o v gz, S 106 x g o v gz → sn106 x g o v gz) (hS107 : ∀ x g o v gz, S 107 x g o v gz → sn107 x g o v gz) (hS109 : ∀ x g o v gz, S 109 x g o v gz → sn109 x g o v gz) (hS114 : ∀ x g o v gz, S 114 x g o v gz → sn114 x g o v gz) (hS115 : ∀ x g o v gz, S 115 x g o v gz → sn115 x g o v gz) (hS116 : ∀ x g o v gz, S 116 x g o v gz → sn116 x g o v gz) (hS135 : ∀ x g o v gz, S 135 x g o v gz → sn135 x g o v gz) (hS139 : ∀ x g o v gz, S 139 x g o v gz → sn139 x g o v gz) (hS145 : ∀ x g o v gz, S 145 x g o v gz → sn145 x g o v gz) (hS154 : ∀ x g o v gz, S 154 x g o v gz → sn154 x g o v gz) (hS155 : ∀ x g o v gz, S 155 x g o v gz → sn155 x g o v gz) (hS156 : ∀ x g o v gz, S 156 x g o v gz → sn156 x g o v gz) {a : List Int} {g : rHp} : ∀ (ρ : Nat → Int) (γ : Nat → rHp), zO 22 S a g q157_3 ρ γ → zGl (fun _ _ _ => True) (sn157 a g) q157_3 ρ γ := by
  intro ρ γ h
  obtain ⟨ha, hg, hr, hf, hm, hc, hl⟩ := h
  have ha : a = [ρ 0, ρ 1, ρ 2, ρ 3, ρ 4, ρ 5, ρ 6, ρ 7, ρ 8, ρ 9, ρ 10, ρ 11, ρ 12, ρ 13, ρ 14, ρ 15, ρ 16, ρ 17, ρ 18, ρ 19, ρ 20, ρ 21] := ha
  subst ha
  subst hg
  obtain ⟨r0, r1, r2, r3, r4, r5, r6, r7, r8, r9, r10, r11, r12, r13, r14, r15, r16, r17, r18, r19, r20, r21, r22, r23, r24, r25, r26, r27, r28, r29, r30, r31, r32, r33, -⟩ := hr
  have r0 : (0 : Int) ≤ ρ 0 ∧ ρ 0 ≤ 60 := r0
  have r1 : (0 : Int) ≤ ρ 1 ∧ ρ 1 ≤ 60 := r1
  have r2 : (0 : Int) ≤ ρ 2 ∧ ρ 2 ≤ 7 := r2
  have r3 : (0 : Int) ≤ ρ 3 ∧ ρ 3 ≤ 2000 := r3
  have r4 : (0 : Int) ≤ ρ 4 ∧ ρ 4 ≤ 2000 := r4
  have r5 : (0 : Int) ≤ ρ 5 ∧ ρ 5 ≤ 8 := r5
  have r6 : ((-1) : Int) ≤ ρ 6 ∧ ρ 6 ≤ 7 := r6
  have r7 : ((-1) : Int) ≤ ρ 7 ∧ ρ 7 ≤ 19 := r7
  have r8 : (0 : Int) ≤ ρ 8 ∧ ρ 8 ≤ 2 := r8
  have r9 : ((-1) : Int) ≤ ρ 9 ∧ ρ 9 ≤ 19 := r9
  have r10 : (0 : Int) ≤ ρ 10 ∧ ρ 10 ≤ 4 := r10
  have r11 : (0 : Int) ≤ ρ 11 ∧ ρ 11 ≤ 20 := r11
  have r12 : ((-2147483648) : Int) ≤ ρ 12 ∧ ρ 12 ≤ 2147483647 := r12
  have r13 : ((-2147483648) : Int) ≤ ρ 13 ∧ ρ 13 ≤ 2147483647 := r13
  have r14 : ((-2147483648) : Int) ≤ ρ 14 ∧ ρ 14 ≤ 2147483647 := r14
  have r15 : (0 : Int) ≤ ρ 15 ∧ ρ 15 ≤ 8 := r15
  have r16 : (0 : Int) ≤ ρ 16 ∧ ρ 16 ≤ 32 := r16
  have r17 : (0 : Int) ≤ ρ 17 ∧ ρ 17 ≤ 5120 := r17
  have r18 : (0 : Int) ≤ ρ 18 ∧ ρ 18 ≤ 4 := r18
  have r19 : ((-2147483648) : Int) ≤ ρ 19 ∧ ρ 19 ≤ 2147483647 := r19
  have r20 : ((-1) : Int) ≤ ρ 20 ∧ ρ 20 ≤ 3 := r20
  have r21 : (0 : Int) ≤ ρ 21 ∧ ρ 21 ≤ 4 := r21
  have r22 : (45 : Int) ≤ ρ 22 ∧ ρ 22 ≤ 45 := r22
  have r23 : (0 : Int) ≤ ρ 23 ∧ ρ 23 ≤ 2000 := r23
  have r24 : (1 : Int) ≤ ρ 24 ∧ ρ 24 ≤ 2000 := r24
  have r25 : ((-9223372036854775808) : Int) ≤ ρ 25 ∧ ρ 25 ≤ 9223372036854775807 := r25
  have r26 : (1 : Int) ≤ ρ 26 ∧ ρ 26 ≤ 1 := r26
  have r27 : (1 : Int) ≤ ρ 27 ∧ ρ 27 ≤ 2000 := r27
  have r28 : (3 : Int) ≤ ρ 28 ∧ ρ 28 ≤ 5 := r28
  have r29 : (0 : Int) ≤ ρ 29 ∧ ρ 29 ≤ 2000 := r29
  have r30 : (0 : Int) ≤ ρ 30 ∧ ρ 30 ≤ 4 := r30
  have r31 : (0 : Int) ≤ ρ 31 ∧ ρ 31 ≤ 2000 := r31
  have r32 : ((-2147483648) : Int) ≤ ρ 32 ∧ ρ 32 ≤ 2147483647 := r32
  have r33 : (0 : Int) ≤ ρ 33 ∧ ρ 33 ≤ 5120 := r33
  obtain ⟨f0, f1, f2, f3, f4, f5, f6, f7, f8, f9, f10, f11, f12, -⟩ := hf
  have f0 : (0 : Int) ≤ -ρ 31 + ρ 29 := f0
  have f1 : (0 : Int) ≤ ρ 29 + -ρ 27 := f1
  have f2 : (0 : Int) ≤ ρ 30 + -ρ 26 := f2
  have f3 : (0 : Int) ≤ ρ 31 + -ρ 27 := f3
  have f4 : (0 : Int) ≤ ρ 33 + -ρ 17 := f4
  have f5 : (0 : Int) ≤ -ρ 30 + ρ 26 + 1 := f5
  have f6 : (0 : Int) ≤ ρ 27 + -ρ 24 + (-1) := f6
  have f7 : (0 : Int) ≤ -ρ 27 + ρ 4 := f7
  have f8 : (0 : Int) ≤ -ρ 24 + ρ 4 + (-1) := f8
  have f9 : (0 : Int) ≤ ρ 24 + -ρ 23 + (-1) := f9
  have f10 : (0 : Int) ≤ ρ 23 + -ρ 3 := f10
  have f11 : (0 : Int) ≤ -ρ 23 + ρ 4 + (-1) := f11
  have f12 : (0 : Int) ≤ ρ 4 + -ρ 3 + (-1) := f12
  obtain ⟨m0, m1, m2, m3, m4, m5, m6, m7, m8, m9, m10, m11, m12, m13, m14, m15, m16, m17, m18, m19, m20, m21, m22, m23, m24, m25, m26, m27, m28, m29, m30, m31, m32, m33, m34, m35, m36, m37, m38, m39, m40, m41, m42, -⟩ := hm
  have m0 : γ 0 1 0 10 = ρ 0 := m0
  have m1 : γ 0 40 0 (ρ 0) = ρ 1 := m1
  have m2 : γ 0 9 (ρ 1) 2 = ρ 2 := m2
  have m3 : γ 0 2 0 6 = ρ 3 := m3
  have m4 : γ 0 2 0 3 = ρ 4 := m4
  have m5 : γ 0 10 (ρ 2 + 9 * ρ 1 + 1) 4 = ρ 5 := m5
  have m6 : γ 0 10 (ρ 2 + 9 * ρ 1 + 1) 11 = ρ 6 := m6
  have m7 : γ 0 10 (ρ 2 + 9 * ρ 1 + 1) 8 = ρ 7 := m7
  have m8 : γ 0 2 0 7 = ρ 8 := m8
  have m9 : γ 0 10 (9 * ρ 1) 8 = ρ 9 := m9
  have m10 : γ 0 10 (9 * ρ 1) 12 = ρ 10 := m10
  have m11 : γ 0 1 0 7 = ρ 11 := m11
  have m12 : γ 0 2 0 4 = ρ 12 := m12
  have m13 : γ 0 2 0 5 = ρ 13 := m13
  have m14 : γ 0 2 0 9 = ρ 14 := m14
  have m15 : γ 0 2 0 13 = ρ 15 := m15
  have m16 : γ 0 2 0 16 = ρ 16 := m16
  have m17 : γ 0 3 0 1 = ρ 17 := m17
  have m18 : γ 0 10 (ρ 2 + 9 * ρ 1 + 1) 5 = ρ 18 := m18
  have m19 : γ 0 10 (ρ 2 + 9 * ρ 1 + 1) 7 = ρ 19 := m19
  have m20 : γ 0 10 (ρ 2 + 9 * ρ 1 + 1) 9 = ρ 20 := m20
  have m21 : γ 0 10 (ρ 2 + 9 * ρ 1 + 1) 12 = ρ 21 := m21
  have m22 : γ 1 2 0 6 = ρ 23 := m22
  have m23 : γ 5 2 0 6 = ρ 24 := m23
  have m24 : γ 5 2 0 4 = ρ 12 := m24
  have m25 : γ 6 10 (9 * ρ 1) 8 = ρ 9 := m25
  have m26 : γ 6 10 (9 * ρ 1) 12 = ρ 10 := m26
  have m27 : γ 6 10 (ρ 2 + 9 * ρ 1 + 1) 4 = 4 := m27
  have m28 : γ 6 10 (ρ 2 + 9 * ρ 1 + 1) 5 = 0 := m28
  have m29 : γ 6 10 (ρ 2 + 9 * ρ 1 + 1) 7 = ρ 23 := m29
  have m30 : γ 6 10 (ρ 2 + 9 * ρ 1 + 1) 8 = (-1) := m30
  have m31 : γ 6 10 (ρ 2 + 9 * ρ 1 + 1) 9 = (-1) := m31
  have m32 : γ 6 10 (ρ 2 + 9 * ρ 1 + 1) 12 = 0 := m32
  have m33 : γ 5 2 0 10 = ρ 25 := m33
  have m34 : γ 7 10 (ρ 2 + 9 * ρ 1 + 1) 5 = ρ 26 := m34
  have m35 : γ 8 2 0 6 = ρ 27 := m35
  have m36 : γ 8 10 (ρ 2 + 9 * ρ 1 + 1) 4 = ρ 28 := m36
  have m37 : γ 8 2 0 4 = ρ 12 := m37
  have m38 : γ 9 2 0 6 = ρ 29 := m38
  have m39 : γ 9 10 (ρ 2 + 9 * ρ 1 + 1) 5 = ρ 30 := m39
  have m40 : γ 9 2 0 4 = ρ 31 := m40
  have m41 : γ 9 2 0 9 = ρ 32 := m41
  have m42 : γ 9 3 0 1 = ρ 33 := m42
  obtain ⟨⟨⟨⟨⟨⟨⟨⟨⟨-, c1⟩, c2⟩, c3⟩, c4⟩, c5⟩, c6⟩, c7⟩, c8⟩, c9⟩ := hc
  have c1 : ∀ (G : Nat) (k j : Int), ¬ rMdP m77_ G j → γ 1 G k j = γ 0 G k j := c1
  have c2 : ∀ (G : Nat) (k j : Int), ¬ rMdP m0_ G j → γ 2 G k j = γ 1 G k j := c2
  have c3 : ∀ (G : Nat) (k j : Int), ¬ rMdP m0_ G j → γ 3 G k j = γ 2 G k j := c3
  have c4 : ∀ (G : Nat) (k j : Int), ¬ rMdP m0_ G j → γ 4 G k j = γ 3 G k j := c4
  have c5 : ∀ (G : Nat) (k j : Int), ¬ rMdP m80_ G j → γ 5 G k j = γ 4 G k j := c5
  have c6 : ∀ (G : Nat) (k j : Int), ¬ rMdP m70_ G j → γ 6 G k j = γ 5 G k j := c6
  have c7 : ∀ (G : Nat) (k j : Int), ¬ rMdP m71_ G j → γ 7 G k j = γ 6 G k j := c7
  have c8 : ∀ (G : Nat) (k j : Int), ¬ rMdP m103_ G j → γ 8 G k j = γ 7 G k j := c8
  have c9 : ∀ (G : Nat) (k j : Int), ¬ rMdP m92_ G j → γ 9 G k j = γ 8 G k j := c9
  obtain ⟨l0, l1, l2, l3, l4, l5, l6, l7, l8, l9, -⟩ := hl
  have l0 : sn114 [ρ 3, ρ 4] (γ 0) 0 (ρ 22) (γ 1) := hS114 _ _ _ _ _ l0
  have l1 : ρ 22 ≠ 33 := l1
  have l2 : sn106 [ρ 22] (γ 1) 0 0 (γ 2) := hS106 _ _ _ _ _ l2
  have l3 : sn105 [ρ 22] (γ 2) 0 0 (γ 3) := hS105 _ _ _ _ _ l3
  have l4 : sn107 [ρ 22] (γ 3) 0 0 (γ 4) := hS107 _ _ _ _ _ l4
  have l5 : sn116 [ρ 23, ρ 4, ρ 12] (γ 4) 0 1 (γ 5) := hS116 _ _ _ _ _ l5
  have l6 : sn103 [4, 0, ρ 23, ρ 0, ρ 1, ρ 2, ρ 9, ρ 10, ρ 5, ρ 18, ρ 19, ρ 7, ρ 20, ρ 21] (γ 5) 0 0 (γ 6) := hS103 _ _ _ _ _ l6
  have l7 : sn104 [ρ 2 + 9 * ρ 1 + 1, 0, ρ 23, 0, ρ 25, 0] (γ 6) 0 0 (γ 7) := hS104 _ _ _ _ _ l7
  have l8 : sn154 [ρ 0, ρ 1, ρ 2, ρ 24, ρ 4, 4, ρ 9, ρ 10, ρ 12] (γ 7) 0 1 (γ 8) := hS154 _ _ _ _ _ l8
  have l9 : sn139 [ρ 2 + 9 * ρ 1 + 1, ρ 27, ρ 4, ρ 26, ρ 12, ρ 13, ρ 14, ρ 15, ρ 17] (γ 8) 0 0 (γ 9) := hS139 _ _ _ _ _ l9
  show sn157 [ρ 0, ρ 1, ρ 2, ρ 3, ρ 4, ρ 5, ρ 6, ρ 7, ρ 8, ρ 9, ρ 10, ρ 11, ρ 12, ρ 13, ρ 14, ρ 15, ρ 16, ρ 17, ρ 18, ρ 19, ρ 20, ρ 21] (γ 0) 0 0 (γ 9)
  refine Eq.symm ?_
  show fn157 [] (γ 0) = _
  unfold fn157
  refine (zLet_eq m0).trans ?_
  refine (zLet_eq m1).trans ?_
  refine (zLet_eq m2).trans ?_
  refine (zLet_eq (show fn114 [] (γ 0) = (0, ρ 22, γ 1) from l0.symm)).trans ?_
  refine (zLet_eq (show _ = γ 1 from rfl)).trans ?_
  refine (if_pos (show (0 : Int) ≤ ρ 22 by omega)).trans ?_
  refine (zLet_eq (show _ = ρ 22 from rfl)).trans ?_
  refine (zLet_eq m22).trans ?_
  refine (if_pos (show ρ 22 ≠ 33 by omega)).trans ?_
  refine (zLet_eq (show fn106 [ρ 22] (γ 1) = (0, 0, γ 2) from l2.symm)).trans ?_
  refine (zLet_eq (show _ = γ 2 from rfl)).trans ?_
  refine (if_neg (show ¬ ((1 : Int) ≤ 0) by omega)).trans ?_
  refine (zLet_eq (show fn105 [ρ 22] (γ 2) = (0, 0, γ 3) from l3.symm)).trans ?_
  refine (zLet_eq (show _ = γ 3 from rfl)).trans ?_
  refine (if_neg (show ¬ ((1 : Int) ≤ 0) by omega)).trans ?_
  refine (zLet_eq (show fn107 [ρ 22] (γ 3) = (0, 0, γ 4) from l4.symm)).trans ?_
  refine (zLet_eq (show _ = γ 4 from rfl)).trans ?_
  refine (if_neg (show ¬ ((1 : Int) ≤ 0) by omega)).trans ?_
  refine (if_pos (show ρ 22 = 45 by omega)).trans ?_
  refine (zLet_eq (show fn116 [] (γ 4) = (0, 1, γ 5) from l5.symm)).trans ?_
  refine (zLet_eq (show _ = γ 5 from rfl)).trans ?_
  refine (if_pos (show (1 : Int) ≤ 1 by omega)).trans ?_
  refine (zLet_eq (show fn103 [4, 0, ρ 23] (γ 5) = (0, 0, γ 6) from l6.symm)).trans ?_
  refine (zLet_eq (show _ = γ 6 from rfl)).trans ?_
  refine (zLet_eq m33).trans ?_
  refine (zLet_eq (show fn104 [ρ 2 + 9 * ρ 1 + 1, 0, ρ 23, 0, ρ 25] (γ 6) = (0, 0, γ 7) from l7.symm)).trans ?_
  refine (zLet_eq (show _ = γ 7 from rfl)).trans ?_
  refine (zLet_eq (show fn154 [] (γ 7) = (0, 1, γ 8) from l8.symm)).trans ?_
  refine (zLet_eq (show _ = γ 8 from rfl)).trans ?_
  refine (if_pos (show (1 : Int) ≤ 1 by omega)).trans ?_
  refine (zLet_eq (show fn139 [ρ 2 + 9 * ρ 1 + 1] (γ 8) = (0, 0, γ 9) from l9.symm)).trans ?_
  refine (zLet_eq (show _ = γ 9 from rfl)).trans ?_
  refine (if_neg (show ¬ ((1 : Int) ≤ 0) by omega)).trans ?_
  rfl
theorem vn157_4 {S : Nat → zSpc} (hS103 : ∀ x g o v gz, S 103 x g o v gz → sn103 x g o v gz) (hS104 : ∀ x g o v gz, S 104 x g o v gz → sn104 x g o v gz) (hS105 : ∀ x g o v gz, S 105 x g o v gz → sn105 x g o v gz) (hS106 : ∀ x g o v gz, S 106 x g o v gz → sn106 x g o v gz) (hS107 : ∀ x g o v gz, S 107 x g o v gz → sn107 x g o v gz) (hS109 : ∀ x g o v gz, S 109 x g o v gz → sn109 x g o v gz) (hS114 : ∀ x g o v gz, S 114 x g o v gz → sn114 x g o v gz) (hS115 : ∀ x g o v gz, S 115 x g o v gz → sn115 x g o v gz) (hS116 : ∀ x g o v gz, S 116 x g o v gz → sn116 x g o v gz) (hS135 : ∀ x g o v gz, S 135 x g o v gz → sn135 x g o v gz) (hS139 : ∀ x g o v gz, S 139 x g o v gz → sn139 x g o v gz) (hS145 : ∀ x g o v gz, S 145 x g o v gz → sn145 x g o v gz) (hS154 : ∀ x g o v gz, S 154 x g o v gz → sn154 x g o v gz) (hS155 : ∀ x g o v gz, S 155 x g o v gz → sn155 x g o v gz) (hS156 : ∀ x g o v gz, S 156 x g o v gz → sn156 x g o v gz) {a : List Int} {g : rHp} : ∀ (ρ : Nat → Int) (γ : Nat → rHp), zO 22 S a g q157_4 ρ γ → zGl (fun _ _ _ => True) (sn157 a g) q157_4 ρ γ := by
  intro ρ γ h
  obtain ⟨ha, hg, hr, hf, hm, hc, hl⟩ := h
  have ha : a = [ρ 0, ρ 1, ρ 2, ρ 3, ρ 4, ρ 5, ρ 6, ρ 7, ρ 8, ρ 9, ρ 10, ρ 11, ρ 12, ρ 13, ρ 14, ρ 15, ρ 16, ρ 17, ρ 18, ρ 19, ρ 20, ρ 21] := ha
  subst ha
  subst hg
  obtain ⟨r0, r1, r2, r3, r4, r5, r6, r7, r8, r9, r10, r11, r12, r13, r14, r15, r16, r17, r18, r19, r20, r21, r22, r23, r24, r25, r26, r27, r28, r29, r30, r31, r32, -⟩ := hr
  have r0 : (0 : Int) ≤ ρ 0 ∧ ρ 0 ≤ 60 := r0
  have r1 : (0 : Int) ≤ ρ 1 ∧ ρ 1 ≤ 60 := r1
  have r2 : (0 : Int) ≤ ρ 2 ∧ ρ 2 ≤ 7 := r2
  have r3 : (0 : Int) ≤ ρ 3 ∧ ρ 3 ≤ 2000 := r3
  have r4 : (0 : Int) ≤ ρ 4 ∧ ρ 4 ≤ 2000 := r4
  have r5 : (0 : Int) ≤ ρ 5 ∧ ρ 5 ≤ 8 := r5
  have r6 : ((-1) : Int) ≤ ρ 6 ∧ ρ 6 ≤ 7 := r6
  have r7 : ((-1) : Int) ≤ ρ 7 ∧ ρ 7 ≤ 19 := r7
  have r8 : (0 : Int) ≤ ρ 8 ∧ ρ 8 ≤ 2 := r8
  have r9 : ((-1) : Int) ≤ ρ 9 ∧ ρ 9 ≤ 19 := r9
  have r10 : (0 : Int) ≤ ρ 10 ∧ ρ 10 ≤ 4 := r10
  have r11 : (0 : Int) ≤ ρ 11 ∧ ρ 11 ≤ 20 := r11
  have r12 : ((-2147483648) : Int) ≤ ρ 12 ∧ ρ 12 ≤ 2147483647 := r12
  have r13 : ((-2147483648) : Int) ≤ ρ 13 ∧ ρ 13 ≤ 2147483647 := r13
  have r14 : ((-2147483648) : Int) ≤ ρ 14 ∧ ρ 14 ≤ 2147483647 := r14
  have r15 : (0 : Int) ≤ ρ 15 ∧ ρ 15 ≤ 8 := r15
  have r16 : (0 : Int) ≤ ρ 16 ∧ ρ 16 ≤ 32 := r16
  have r17 : (0 : Int) ≤ ρ 17 ∧ ρ 17 ≤ 5120 := r17
  have r18 : (0 : Int) ≤ ρ 18 ∧ ρ 18 ≤ 4 := r18
  have r19 : ((-2147483648) : Int) ≤ ρ 19 ∧ ρ 19 ≤ 2147483647 := r19
  have r20 : ((-1) : Int) ≤ ρ 20 ∧ ρ 20 ≤ 3 := r20
  have r21 : (0 : Int) ≤ ρ 21 ∧ ρ 21 ≤ 4 := r21
  have r22 : (45 : Int) ≤ ρ 22 ∧ ρ 22 ≤ 45 := r22
  have r23 : (0 : Int) ≤ ρ 23 ∧ ρ 23 ≤ 2000 := r23
  have r24 : (1 : Int) ≤ ρ 24 ∧ ρ 24 ≤ 2000 := r24
  have r25 : ((-9223372036854775808) : Int) ≤ ρ 25 ∧ ρ 25 ≤ 9223372036854775807 := r25
  have r26 : (1 : Int) ≤ ρ 26 ∧ ρ 26 ≤ 1 := r26
  have r27 : (1 : Int) ≤ ρ 27 ∧ ρ 27 ≤ 2000 := r27
  have r28 : (3 : Int) ≤ ρ 28 ∧ ρ 28 ≤ 5 := r28
  have r29 : (1 : Int) ≤ ρ 29 ∧ ρ 29 ≤ 2000 := r29
  have r30 : (1 : Int) ≤ ρ 30 ∧ ρ 30 ≤ 4 := r30
  have r31 : ((-2147483648) : Int) ≤ ρ 31 ∧ ρ 31 ≤ 2147483647 := r31
  have r32 : (0 : Int) ≤ ρ 32 ∧ ρ 32 ≤ 5120 := r32
  obtain ⟨f0, f1, f2, f3, f4, f5, f6, f7, f8, f9, f10, -⟩ := hf
  have f0 : (0 : Int) ≤ ρ 29 + -ρ 27 + (-1) := f0
  have f1 : (0 : Int) ≤ ρ 32 + -ρ 17 := f1
  have f2 : (0 : Int) ≤ -ρ 27 + ρ 4 + (-1) := f2
  have f3 : (0 : Int) ≤ -ρ 30 + ρ 26 + 1 := f3
  have f4 : (0 : Int) ≤ ρ 27 + -ρ 24 + (-1) := f4
  have f5 : (0 : Int) ≤ -ρ 27 + ρ 4 := f5
  have f6 : (0 : Int) ≤ -ρ 24 + ρ 4 + (-1) := f6
  have f7 : (0 : Int) ≤ ρ 24 + -ρ 23 + (-1) := f7
  have f8 : (0 : Int) ≤ ρ 23 + -ρ 3 := f8
  have f9 : (0 : Int) ≤ -ρ 23 + ρ 4 + (-1) := f9
  have f10 : (0 : Int) ≤ ρ 4 + -ρ 3 + (-1) := f10
  obtain ⟨m0, m1, m2, m3, m4, m5, m6, m7, m8, m9, m10, m11, m12, m13, m14, m15, m16, m17, m18, m19, m20, m21, m22, m23, m24, m25, m26, m27, m28, m29, m30, m31, m32, m33, m34, m35, m36, m37, m38, m39, m40, m41, m42, -⟩ := hm
  have m0 : γ 0 1 0 10 = ρ 0 := m0
  have m1 : γ 0 40 0 (ρ 0) = ρ 1 := m1
  have m2 : γ 0 9 (ρ 1) 2 = ρ 2 := m2
  have m3 : γ 0 2 0 6 = ρ 3 := m3
  have m4 : γ 0 2 0 3 = ρ 4 := m4
  have m5 : γ 0 10 (ρ 2 + 9 * ρ 1 + 1) 4 = ρ 5 := m5
  have m6 : γ 0 10 (ρ 2 + 9 * ρ 1 + 1) 11 = ρ 6 := m6
  have m7 : γ 0 10 (ρ 2 + 9 * ρ 1 + 1) 8 = ρ 7 := m7
  have m8 : γ 0 2 0 7 = ρ 8 := m8
  have m9 : γ 0 10 (9 * ρ 1) 8 = ρ 9 := m9
  have m10 : γ 0 10 (9 * ρ 1) 12 = ρ 10 := m10
  have m11 : γ 0 1 0 7 = ρ 11 := m11
  have m12 : γ 0 2 0 4 = ρ 12 := m12
  have m13 : γ 0 2 0 5 = ρ 13 := m13
  have m14 : γ 0 2 0 9 = ρ 14 := m14
  have m15 : γ 0 2 0 13 = ρ 15 := m15
  have m16 : γ 0 2 0 16 = ρ 16 := m16
  have m17 : γ 0 3 0 1 = ρ 17 := m17
  have m18 : γ 0 10 (ρ 2 + 9 * ρ 1 + 1) 5 = ρ 18 := m18
  have m19 : γ 0 10 (ρ 2 + 9 * ρ 1 + 1) 7 = ρ 19 := m19
  have m20 : γ 0 10 (ρ 2 + 9 * ρ 1 + 1) 9 = ρ 20 := m20
  have m21 : γ 0 10 (ρ 2 + 9 * ρ 1 + 1) 12 = ρ 21 := m21
  have m22 : γ 1 2 0 6 = ρ 23 := m22
  have m23 : γ 5 2 0 6 = ρ 24 := m23
  have m24 : γ 5 2 0 4 = ρ 12 := m24
  have m25 : γ 6 10 (9 * ρ 1) 8 = ρ 9 := m25
  have m26 : γ 6 10 (9 * ρ 1) 12 = ρ 10 := m26
  have m27 : γ 6 10 (ρ 2 + 9 * ρ 1 + 1) 4 = 4 := m27
  have m28 : γ 6 10 (ρ 2 + 9 * ρ 1 + 1) 5 = 0 := m28
  have m29 : γ 6 10 (ρ 2 + 9 * ρ 1 + 1) 7 = ρ 23 := m29
  have m30 : γ 6 10 (ρ 2 + 9 * ρ 1 + 1) 8 = (-1) := m30
  have m31 : γ 6 10 (ρ 2 + 9 * ρ 1 + 1) 9 = (-1) := m31
  have m32 : γ 6 10 (ρ 2 + 9 * ρ 1 + 1) 12 = 0 := m32
  have m33 : γ 5 2 0 10 = ρ 25 := m33
  have m34 : γ 7 10 (ρ 2 + 9 * ρ 1 + 1) 5 = ρ 26 := m34
  have m35 : γ 8 2 0 6 = ρ 27 := m35
  have m36 : γ 8 10 (ρ 2 + 9 * ρ 1 + 1) 4 = ρ 28 := m36
  have m37 : γ 8 2 0 4 = ρ 12 := m37
  have m38 : γ 9 2 0 6 = ρ 29 := m38
  have m39 : γ 9 10 (ρ 2 + 9 * ρ 1 + 1) 5 = ρ 30 := m39
  have m40 : γ 9 2 0 4 = ρ 12 := m40
  have m41 : γ 9 2 0 9 = ρ 31 := m41
  have m42 : γ 9 3 0 1 = ρ 32 := m42
  obtain ⟨⟨⟨⟨⟨⟨⟨⟨⟨-, c1⟩, c2⟩, c3⟩, c4⟩, c5⟩, c6⟩, c7⟩, c8⟩, c9⟩ := hc
  have c1 : ∀ (G : Nat) (k j : Int), ¬ rMdP m77_ G j → γ 1 G k j = γ 0 G k j := c1
  have c2 : ∀ (G : Nat) (k j : Int), ¬ rMdP m0_ G j → γ 2 G k j = γ 1 G k j := c2
  have c3 : ∀ (G : Nat) (k j : Int), ¬ rMdP m0_ G j → γ 3 G k j = γ 2 G k j := c3
  have c4 : ∀ (G : Nat) (k j : Int), ¬ rMdP m0_ G j → γ 4 G k j = γ 3 G k j := c4
  have c5 : ∀ (G : Nat) (k j : Int), ¬ rMdP m80_ G j → γ 5 G k j = γ 4 G k j := c5
  have c6 : ∀ (G : Nat) (k j : Int), ¬ rMdP m70_ G j → γ 6 G k j = γ 5 G k j := c6
  have c7 : ∀ (G : Nat) (k j : Int), ¬ rMdP m71_ G j → γ 7 G k j = γ 6 G k j := c7
  have c8 : ∀ (G : Nat) (k j : Int), ¬ rMdP m103_ G j → γ 8 G k j = γ 7 G k j := c8
  have c9 : ∀ (G : Nat) (k j : Int), ¬ rMdP m92_ G j → γ 9 G k j = γ 8 G k j := c9
  obtain ⟨l0, l1, l2, l3, l4, l5, l6, l7, l8, l9, -⟩ := hl
  have l0 : sn114 [ρ 3, ρ 4] (γ 0) 0 (ρ 22) (γ 1) := hS114 _ _ _ _ _ l0
  have l1 : ρ 22 ≠ 33 := l1
  have l2 : sn106 [ρ 22] (γ 1) 0 0 (γ 2) := hS106 _ _ _ _ _ l2
  have l3 : sn105 [ρ 22] (γ 2) 0 0 (γ 3) := hS105 _ _ _ _ _ l3
  have l4 : sn107 [ρ 22] (γ 3) 0 0 (γ 4) := hS107 _ _ _ _ _ l4
  have l5 : sn116 [ρ 23, ρ 4, ρ 12] (γ 4) 0 1 (γ 5) := hS116 _ _ _ _ _ l5
  have l6 : sn103 [4, 0, ρ 23, ρ 0, ρ 1, ρ 2, ρ 9, ρ 10, ρ 5, ρ 18, ρ 19, ρ 7, ρ 20, ρ 21] (γ 5) 0 0 (γ 6) := hS103 _ _ _ _ _ l6
  have l7 : sn104 [ρ 2 + 9 * ρ 1 + 1, 0, ρ 23, 0, ρ 25, 0] (γ 6) 0 0 (γ 7) := hS104 _ _ _ _ _ l7
  have l8 : sn154 [ρ 0, ρ 1, ρ 2, ρ 24, ρ 4, 4, ρ 9, ρ 10, ρ 12] (γ 7) 0 1 (γ 8) := hS154 _ _ _ _ _ l8
  have l9 : sn139 [ρ 2 + 9 * ρ 1 + 1, ρ 27, ρ 4, ρ 26, ρ 12, ρ 13, ρ 14, ρ 15, ρ 17] (γ 8) 0 1 (γ 9) := hS139 _ _ _ _ _ l9
  show sn157 [ρ 0, ρ 1, ρ 2, ρ 3, ρ 4, ρ 5, ρ 6, ρ 7, ρ 8, ρ 9, ρ 10, ρ 11, ρ 12, ρ 13, ρ 14, ρ 15, ρ 16, ρ 17, ρ 18, ρ 19, ρ 20, ρ 21] (γ 0) 0 1 (γ 9)
  refine Eq.symm ?_
  show fn157 [] (γ 0) = _
  unfold fn157
  refine (zLet_eq m0).trans ?_
  refine (zLet_eq m1).trans ?_
  refine (zLet_eq m2).trans ?_
  refine (zLet_eq (show fn114 [] (γ 0) = (0, ρ 22, γ 1) from l0.symm)).trans ?_
  refine (zLet_eq (show _ = γ 1 from rfl)).trans ?_
  refine (if_pos (show (0 : Int) ≤ ρ 22 by omega)).trans ?_
  refine (zLet_eq (show _ = ρ 22 from rfl)).trans ?_
  refine (zLet_eq m22).trans ?_
  refine (if_pos (show ρ 22 ≠ 33 by omega)).trans ?_
  refine (zLet_eq (show fn106 [ρ 22] (γ 1) = (0, 0, γ 2) from l2.symm)).trans ?_
  refine (zLet_eq (show _ = γ 2 from rfl)).trans ?_
  refine (if_neg (show ¬ ((1 : Int) ≤ 0) by omega)).trans ?_
  refine (zLet_eq (show fn105 [ρ 22] (γ 2) = (0, 0, γ 3) from l3.symm)).trans ?_
  refine (zLet_eq (show _ = γ 3 from rfl)).trans ?_
  refine (if_neg (show ¬ ((1 : Int) ≤ 0) by omega)).trans ?_
  refine (zLet_eq (show fn107 [ρ 22] (γ 3) = (0, 0, γ 4) from l4.symm)).trans ?_
  refine (zLet_eq (show _ = γ 4 from rfl)).trans ?_
  refine (if_neg (show ¬ ((1 : Int) ≤ 0) by omega)).trans ?_
  refine (if_pos (show ρ 22 = 45 by omega)).trans ?_
  refine (zLet_eq (show fn116 [] (γ 4) = (0, 1, γ 5) from l5.symm)).trans ?_
  refine (zLet_eq (show _ = γ 5 from rfl)).trans ?_
  refine (if_pos (show (1 : Int) ≤ 1 by omega)).trans ?_
  refine (zLet_eq (show fn103 [4, 0, ρ 23] (γ 5) = (0, 0, γ 6) from l6.symm)).trans ?_
  refine (zLet_eq (show _ = γ 6 from rfl)).trans ?_
  refine (zLet_eq m33).trans ?_
  refine (zLet_eq (show fn104 [ρ 2 + 9 * ρ 1 + 1, 0, ρ 23, 0, ρ 25] (γ 6) = (0, 0, γ 7) from l7.symm)).trans ?_
  refine (zLet_eq (show _ = γ 7 from rfl)).trans ?_
  refine (zLet_eq (show fn154 [] (γ 7) = (0, 1, γ 8) from l8.symm)).trans ?_
  refine (zLet_eq (show _ = γ 8 from rfl)).trans ?_
  refine (if_pos (show (1 : Int) ≤ 1 by omega)).trans ?_
  refine (zLet_eq (show fn139 [ρ 2 + 9 * ρ 1 + 1] (γ 8) = (0, 1, γ 9) from l9.symm)).trans ?_
  refine (zLet_eq (show _ = γ 9 from rfl)).trans ?_
  refine (if_pos (show (1 : Int) ≤ 1 by omega)).trans ?_
  rfl
theorem vn157_5 {S : Nat → zSpc} (hS103 : ∀ x g o v gz, S 103 x g o v gz → sn103 x g o v gz) (hS104 : ∀ x g o v gz, S 104 x g o v gz → sn104 x g o v gz) (hS105 : ∀ x g o v gz, S 105 x g o v gz → sn105 x g o v gz) (hS106 : ∀ x g o v gz, S 106 x g o v gz → sn106 x g o v gz) (hS107 : ∀ x g o v gz, S 107 x g o v gz → sn107 x g o v gz) (hS109 : ∀ x g o v gz, S 109 x g o v gz → sn109 x g o v gz) (hS114 : ∀ x g o v gz, S 114 x g o v gz → sn114 x g o v gz) (hS115 : ∀ x g o v gz, S 115 x g o v gz → sn115 x g o v gz) (hS116 : ∀ x g o v gz, S 116 x g o v gz → sn116 x g o v gz) (hS135 : ∀ x g o v gz, S 135 x g o v gz → sn135 x g o v gz) (hS139 : ∀ x g o v gz, S 139 x g o v gz → sn139 x g o v gz) (hS145 : ∀ x g o v gz, S 145 x g o v gz → sn145 x g o v gz) (hS154 : ∀ x g o v gz, S 154 x g o v gz → sn154 x g o v gz) (hS155 : ∀ x g o v gz, S 155 x g o v gz → sn155 x g o v gz) (hS156 : ∀ x g o v gz, S 156 x g o v gz → sn156 x g o v gz) {a : List Int} {g : rHp} : ∀ (ρ : Nat → Int) (γ : Nat → rHp), zO 22 S a g q157_5 ρ γ → zGl (fun _ _ _ => True) (sn157 a g) q157_5 ρ γ := by
  intro ρ γ h
  obtain ⟨ha, hg, hr, hf, hm, hc, hl⟩ := h
  have ha : a = [ρ 0, ρ 1, ρ 2, ρ 3, ρ 4, ρ 5, ρ 6, ρ 7, ρ 8, ρ 9, ρ 10, ρ 11, ρ 12, ρ 13, ρ 14, ρ 15, ρ 16, ρ 17, ρ 18, ρ 19, ρ 20, ρ 21] := ha
  subst ha
  subst hg
  obtain ⟨r0, r1, r2, r3, r4, r5, r6, r7, r8, r9, r10, r11, r12, r13, r14, r15, r16, r17, r18, r19, r20, r21, r22, r23, -⟩ := hr
  have r0 : (0 : Int) ≤ ρ 0 ∧ ρ 0 ≤ 60 := r0
  have r1 : (0 : Int) ≤ ρ 1 ∧ ρ 1 ≤ 60 := r1
  have r2 : (0 : Int) ≤ ρ 2 ∧ ρ 2 ≤ 7 := r2
  have r3 : (0 : Int) ≤ ρ 3 ∧ ρ 3 ≤ 2000 := r3
  have r4 : (0 : Int) ≤ ρ 4 ∧ ρ 4 ≤ 2000 := r4
  have r5 : (0 : Int) ≤ ρ 5 ∧ ρ 5 ≤ 8 := r5
  have r6 : ((-1) : Int) ≤ ρ 6 ∧ ρ 6 ≤ 7 := r6
  have r7 : ((-1) : Int) ≤ ρ 7 ∧ ρ 7 ≤ 19 := r7
  have r8 : (0 : Int) ≤ ρ 8 ∧ ρ 8 ≤ 2 := r8
  have r9 : ((-1) : Int) ≤ ρ 9 ∧ ρ 9 ≤ 19 := r9
  have r10 : (0 : Int) ≤ ρ 10 ∧ ρ 10 ≤ 4 := r10
  have r11 : (0 : Int) ≤ ρ 11 ∧ ρ 11 ≤ 20 := r11
  have r12 : ((-2147483648) : Int) ≤ ρ 12 ∧ ρ 12 ≤ 2147483647 := r12
  have r13 : ((-2147483648) : Int) ≤ ρ 13 ∧ ρ 13 ≤ 2147483647 := r13
  have r14 : ((-2147483648) : Int) ≤ ρ 14 ∧ ρ 14 ≤ 2147483647 := r14
  have r15 : (0 : Int) ≤ ρ 15 ∧ ρ 15 ≤ 8 := r15
  have r16 : (0 : Int) ≤ ρ 16 ∧ ρ 16 ≤ 32 := r16
  have r17 : (0 : Int) ≤ ρ 17 ∧ ρ 17 ≤ 5120 := r17
  have r18 : (0 : Int) ≤ ρ 18 ∧ ρ 18 ≤ 4 := r18
  have r19 : ((-2147483648) : Int) ≤ ρ 19 ∧ ρ 19 ≤ 2147483647 := r19
  have r20 : ((-1) : Int) ≤ ρ 20 ∧ ρ 20 ≤ 3 := r20
  have r21 : (0 : Int) ≤ ρ 21 ∧ ρ 21 ≤ 4 := r21
  have r22 : (0 : Int) ≤ ρ 22 ∧ ρ 22 ≤ 255 := r22
  have r23 : (0 : Int) ≤ ρ 23 ∧ ρ 23 ≤ 2000 := r23
  obtain ⟨f0, f1, f2, -⟩ := hf
  have f0 : (0 : Int) ≤ ρ 23 + -ρ 3 := f0
  have f1 : (0 : Int) ≤ -ρ 23 + ρ 4 + (-1) := f1
  have f2 : (0 : Int) ≤ ρ 4 + -ρ 3 + (-1) := f2
  obtain ⟨m0, m1, m2, m3, m4, m5, m6, m7, m8, m9, m10, m11, m12, m13, m14, m15, m16, m17, m18, m19, m20, m21, m22, m23, -⟩ := hm
  have m0 : γ 0 1 0 10 = ρ 0 := m0
  have m1 : γ 0 40 0 (ρ 0) = ρ 1 := m1
  have m2 : γ 0 9 (ρ 1) 2 = ρ 2 := m2
  have m3 : γ 0 2 0 6 = ρ 3 := m3
  have m4 : γ 0 2 0 3 = ρ 4 := m4
  have m5 : γ 0 10 (ρ 2 + 9 * ρ 1 + 1) 4 = ρ 5 := m5
  have m6 : γ 0 10 (ρ 2 + 9 * ρ 1 + 1) 11 = ρ 6 := m6
  have m7 : γ 0 10 (ρ 2 + 9 * ρ 1 + 1) 8 = ρ 7 := m7
  have m8 : γ 0 2 0 7 = ρ 8 := m8
  have m9 : γ 0 10 (9 * ρ 1) 8 = ρ 9 := m9
  have m10 : γ 0 10 (9 * ρ 1) 12 = ρ 10 := m10
  have m11 : γ 0 1 0 7 = ρ 11 := m11
  have m12 : γ 0 2 0 4 = ρ 12 := m12
  have m13 : γ 0 2 0 5 = ρ 13 := m13
  have m14 : γ 0 2 0 9 = ρ 14 := m14
  have m15 : γ 0 2 0 13 = ρ 15 := m15
  have m16 : γ 0 2 0 16 = ρ 16 := m16
  have m17 : γ 0 3 0 1 = ρ 17 := m17
  have m18 : γ 0 10 (ρ 2 + 9 * ρ 1 + 1) 5 = ρ 18 := m18
  have m19 : γ 0 10 (ρ 2 + 9 * ρ 1 + 1) 7 = ρ 19 := m19
  have m20 : γ 0 10 (ρ 2 + 9 * ρ 1 + 1) 9 = ρ 20 := m20
  have m21 : γ 0 10 (ρ 2 + 9 * ρ 1 + 1) 12 = ρ 21 := m21
  have m22 : γ 1 2 0 6 = ρ 23 := m22
  have m23 : γ 5 2 0 4 = ρ 23 := m23
  obtain ⟨⟨⟨⟨⟨-, c1⟩, c2⟩, c3⟩, c4⟩, c5⟩ := hc
  have c1 : ∀ (G : Nat) (k j : Int), ¬ rMdP m77_ G j → γ 1 G k j = γ 0 G k j := c1
  have c2 : ∀ (G : Nat) (k j : Int), ¬ rMdP m0_ G j → γ 2 G k j = γ 1 G k j := c2
  have c3 : ∀ (G : Nat) (k j : Int), ¬ rMdP m0_ G j → γ 3 G k j = γ 2 G k j := c3
  have c4 : ∀ (G : Nat) (k j : Int), ¬ rMdP m0_ G j → γ 4 G k j = γ 3 G k j := c4
  have c5 : ∀ (G : Nat) (k j : Int), ¬ rMdP m72_ G j → γ 5 G k j = γ 4 G k j := c5
  obtain ⟨l0, l1, l2, l3, l4, l5, l6, -⟩ := hl
  have l0 : sn114 [ρ 3, ρ 4] (γ 0) 0 (ρ 22) (γ 1) := hS114 _ _ _ _ _ l0
  have l1 : ρ 22 ≠ 33 := l1
  have l2 : sn106 [ρ 22] (γ 1) 0 0 (γ 2) := hS106 _ _ _ _ _ l2
  have l3 : sn105 [ρ 22] (γ 2) 0 0 (γ 3) := hS105 _ _ _ _ _ l3
  have l4 : sn107 [ρ 22] (γ 3) 0 0 (γ 4) := hS107 _ _ _ _ _ l4
  have l5 : ρ 22 ≠ 45 := l5
  have l6 : sn109 [ρ 23, ρ 12] (γ 4) 0 0 (γ 5) := hS109 _ _ _ _ _ l6
  show sn157 [ρ 0, ρ 1, ρ 2, ρ 3, ρ 4, ρ 5, ρ 6, ρ 7, ρ 8, ρ 9, ρ 10, ρ 11, ρ 12, ρ 13, ρ 14, ρ 15, ρ 16, ρ 17, ρ 18, ρ 19, ρ 20, ρ 21] (γ 0) 0 0 (γ 5)
  refine Eq.symm ?_
  show fn157 [] (γ 0) = _
  unfold fn157
  refine (zLet_eq m0).trans ?_
  refine (zLet_eq m1).trans ?_
  refine (zLet_eq m2).trans ?_
  refine (zLet_eq (show fn114 [] (γ 0) = (0, ρ 22, γ 1) from l0.symm)).trans ?_
  refine (zLet_eq (show _ = γ 1 from rfl)).trans ?_
  refine (if_pos (show (0 : Int) ≤ ρ 22 by omega)).trans ?_
  refine (zLet_eq (show _ = ρ 22 from rfl)).trans ?_
  refine (zLet_eq m22).trans ?_
  refine (if_pos (show ρ 22 ≠ 33 by omega)).trans ?_
  refine (zLet_eq (show fn106 [ρ 22] (γ 1) = (0, 0, γ 2) from l2.symm)).trans ?_
  refine (zLet_eq (show _ = γ 2 from rfl)).trans ?_
  refine (if_neg (show ¬ ((1 : Int) ≤ 0) by omega)).trans ?_
  refine (zLet_eq (show fn105 [ρ 22] (γ 2) = (0, 0, γ 3) from l3.symm)).trans ?_
  refine (zLet_eq (show _ = γ 3 from rfl)).trans ?_
  refine (if_neg (show ¬ ((1 : Int) ≤ 0) by omega)).trans ?_
  refine (zLet_eq (show fn107 [ρ 22] (γ 3) = (0, 0, γ 4) from l4.symm)).trans ?_
  refine (zLet_eq (show _ = γ 4 from rfl)).trans ?_
  refine (if_neg (show ¬ ((1 : Int) ≤ 0) by omega)).trans ?_
  refine (if_neg (show ¬ (ρ 22 = 45) by omega)).trans ?_
  refine (zLet_eq (show fn109 [ρ 23] (γ 4) = (0, 0, γ 5) from l6.symm)).trans ?_
  refine (zLet_eq (show _ = γ 5 from rfl)).trans ?_
  rfl
theorem vn157_6 {S : Nat → zSpc} (hS103 : ∀ x g o v gz, S 103 x g o v gz → sn103 x g o v gz) (hS104 : ∀ x g o v gz, S 104 x g o v gz → sn104 x g o v gz) (hS105 : ∀ x g o v gz, S 105 x g o v gz → sn105 x g o v gz) (hS106 : ∀ x g o v gz, S 106 x g o v gz → sn106 x g o v gz) (hS107 : ∀ x g o v gz, S 107 x g o v gz → sn107 x g o v gz) (hS109 : ∀ x g o v gz, S 109 x g o v gz → sn109 x g o v gz) (hS114 : ∀ x g o v gz, S 114 x g o v gz → sn114 x g o v gz) (hS115 : ∀ x g o v gz, S 115 x g o v gz → sn115 x g o v gz) (hS116 : ∀ x g o v gz, S 116 x g o v gz → sn116 x g o v gz) (hS135 : ∀ x g o v gz, S 135 x g o v gz → sn135 x g o v gz) (hS139 : ∀ x g o v gz, S 139 x g o v gz → sn139 x g o v gz) (hS145 : ∀ x g o v gz, S 145 x g o v gz → sn145 x g o v gz) (hS154 : ∀ x g o v gz, S 154 x g o v gz → sn154 x g o v gz) (hS155 : ∀ x g o v gz, S 155 x g o v gz → sn155 x g o v gz) (hS156 : ∀ x g o v gz, S 156 x g o v gz → sn156 x g o v gz) {a : List Int} {g : rHp} : ∀ (ρ : Nat → Int) (γ : Nat → rHp), zO 22 S a g q157_6 ρ γ → zGl (fun _ _ _ => True) (sn157 a g) q157_6 ρ γ := by
  intro ρ γ h
  obtain ⟨ha, hg, hr, hf, hm, hc, hl⟩ := h
  have ha : a = [ρ 0, ρ 1, ρ 2, ρ 3, ρ 4, ρ 5, ρ 6, ρ 7, ρ 8, ρ 9, ρ 10, ρ 11, ρ 12, ρ 13, ρ 14, ρ 15, ρ 16, ρ 17, ρ 18, ρ 19, ρ 20, ρ 21] := ha
  subst ha
  subst hg
  obtain ⟨r0, r1, r2, r3, r4, r5, r6, r7, r8, r9, r10, r11, r12, r13, r14, r15, r16, r17, r18, r19, r20, r21, r22, r23, r24, -⟩ := hr
  have r0 : (0 : Int) ≤ ρ 0 ∧ ρ 0 ≤ 60 := r0
  have r1 : (0 : Int) ≤ ρ 1 ∧ ρ 1 ≤ 60 := r1
  have r2 : (0 : Int) ≤ ρ 2 ∧ ρ 2 ≤ 7 := r2
  have r3 : (0 : Int) ≤ ρ 3 ∧ ρ 3 ≤ 2000 := r3
  have r4 : (0 : Int) ≤ ρ 4 ∧ ρ 4 ≤ 2000 := r4
  have r5 : (0 : Int) ≤ ρ 5 ∧ ρ 5 ≤ 8 := r5
  have r6 : ((-1) : Int) ≤ ρ 6 ∧ ρ 6 ≤ 7 := r6
  have r7 : ((-1) : Int) ≤ ρ 7 ∧ ρ 7 ≤ 19 := r7
  have r8 : (0 : Int) ≤ ρ 8 ∧ ρ 8 ≤ 2 := r8
  have r9 : ((-1) : Int) ≤ ρ 9 ∧ ρ 9 ≤ 19 := r9
  have r10 : (0 : Int) ≤ ρ 10 ∧ ρ 10 ≤ 4 := r10
  have r11 : (0 : Int) ≤ ρ 11 ∧ ρ 11 ≤ 20 := r11
  have r12 : ((-2147483648) : Int) ≤ ρ 12 ∧ ρ 12 ≤ 2147483647 := r12
  have r13 : ((-2147483648) : Int) ≤ ρ 13 ∧ ρ 13 ≤ 2147483647 := r13
  have r14 : ((-2147483648) : Int) ≤ ρ 14 ∧ ρ 14 ≤ 2147483647 := r14
  have r15 : (0 : Int) ≤ ρ 15 ∧ ρ 15 ≤ 8 := r15
  have r16 : (0 : Int) ≤ ρ 16 ∧ ρ 16 ≤ 32 := r16
  have r17 : (0 : Int) ≤ ρ 17 ∧ ρ 17 ≤ 5120 := r17
  have r18 : (0 : Int) ≤ ρ 18 ∧ ρ 18 ≤ 4 := r18
  have r19 : ((-2147483648) : Int) ≤ ρ 19 ∧ ρ 19 ≤ 2147483647 := r19
  have r20 : ((-1) : Int) ≤ ρ 20 ∧ ρ 20 ≤ 3 := r20
  have r21 : (0 : Int) ≤ ρ 21 ∧ ρ 21 ≤ 4 := r21
  have r22 : (48 : Int) ≤ ρ 22 ∧ ρ 22 ≤ 57 := r22
  have r23 : (0 : Int) ≤ ρ 23 ∧ ρ 23 ≤ 2000 := r23
  have r24 : (0 : Int) ≤ ρ 24 ∧ ρ 24 ≤ 2000 := r24
  obtain ⟨f0, f1, f2, f3, -⟩ := hf
  have f0 : (0 : Int) ≤ ρ 24 + -ρ 23 := f0
  have f1 : (0 : Int) ≤ ρ 23 + -ρ 3 := f1
  have f2 : (0 : Int) ≤ -ρ 23 + ρ 4 + (-1) := f2
  have f3 : (0 : Int) ≤ ρ 4 + -ρ 3 + (-1) := f3
  obtain ⟨m0, m1, m2, m3, m4, m5, m6, m7, m8, m9, m10, m11, m12, m13, m14, m15, m16, m17, m18, m19, m20, m21, m22, m23, m24, -⟩ := hm
  have m0 : γ 0 1 0 10 = ρ 0 := m0
  have m1 : γ 0 40 0 (ρ 0) = ρ 1 := m1
  have m2 : γ 0 9 (ρ 1) 2 = ρ 2 := m2
  have m3 : γ 0 2 0 6 = ρ 3 := m3
  have m4 : γ 0 2 0 3 = ρ 4 := m4
  have m5 : γ 0 10 (ρ 2 + 9 * ρ 1 + 1) 4 = ρ 5 := m5
  have m6 : γ 0 10 (ρ 2 + 9 * ρ 1 + 1) 11 = ρ 6 := m6
  have m7 : γ 0 10 (ρ 2 + 9 * ρ 1 + 1) 8 = ρ 7 := m7
  have m8 : γ 0 2 0 7 = ρ 8 := m8
  have m9 : γ 0 10 (9 * ρ 1) 8 = ρ 9 := m9
  have m10 : γ 0 10 (9 * ρ 1) 12 = ρ 10 := m10
  have m11 : γ 0 1 0 7 = ρ 11 := m11
  have m12 : γ 0 2 0 4 = ρ 12 := m12
  have m13 : γ 0 2 0 5 = ρ 13 := m13
  have m14 : γ 0 2 0 9 = ρ 14 := m14
  have m15 : γ 0 2 0 13 = ρ 15 := m15
  have m16 : γ 0 2 0 16 = ρ 16 := m16
  have m17 : γ 0 3 0 1 = ρ 17 := m17
  have m18 : γ 0 10 (ρ 2 + 9 * ρ 1 + 1) 5 = ρ 18 := m18
  have m19 : γ 0 10 (ρ 2 + 9 * ρ 1 + 1) 7 = ρ 19 := m19
  have m20 : γ 0 10 (ρ 2 + 9 * ρ 1 + 1) 9 = ρ 20 := m20
  have m21 : γ 0 10 (ρ 2 + 9 * ρ 1 + 1) 12 = ρ 21 := m21
  have m22 : γ 1 2 0 6 = ρ 23 := m22
  have m23 : γ 5 2 0 6 = ρ 24 := m23
  have m24 : γ 5 2 0 4 = ρ 23 := m24
  obtain ⟨⟨⟨⟨⟨-, c1⟩, c2⟩, c3⟩, c4⟩, c5⟩ := hc
  have c1 : ∀ (G : Nat) (k j : Int), ¬ rMdP m77_ G j → γ 1 G k j = γ 0 G k j := c1
  have c2 : ∀ (G : Nat) (k j : Int), ¬ rMdP m0_ G j → γ 2 G k j = γ 1 G k j := c2
  have c3 : ∀ (G : Nat) (k j : Int), ¬ rMdP m0_ G j → γ 3 G k j = γ 2 G k j := c3
  have c4 : ∀ (G : Nat) (k j : Int), ¬ rMdP m0_ G j → γ 4 G k j = γ 3 G k j := c4
  have c5 : ∀ (G : Nat) (k j : Int), ¬ rMdP m80_ G j → γ 5 G k j = γ 4 G k j := c5
  obtain ⟨l0, l1, l2, l3, l4, l5, -⟩ := hl
  have l0 : sn114 [ρ 3, ρ 4] (γ 0) 0 (ρ 22) (γ 1) := hS114 _ _ _ _ _ l0
  have l1 : ρ 22 ≠ 33 := l1
  have l2 : sn106 [ρ 22] (γ 1) 0 0 (γ 2) := hS106 _ _ _ _ _ l2
  have l3 : sn105 [ρ 22] (γ 2) 0 0 (γ 3) := hS105 _ _ _ _ _ l3
  have l4 : sn107 [ρ 22] (γ 3) 0 1 (γ 4) := hS107 _ _ _ _ _ l4
  have l5 : sn116 [ρ 23, ρ 4, ρ 12] (γ 4) 0 0 (γ 5) := hS116 _ _ _ _ _ l5
  show sn157 [ρ 0, ρ 1, ρ 2, ρ 3, ρ 4, ρ 5, ρ 6, ρ 7, ρ 8, ρ 9, ρ 10, ρ 11, ρ 12, ρ 13, ρ 14, ρ 15, ρ 16, ρ 17, ρ 18, ρ 19, ρ 20, ρ 21] (γ 0) 0 0 (γ 5)
  refine Eq.symm ?_
  show fn157 [] (γ 0) = _
  unfold fn157
  refine (zLet_eq m0).trans ?_
  refine (zLet_eq m1).trans ?_
  refine (zLet_eq m2).trans ?_
  refine (zLet_eq (show fn114 [] (γ 0) = (0, ρ 22, γ 1) from l0.symm)).trans ?_
  refine (zLet_eq (show _ = γ 1 from rfl)).trans ?_
  refine (if_pos (show (0 : Int) ≤ ρ 22 by omega)).trans ?_
  refine (zLet_eq (show _ = ρ 22 from rfl)).trans ?_
  refine (zLet_eq m22).trans ?_
  refine (if_pos (show ρ 22 ≠ 33 by omega)).trans ?_
  refine (zLet_eq (show fn106 [ρ 22] (γ 1) = (0, 0, γ 2) from l2.symm)).trans ?_
  refine (zLet_eq (show _ = γ 2 from rfl)).trans ?_
  refine (if_neg (show ¬ ((1 : Int) ≤ 0) by omega)).trans ?_
  refine (zLet_eq (show fn105 [ρ 22] (γ 2) = (0, 0, γ 3) from l3.symm)).trans ?_
  refine (zLet_eq (show _ = γ 3 from rfl)).trans ?_
  refine (if_neg (show ¬ ((1 : Int) ≤ 0) by omega)).trans ?_
  refine (zLet_eq (show fn107 [ρ 22] (γ 3) = (0, 1, γ 4) from l4.symm)).trans ?_
  refine (zLet_eq (show _ = γ 4 from rfl)).trans ?_
  refine (if_pos (show (1 : Int) ≤ 1 by omega)).trans ?_
  refine (zLet_eq (show fn116 [] (γ 4) = (0, 0, γ 5) from l5.symm)).trans ?_
  refine (zLet_eq (show _ = γ 5 from rfl)).trans ?_
  refine (if_neg (show ¬ ((1 : Int) ≤ 0) by omega)).trans ?_
  rfl
theorem vn157_7 {S : Nat → zSpc} (hS103 : ∀ x g o v gz, S 103 x g o v gz → sn103 x g o v gz) (hS104 : ∀ x g o v gz, S 104 x g o v gz → sn104 x g o v gz) (hS105 : ∀ x g o v gz, S 105 x g o v gz → sn105 x g o v gz) (hS106 : ∀ x g o v gz, S 106 x g o v gz → sn106 x g o v gz) (hS107 : ∀ x g o v gz, S 107 x g o v gz → sn107 x g o v gz) (hS109 : ∀ x g o v gz, S 109 x g o v gz → sn109 x g o v gz) (hS114 : ∀ x g o v gz, S 114 x g o v gz → sn114 x g o v gz) (hS115 : ∀ x g o v gz, S 115 x g o v gz → sn115 x g o v gz) (hS116 : ∀ x g o v gz, S 116 x g o v gz → sn116 x g o v gz) (hS135 : ∀ x g o v gz, S 135 x g o v gz → sn135 x g o v gz) (hS139 : ∀ x g o v gz, S 139 x g o v gz → sn139 x g o v gz) (hS145 : ∀ x g o v gz, S 145 x g o v gz → sn145 x g o v gz) (hS154 : ∀ x g o v gz, S 154 x g o v gz → sn154 x g o v gz) (hS155 : ∀ x g o v gz, S 155 x g o v gz → sn155 x g o v gz) (hS156 : ∀ x g o v gz, S 156 x g o v gz → sn156 x g o v gz) {a : List Int} {g : rHp} : ∀ (ρ : Nat → Int) (γ : Nat → rHp), zO 22 S a g q157_7 ρ γ → zGl (fun _ _ _ => True) (sn157 a g) q157_7 ρ γ := by
  intro ρ γ h
  obtain ⟨ha, hg, hr, hf, hm, hc, hl⟩ := h
  have ha : a = [ρ 0, ρ 1, ρ 2, ρ 3, ρ 4, ρ 5, ρ 6, ρ 7, ρ 8, ρ 9, ρ 10, ρ 11, ρ 12, ρ 13, ρ 14, ρ 15, ρ 16, ρ 17, ρ 18, ρ 19, ρ 20, ρ 21] := ha
  subst ha
  subst hg
  obtain ⟨r0, r1, r2, r3, r4, r5, r6, r7, r8, r9, r10, r11, r12, r13, r14, r15, r16, r17, r18, r19, r20, r21, r22, r23, r24, r25, r26, r27, r28, -⟩ := hr
  have r0 : (0 : Int) ≤ ρ 0 ∧ ρ 0 ≤ 60 := r0
  have r1 : (0 : Int) ≤ ρ 1 ∧ ρ 1 ≤ 60 := r1
  have r2 : (0 : Int) ≤ ρ 2 ∧ ρ 2 ≤ 7 := r2
  have r3 : (0 : Int) ≤ ρ 3 ∧ ρ 3 ≤ 2000 := r3
  have r4 : (0 : Int) ≤ ρ 4 ∧ ρ 4 ≤ 2000 := r4
  have r5 : (0 : Int) ≤ ρ 5 ∧ ρ 5 ≤ 8 := r5
  have r6 : ((-1) : Int) ≤ ρ 6 ∧ ρ 6 ≤ 7 := r6
  have r7 : ((-1) : Int) ≤ ρ 7 ∧ ρ 7 ≤ 19 := r7
  have r8 : (0 : Int) ≤ ρ 8 ∧ ρ 8 ≤ 2 := r8
  have r9 : ((-1) : Int) ≤ ρ 9 ∧ ρ 9 ≤ 19 := r9
  have r10 : (0 : Int) ≤ ρ 10 ∧ ρ 10 ≤ 4 := r10
  have r11 : (0 : Int) ≤ ρ 11 ∧ ρ 11 ≤ 20 := r11
  have r12 : ((-2147483648) : Int) ≤ ρ 12 ∧ ρ 12 ≤ 2147483647 := r12
  have r13 : ((-2147483648) : Int) ≤ ρ 13 ∧ ρ 13 ≤ 2147483647 := r13
  have r14 : ((-2147483648) : Int) ≤ ρ 14 ∧ ρ 14 ≤ 2147483647 := r14
  have r15 : (0 : Int) ≤ ρ 15 ∧ ρ 15 ≤ 8 := r15
  have r16 : (0 : Int) ≤ ρ 16 ∧ ρ 16 ≤ 32 := r16
  have r17 : (0 : Int) ≤ ρ 17 ∧ ρ 17 ≤ 5120 := r17
  have r18 : (0 : Int) ≤ ρ 18 ∧ ρ 18 ≤ 4 := r18
  have r19 : ((-2147483648) : Int) ≤ ρ 19 ∧ ρ 19 ≤ 2147483647 := r19
  have r20 : ((-1) : Int) ≤ ρ 20 ∧ ρ 20 ≤ 3 := r20
  have r21 : (0 : Int) ≤ ρ 21 ∧ ρ 21 ≤ 4 := r21
  have r22 : (48 : Int) ≤ ρ 22 ∧ ρ 22 ≤ 57 := r22
  have r23 : (0 : Int) ≤ ρ 23 ∧ ρ 23 ≤ 2000 := r23
  have r24 : (1 : Int) ≤ ρ 24 ∧ ρ 24 ≤ 2000 := r24
  have r25 : ((-9223372036854775808) : Int) ≤ ρ 25 ∧ ρ 25 ≤ 9223372036854775807 := r25
  have r26 : (1 : Int) ≤ ρ 26 ∧ ρ 26 ≤ 1 := r26
  have r27 : (0 : Int) ≤ ρ 27 ∧ ρ 27 ≤ 2000 := r27
  have r28 : (0 : Int) ≤ ρ 28 ∧ ρ 28 ≤ 2000 := r28
  obtain ⟨f0, f1, f2, f3, f4, f5, f6, -⟩ := hf
  have f0 : (0 : Int) ≤ -ρ 28 + ρ 27 := f0
  have f1 : (0 : Int) ≤ ρ 27 + -ρ 24 := f1
  have f2 : (0 : Int) ≤ ρ 28 + -ρ 27 := f2
  have f3 : (0 : Int) ≤ ρ 24 + -ρ 23 + (-1) := f3
  have f4 : (0 : Int) ≤ ρ 23 + -ρ 3 := f4
  have f5 : (0 : Int) ≤ -ρ 23 + ρ 4 + (-1) := f5
  have f6 : (0 : Int) ≤ ρ 4 + -ρ 3 + (-1) := f6
  obtain ⟨m0, m1, m2, m3, m4, m5, m6, m7, m8, m9, m10, m11, m12, m13, m14, m15, m16, m17, m18, m19, m20, m21, m22, m23, m24, m25, m26, m27, m28, m29, m30, m31, m32, m33, m34, m35, m36, m37, -⟩ := hm
  have m0 : γ 0 1 0 10 = ρ 0 := m0
  have m1 : γ 0 40 0 (ρ 0) = ρ 1 := m1
  have m2 : γ 0 9 (ρ 1) 2 = ρ 2 := m2
  have m3 : γ 0 2 0 6 = ρ 3 := m3
  have m4 : γ 0 2 0 3 = ρ 4 := m4
  have m5 : γ 0 10 (ρ 2 + 9 * ρ 1 + 1) 4 = ρ 5 := m5
  have m6 : γ 0 10 (ρ 2 + 9 * ρ 1 + 1) 11 = ρ 6 := m6
  have m7 : γ 0 10 (ρ 2 + 9 * ρ 1 + 1) 8 = ρ 7 := m7
  have m8 : γ 0 2 0 7 = ρ 8 := m8
  have m9 : γ 0 10 (9 * ρ 1) 8 = ρ 9 := m9
  have m10 : γ 0 10 (9 * ρ 1) 12 = ρ 10 := m10
  have m11 : γ 0 1 0 7 = ρ 11 := m11
  have m12 : γ 0 2 0 4 = ρ 12 := m12
  have m13 : γ 0 2 0 5 = ρ 13 := m13
  have m14 : γ 0 2 0 9 = ρ 14 := m14
  have m15 : γ 0 2 0 13 = ρ 15 := m15
  have m16 : γ 0 2 0 16 = ρ 16 := m16
  have m17 : γ 0 3 0 1 = ρ 17 := m17
  have m18 : γ 0 10 (ρ 2 + 9 * ρ 1 + 1) 5 = ρ 18 := m18
  have m19 : γ 0 10 (ρ 2 + 9 * ρ 1 + 1) 7 = ρ 19 := m19
  have m20 : γ 0 10 (ρ 2 + 9 * ρ 1 + 1) 9 = ρ 20 := m20
  have m21 : γ 0 10 (ρ 2 + 9 * ρ 1 + 1) 12 = ρ 21 := m21
  have m22 : γ 1 2 0 6 = ρ 23 := m22
  have m23 : γ 5 2 0 6 = ρ 24 := m23
  have m24 : γ 5 2 0 4 = ρ 12 := m24
  have m25 : γ 6 10 (9 * ρ 1) 8 = ρ 9 := m25
  have m26 : γ 6 10 (9 * ρ 1) 12 = ρ 10 := m26
  have m27 : γ 6 10 (ρ 2 + 9 * ρ 1 + 1) 4 = 4 := m27
  have m28 : γ 6 10 (ρ 2 + 9 * ρ 1 + 1) 5 = 0 := m28
  have m29 : γ 6 10 (ρ 2 + 9 * ρ 1 + 1) 7 = ρ 23 := m29
  have m30 : γ 6 10 (ρ 2 + 9 * ρ 1 + 1) 8 = (-1) := m30
  have m31 : γ 6 10 (ρ 2 + 9 * ρ 1 + 1) 9 = (-1) := m31
  have m32 : γ 6 10 (ρ 2 + 9 * ρ 1 + 1) 12 = 0 := m32
  have m33 : γ 5 2 0 10 = ρ 25 := m33
  have m34 : γ 7 10 (ρ 2 + 9 * ρ 1 + 1) 5 = ρ 26 := m34
  have m35 : γ 8 2 0 6 = ρ 27 := m35
  have m36 : γ 8 10 (ρ 2 + 9 * ρ 1 + 1) 4 = 4 := m36
  have m37 : γ 8 2 0 4 = ρ 28 := m37
  obtain ⟨⟨⟨⟨⟨⟨⟨⟨-, c1⟩, c2⟩, c3⟩, c4⟩, c5⟩, c6⟩, c7⟩, c8⟩ := hc
  have c1 : ∀ (G : Nat) (k j : Int), ¬ rMdP m77_ G j → γ 1 G k j = γ 0 G k j := c1
  have c2 : ∀ (G : Nat) (k j : Int), ¬ rMdP m0_ G j → γ 2 G k j = γ 1 G k j := c2
  have c3 : ∀ (G : Nat) (k j : Int), ¬ rMdP m0_ G j → γ 3 G k j = γ 2 G k j := c3
  have c4 : ∀ (G : Nat) (k j : Int), ¬ rMdP m0_ G j → γ 4 G k j = γ 3 G k j := c4
  have c5 : ∀ (G : Nat) (k j : Int), ¬ rMdP m80_ G j → γ 5 G k j = γ 4 G k j := c5
  have c6 : ∀ (G : Nat) (k j : Int), ¬ rMdP m70_ G j → γ 6 G k j = γ 5 G k j := c6
  have c7 : ∀ (G : Nat) (k j : Int), ¬ rMdP m71_ G j → γ 7 G k j = γ 6 G k j := c7
  have c8 : ∀ (G : Nat) (k j : Int), ¬ rMdP m103_ G j → γ 8 G k j = γ 7 G k j := c8
  obtain ⟨l0, l1, l2, l3, l4, l5, l6, l7, l8, -⟩ := hl
  have l0 : sn114 [ρ 3, ρ 4] (γ 0) 0 (ρ 22) (γ 1) := hS114 _ _ _ _ _ l0
  have l1 : ρ 22 ≠ 33 := l1
  have l2 : sn106 [ρ 22] (γ 1) 0 0 (γ 2) := hS106 _ _ _ _ _ l2
  have l3 : sn105 [ρ 22] (γ 2) 0 0 (γ 3) := hS105 _ _ _ _ _ l3
  have l4 : sn107 [ρ 22] (γ 3) 0 1 (γ 4) := hS107 _ _ _ _ _ l4
  have l5 : sn116 [ρ 23, ρ 4, ρ 12] (γ 4) 0 1 (γ 5) := hS116 _ _ _ _ _ l5
  have l6 : sn103 [4, 0, ρ 23, ρ 0, ρ 1, ρ 2, ρ 9, ρ 10, ρ 5, ρ 18, ρ 19, ρ 7, ρ 20, ρ 21] (γ 5) 0 0 (γ 6) := hS103 _ _ _ _ _ l6
  have l7 : sn104 [ρ 2 + 9 * ρ 1 + 1, 0, ρ 23, 0, ρ 25, 0] (γ 6) 0 0 (γ 7) := hS104 _ _ _ _ _ l7
  have l8 : sn154 [ρ 0, ρ 1, ρ 2, ρ 24, ρ 4, 4, ρ 9, ρ 10, ρ 12] (γ 7) 0 0 (γ 8) := hS154 _ _ _ _ _ l8
  show sn157 [ρ 0, ρ 1, ρ 2, ρ 3, ρ 4, ρ 5, ρ 6, ρ 7, ρ 8, ρ 9, ρ 10, ρ 11, ρ 12, ρ 13, ρ 14, ρ 15, ρ 16, ρ 17, ρ 18, ρ 19, ρ 20, ρ 21] (γ 0) 0 0 (γ 8)
  refine Eq.symm ?_
  show fn157 [] (γ 0) = _
  unfold fn157
  refine (zLet_eq m0).trans ?_
  refine (zLet_eq m1).trans ?_
  refine (zLet_eq m2).trans ?_
  refine (zLet_eq (show fn114 [] (γ 0) = (0, ρ 22, γ 1) from l0.symm)).trans ?_
  refine (zLet_eq (show _ = γ 1 from rfl)).trans ?_
  refine (if_pos (show (0 : Int) ≤ ρ 22 by omega)).trans ?_
  refine (zLet_eq (show _ = ρ 22 from rfl)).trans ?_
  refine (zLet_eq m22).trans ?_
  refine (if_pos (show ρ 22 ≠ 33 by omega)).trans ?_
  refine (zLet_eq (show fn106 [ρ 22] (γ 1) = (0, 0, γ 2) from l2.symm)).trans ?_
  refine (zLet_eq (show _ = γ 2 from rfl)).trans ?_
  refine (if_neg (show ¬ ((1 : Int) ≤ 0) by omega)).trans ?_
  refine (zLet_eq (show fn105 [ρ 22] (γ 2) = (0, 0, γ 3) from l3.symm)).trans ?_
  refine (zLet_eq (show _ = γ 3 from rfl)).trans ?_
  refine (if_neg (show ¬ ((1 : Int) ≤ 0) by omega)).trans ?_
  refine (zLet_eq (show fn107 [ρ 22] (γ 3) = (0, 1, γ 4) from l4.symm)).trans ?_
  refine (zLet_eq (show _ = γ 4 from rfl)).trans ?_
  refine (if_pos (show (1 : Int) ≤ 1 by omega)).trans ?_
  refine (zLet_eq (show fn116 [] (γ 4) = (0, 1, γ 5) from l5.symm)).trans ?_
  refine (zLet_eq (show _ = γ 5 from rfl)).trans ?_
  refine (if_pos (show (1 : Int) ≤ 1 by omega)).trans ?_
  refine (zLet_eq (show fn103 [4, 0, ρ 23] (γ 5) = (0, 0, γ 6) from l6.symm)).trans ?_
  refine (zLet_eq (show _ = γ 6 from rfl)).trans ?_
  refine (zLet_eq m33).trans ?_
  refine (zLet_eq (show fn104 [ρ 2 + 9 * ρ 1 + 1, 0, ρ 23, 0, ρ 25] (γ 6) = (0, 0, γ 7) from l7.symm)).trans ?_
  refine (zLet_eq (show _ = γ 7 from rfl)).trans ?_
  refine (zLet_eq (show fn154 [] (γ 7) = (0, 0, γ 8) from l8.symm)).trans ?_
  refine (zLet_eq (show _ = γ 8 from rfl)).trans ?_
  refine (if_neg (show ¬ ((1 : Int) ≤ 0) by omega)).trans ?_
  rfl
theorem vn157_8 {S : Nat → zSpc} (hS103 : ∀ x g o v gz, S 103 x g o v gz → sn103 x g o v gz) (hS104 : ∀ x g o v gz, S 104 x g o v gz → sn104 x g o v gz) (hS105 : ∀ x g o v gz, S 105 x g o v gz → sn105 x g o v gz) (hS106 : ∀ x g o v gz, S 106 x g o v gz → sn106 x g o v gz) (hS107 : ∀ x g o v gz, S 107 x g o v gz → sn107 x g o v gz) (hS109 : ∀ x g o v gz, S 109 x g o v gz → sn109 x g o v gz) (hS114 : ∀ x g o v gz, S 114 x g o v gz → sn114 x g o v gz) (hS115 : ∀ x g o v gz, S 115 x g o v gz → sn115 x g o v gz) (hS116 : ∀ x g o v gz, S 116 x g o v gz → sn116 x g o v gz) (hS135 : ∀ x g o v gz, S 135 x g o v gz → sn135 x g o v gz) (hS139 : ∀ x g o v gz, S 139 x g o v gz → sn139 x g o v gz) (hS145 : ∀ x g o v gz, S 145 x g o v gz → sn145 x g o v gz) (hS154 : ∀ x g o v gz, S 154 x g o v gz → sn154 x g o v gz) (hS155 : ∀ x g o v gz, S 155 x g o v gz → sn155 x g o v gz) (hS156 : ∀ x g o v gz, S 156 x g o v gz → sn156 x g o v gz) {a : List Int} {g : rHp} : ∀ (ρ : Nat → Int) (γ : Nat → rHp), zO 22 S a g q157_8 ρ γ → zGl (fun _ _ _ => True) (sn157 a g) q157_8 ρ γ := by
  intro ρ γ h
  obtain ⟨ha, hg, hr, hf, hm, hc, hl⟩ := h
  have ha : a = [ρ 0, ρ 1, ρ 2, ρ 3, ρ 4, ρ 5, ρ 6, ρ 7, ρ 8, ρ 9, ρ 10, ρ 11, ρ 12, ρ 13, ρ 14, ρ 15, ρ 16, ρ 17, ρ 18, ρ 19, ρ 20, ρ 21] := ha
  subst ha
  subst hg
  obtain ⟨r0, r1, r2, r3, r4, r5, r6, r7, r8, r9, r10, r11, r12, r13, r14, r15, r16, r17, r18, r19, r20, r21, r22, r23, r24, r25, r26, r27, r28, r29, r30, r31, r32, r33, -⟩ := hr
  have r0 : (0 : Int) ≤ ρ 0 ∧ ρ 0 ≤ 60 := r0
  have r1 : (0 : Int) ≤ ρ 1 ∧ ρ 1 ≤ 60 := r1
  have r2 : (0 : Int) ≤ ρ 2 ∧ ρ 2 ≤ 7 := r2
  have r3 : (0 : Int) ≤ ρ 3 ∧ ρ 3 ≤ 2000 := r3
  have r4 : (0 : Int) ≤ ρ 4 ∧ ρ 4 ≤ 2000 := r4
  have r5 : (0 : Int) ≤ ρ 5 ∧ ρ 5 ≤ 8 := r5
  have r6 : ((-1) : Int) ≤ ρ 6 ∧ ρ 6 ≤ 7 := r6
  have r7 : ((-1) : Int) ≤ ρ 7 ∧ ρ 7 ≤ 19 := r7
  have r8 : (0 : Int) ≤ ρ 8 ∧ ρ 8 ≤ 2 := r8
  have r9 : ((-1) : Int) ≤ ρ 9 ∧ ρ 9 ≤ 19 := r9
  have r10 : (0 : Int) ≤ ρ 10 ∧ ρ 10 ≤ 4 := r10
  have r11 : (0 : Int) ≤ ρ 11 ∧ ρ 11 ≤ 20 := r11
  have r12 : ((-2147483648) : Int) ≤ ρ 12 ∧ ρ 12 ≤ 2147483647 := r12
  have r13 : ((-2147483648) : Int) ≤ ρ 13 ∧ ρ 13 ≤ 2147483647 := r13
  have r14 : ((-2147483648) : Int) ≤ ρ 14 ∧ ρ 14 ≤ 2147483647 := r14
  have r15 : (0 : Int) ≤ ρ 15 ∧ ρ 15 ≤ 8 := r15
  have r16 : (0 : Int) ≤ ρ 16 ∧ ρ 16 ≤ 32 := r16
  have r17 : (0 : Int) ≤ ρ 17 ∧ ρ 17 ≤ 5120 := r17
  have r18 : (0 : Int) ≤ ρ 18 ∧ ρ 18 ≤ 4 := r18
  have r19 : ((-2147483648) : Int) ≤ ρ 19 ∧ ρ 19 ≤ 2147483647 := r19
  have r20 : ((-1) : Int) ≤ ρ 20 ∧ ρ 20 ≤ 3 := r20
  have r21 : (0 : Int) ≤ ρ 21 ∧ ρ 21 ≤ 4 := r21
  have r22 : (48 : Int) ≤ ρ 22 ∧ ρ 22 ≤ 57 := r22
  have r23 : (0 : Int) ≤ ρ 23 ∧ ρ 23 ≤ 2000 := r23
  have r24 : (1 : Int) ≤ ρ 24 ∧ ρ 24 ≤ 2000 := r24
  have r25 : ((-9223372036854775808) : Int) ≤ ρ 25 ∧ ρ 25 ≤ 9223372036854775807 := r25
  have r26 : (1 : Int) ≤ ρ 26 ∧ ρ 26 ≤ 1 := r26
  have r27 : (1 : Int) ≤ ρ 27 ∧ ρ 27 ≤ 2000 := r27
  have r28 : (3 : Int) ≤ ρ 28 ∧ ρ 28 ≤ 5 := r28
  have r29 : (0 : Int) ≤ ρ 29 ∧ ρ 29 ≤ 2000 := r29
  have r30 : (0 : Int) ≤ ρ 30 ∧ ρ 30 ≤ 4 := r30
  have r31 : (0 : Int) ≤ ρ 31 ∧ ρ 31 ≤ 2000 := r31
  have r32 : ((-2147483648) : Int) ≤ ρ 32 ∧ ρ 32 ≤ 2147483647 := r32
  have r33 : (0 : Int) ≤ ρ 33 ∧ ρ 33 ≤ 5120 := r33
  obtain ⟨f0, f1, f2, f3, f4, f5, f6, f7, f8, f9, f10, f11, f12, -⟩ := hf
  have f0 : (0 : Int) ≤ -ρ 31 + ρ 29 := f0
  have f1 : (0 : Int) ≤ ρ 29 + -ρ 27 := f1
  have f2 : (0 : Int) ≤ ρ 30 + -ρ 26 := f2
  have f3 : (0 : Int) ≤ ρ 31 + -ρ 27 := f3
  have f4 : (0 : Int) ≤ ρ 33 + -ρ 17 := f4
  have f5 : (0 : Int) ≤ -ρ 30 + ρ 26 + 1 := f5
  have f6 : (0 : Int) ≤ ρ 27 + -ρ 24 + (-1) := f6
  have f7 : (0 : Int) ≤ -ρ 27 + ρ 4 := f7
  have f8 : (0 : Int) ≤ -ρ 24 + ρ 4 + (-1) := f8
  have f9 : (0 : Int) ≤ ρ 24 + -ρ 23 + (-1) := f9
  have f10 : (0 : Int) ≤ ρ 23 + -ρ 3 := f10
  have f11 : (0 : Int) ≤ -ρ 23 + ρ 4 + (-1) := f11
  have f12 : (0 : Int) ≤ ρ 4 + -ρ 3 + (-1) := f12
  obtain ⟨m0, m1, m2, m3, m4, m5, m6, m7, m8, m9, m10, m11, m12, m13, m14, m15, m16, m17, m18, m19, m20, m21, m22, m23, m24, m25, m26, m27, m28, m29, m30, m31, m32, m33, m34, m35, m36, m37, m38, m39, m40, m41, m42, -⟩ := hm
  have m0 : γ 0 1 0 10 = ρ 0 := m0
  have m1 : γ 0 40 0 (ρ 0) = ρ 1 := m1
  have m2 : γ 0 9 (ρ 1) 2 = ρ 2 := m2
  have m3 : γ 0 2 0 6 = ρ 3 := m3
  have m4 : γ 0 2 0 3 = ρ 4 := m4
  have m5 : γ 0 10 (ρ 2 + 9 * ρ 1 + 1) 4 = ρ 5 := m5
  have m6 : γ 0 10 (ρ 2 + 9 * ρ 1 + 1) 11 = ρ 6 := m6
  have m7 : γ 0 10 (ρ 2 + 9 * ρ 1 + 1) 8 = ρ 7 := m7
  have m8 : γ 0 2 0 7 = ρ 8 := m8
  have m9 : γ 0 10 (9 * ρ 1) 8 = ρ 9 := m9
  have m10 : γ 0 10 (9 * ρ 1) 12 = ρ 10 := m10
  have m11 : γ 0 1 0 7 = ρ 11 := m11
  have m12 : γ 0 2 0 4 = ρ 12 := m12
  have m13 : γ 0 2 0 5 = ρ 13 := m13
  have m14 : γ 0 2 0 9 = ρ 14 := m14
  have m15 : γ 0 2 0 13 = ρ 15 := m15
  have m16 : γ 0 2 0 16 = ρ 16 := m16
  have m17 : γ 0 3 0 1 = ρ 17 := m17
  have m18 : γ 0 10 (ρ 2 + 9 * ρ 1 + 1) 5 = ρ 18 := m18
  have m19 : γ 0 10 (ρ 2 + 9 * ρ 1 + 1) 7 = ρ 19 := m19
  have m20 : γ 0 10 (ρ 2 + 9 * ρ 1 + 1) 9 = ρ 20 := m20
  have m21 : γ 0 10 (ρ 2 + 9 * ρ 1 + 1) 12 = ρ 21 := m21
  have m22 : γ 1 2 0 6 = ρ 23 := m22
  have m23 : γ 5 2 0 6 = ρ 24 := m23
  have m24 : γ 5 2 0 4 = ρ 12 := m24
  have m25 : γ 6 10 (9 * ρ 1) 8 = ρ 9 := m25
  have m26 : γ 6 10 (9 * ρ 1) 12 = ρ 10 := m26
  have m27 : γ 6 10 (ρ 2 + 9 * ρ 1 + 1) 4 = 4 := m27
  have m28 : γ 6 10 (ρ 2 + 9 * ρ 1 + 1) 5 = 0 := m28
  have m29 : γ 6 10 (ρ 2 + 9 * ρ 1 + 1) 7 = ρ 23 := m29
  have m30 : γ 6 10 (ρ 2 + 9 * ρ 1 + 1) 8 = (-1) := m30
  have m31 : γ 6 10 (ρ 2 + 9 * ρ 1 + 1) 9 = (-1) := m31
  have m32 : γ 6 10 (ρ 2 + 9 * ρ 1 + 1) 12 = 0 := m32
  have m33 : γ 5 2 0 10 = ρ 25 := m33
  have m34 : γ 7 10 (ρ 2 + 9 * ρ 1 + 1) 5 = ρ 26 := m34
  have m35 : γ 8 2 0 6 = ρ 27 := m35
  have m36 : γ 8 10 (ρ 2 + 9 * ρ 1 + 1) 4 = ρ 28 := m36
  have m37 : γ 8 2 0 4 = ρ 12 := m37
  have m38 : γ 9 2 0 6 = ρ 29 := m38
  have m39 : γ 9 10 (ρ 2 + 9 * ρ 1 + 1) 5 = ρ 30 := m39
  have m40 : γ 9 2 0 4 = ρ 31 := m40
  have m41 : γ 9 2 0 9 = ρ 32 := m41
  have m42 : γ 9 3 0 1 = ρ 33 := m42
  obtain ⟨⟨⟨⟨⟨⟨⟨⟨⟨-, c1⟩, c2⟩, c3⟩, c4⟩, c5⟩, c6⟩, c7⟩, c8⟩, c9⟩ := hc
  have c1 : ∀ (G : Nat) (k j : Int), ¬ rMdP m77_ G j → γ 1 G k j = γ 0 G k j := c1
  have c2 : ∀ (G : Nat) (k j : Int), ¬ rMdP m0_ G j → γ 2 G k j = γ 1 G k j := c2
  have c3 : ∀ (G : Nat) (k j : Int), ¬ rMdP m0_ G j → γ 3 G k j = γ 2 G k j := c3
  have c4 : ∀ (G : Nat) (k j : Int), ¬ rMdP m0_ G j → γ 4 G k j = γ 3 G k j := c4
  have c5 : ∀ (G : Nat) (k j : Int), ¬ rMdP m80_ G j → γ 5 G k j = γ 4 G k j := c5
  have c6 : ∀ (G : Nat) (k j : Int), ¬ rMdP m70_ G j → γ 6 G k j = γ 5 G k j := c6
  have c7 : ∀ (G : Nat) (k j : Int), ¬ rMdP m71_ G j → γ 7 G k j = γ 6 G k j := c7
  have c8 : ∀ (G : Nat) (k j : Int), ¬ rMdP m103_ G j → γ 8 G k j = γ 7 G k j := c8
  have c9 : ∀ (G : Nat) (k j : Int), ¬ rMdP m92_ G j → γ 9 G k j = γ 8 G k j := c9
  obtain ⟨l0, l1, l2, l3, l4, l5, l6, l7, l8, l9, -⟩ := hl
  have l0 : sn114 [ρ 3, ρ 4] (γ 0) 0 (ρ 22) (γ 1) := hS114 _ _ _ _ _ l0
  have l1 : ρ 22 ≠ 33 := l1
  have l2 : sn106 [ρ 22] (γ 1) 0 0 (γ 2) := hS106 _ _ _ _ _ l2
  have l3 : sn105 [ρ 22] (γ 2) 0 0 (γ 3) := hS105 _ _ _ _ _ l3
  have l4 : sn107 [ρ 22] (γ 3) 0 1 (γ 4) := hS107 _ _ _ _ _ l4
  have l5 : sn116 [ρ 23, ρ 4, ρ 12] (γ 4) 0 1 (γ 5) := hS116 _ _ _ _ _ l5
  have l6 : sn103 [4, 0, ρ 23, ρ 0, ρ 1, ρ 2, ρ 9, ρ 10, ρ 5, ρ 18, ρ 19, ρ 7, ρ 20, ρ 21] (γ 5) 0 0 (γ 6) := hS103 _ _ _ _ _ l6
  have l7 : sn104 [ρ 2 + 9 * ρ 1 + 1, 0, ρ 23, 0, ρ 25, 0] (γ 6) 0 0 (γ 7) := hS104 _ _ _ _ _ l7
  have l8 : sn154 [ρ 0, ρ 1, ρ 2, ρ 24, ρ 4, 4, ρ 9, ρ 10, ρ 12] (γ 7) 0 1 (γ 8) := hS154 _ _ _ _ _ l8
  have l9 : sn139 [ρ 2 + 9 * ρ 1 + 1, ρ 27, ρ 4, ρ 26, ρ 12, ρ 13, ρ 14, ρ 15, ρ 17] (γ 8) 0 0 (γ 9) := hS139 _ _ _ _ _ l9
  show sn157 [ρ 0, ρ 1, ρ 2, ρ 3, ρ 4, ρ 5, ρ 6, ρ 7, ρ 8, ρ 9, ρ 10, ρ 11, ρ 12, ρ 13, ρ 14, ρ 15, ρ 16, ρ 17, ρ 18, ρ 19, ρ 20, ρ 21] (γ 0) 0 0 (γ 9)
  refine Eq.symm ?_
  show fn157 [] (γ 0) = _
  unfold fn157
  refine (zLet_eq m0).trans ?_
  refine (zLet_eq m1).trans ?_
  refine (zLet_eq m2).trans ?_
  refine (zLet_eq (show fn114 [] (γ 0) = (0, ρ 22, γ 1) from l0.symm)).trans ?_
  refine (zLet_eq (show _ = γ 1 from rfl)).trans ?_
  refine (if_pos (show (0 : Int) ≤ ρ 22 by omega)).trans ?_
  refine (zLet_eq (show _ = ρ 22 from rfl)).trans ?_
  refine (zLet_eq m22).trans ?_
  refine (if_pos (show ρ 22 ≠ 33 by omega)).trans ?_
  refine (zLet_eq (show fn106 [ρ 22] (γ 1) = (0, 0, γ 2) from l2.symm)).trans ?_
  refine (zLet_eq (show _ = γ 2 from rfl)).trans ?_
  refine (if_neg (show ¬ ((1 : Int) ≤ 0) by omega)).trans ?_
  refine (zLet_eq (show fn105 [ρ 22] (γ 2) = (0, 0, γ 3) from l3.symm)).trans ?_
  refine (zLet_eq (show _ = γ 3 from rfl)).trans ?_
  refine (if_neg (show ¬ ((1 : Int) ≤ 0) by omega)).trans ?_
  refine (zLet_eq (show fn107 [ρ 22] (γ 3) = (0, 1, γ 4) from l4.symm)).trans ?_
  refine (zLet_eq (show _ = γ 4 from rfl)).trans ?_
  refine (if_pos (show (1 : Int) ≤ 1 by omega)).trans ?_
  refine (zLet_eq (show fn116 [] (γ 4) = (0, 1, γ 5) from l5.symm)).trans ?_
  refine (zLet_eq (show _ = γ 5 from rfl)).trans ?_
  refine (if_pos (show (1 : Int) ≤ 1 by omega)).trans ?_
  refine (zLet_eq (show fn103 [4, 0, ρ 23] (γ 5) = (0, 0, γ 6) from l6.symm)).trans ?_
  refine (zLet_eq (show _ = γ 6 from rfl)).trans ?_
  refine (zLet_eq m33).trans ?_
  refine (zLet_eq (show fn104 [ρ 2 + 9 * ρ 1 + 1, 0, ρ 23, 0, ρ 25] (γ 6) = (0, 0, γ 7) from l7.symm)).trans ?_
  refine (zLet_eq (show _ = γ 7 from rfl)).trans ?_
  refine (zLet_eq (show fn154 [] (γ 7) = (0, 1, γ 8) from l8.symm)).trans ?_
  refine (zLet_eq (show _ = γ 8 from rfl)).trans ?_
  refine (if_pos (show (1 : Int) ≤ 1 by omega)).trans ?_
  refine (zLet_eq (show fn139 [ρ 2 + 9 * ρ 1 + 1] (γ 8) = (0, 0, γ 9) from l9.symm)).trans ?_
  refine (zLet_eq (show _ = γ 9 from rfl)).trans ?_
  refine (if_neg (show ¬ ((1 : Int) ≤ 0) by omega)).trans ?_
  rfl
theorem vn157_9 {S : Nat → zSpc} (hS103 : ∀ x g o v gz, S 103 x g o v gz → sn103 x g o v gz) (hS104 : ∀ x g o v gz, S 104 x g o v gz → sn104 x g o v gz) (hS105 : ∀ x g o v gz, S 105 x g o v gz → sn105 x g o v gz) (hS106 : ∀ x g o v gz, S 106 x g o v gz → sn106 x g o v gz) (hS107 : ∀ x g o v gz, S 107 x g o v gz → sn107 x g o v gz) (hS109 : ∀ x g o v gz, S 109 x g o v gz → sn109 x g o v gz) (hS114 : ∀ x g o v gz, S 114 x g o v gz → sn114 x g o v gz) (hS115 : ∀ x g o v gz, S 115 x g o v gz → sn115 x g o v gz) (hS116 : ∀ x g o v gz, S 116 x g o v gz → sn116 x g o v gz) (hS135 : ∀ x g o v gz, S 135 x g o v gz → sn135 x g o v gz) (hS139 : ∀ x g o v gz, S 139 x g o v gz → sn139 x g o v gz) (hS145 : ∀ x g o v gz, S 145 x g o v gz → sn145 x g o v gz) (hS154 : ∀ x g o v gz, S 154 x g o v gz → sn154 x g o v gz) (hS155 : ∀ x g o v gz, S 155 x g o v gz → sn155 x g o v gz) (hS156 : ∀ x g o v gz, S 156 x g o v gz → sn156 x g o v gz) {a : List Int} {g : rHp} : ∀ (ρ : Nat → Int) (γ : Nat → rHp), zO 22 S a g q157_9 ρ γ → zGl (fun _ _ _ => True) (sn157 a g) q157_9 ρ γ := by
  intro ρ γ h
  obtain ⟨ha, hg, hr, hf, hm, hc, hl⟩ := h
  have ha : a = [ρ 0, ρ 1, ρ 2, ρ 3, ρ 4, ρ 5, ρ 6, ρ 7, ρ 8, ρ 9, ρ 10, ρ 11, ρ 12, ρ 13, ρ 14, ρ 15, ρ 16, ρ 17, ρ 18, ρ 19, ρ 20, ρ 21] := ha
  subst ha
  subst hg
  obtain ⟨r0, r1, r2, r3, r4, r5, r6, r7, r8, r9, r10, r11, r12, r13, r14, r15, r16, r17, r18, r19, r20, r21, r22, r23, r24, r25, r26, r27, r28, r29, r30, r31, r32, -⟩ := hr
  have r0 : (0 : Int) ≤ ρ 0 ∧ ρ 0 ≤ 60 := r0
  have r1 : (0 : Int) ≤ ρ 1 ∧ ρ 1 ≤ 60 := r1
  have r2 : (0 : Int) ≤ ρ 2 ∧ ρ 2 ≤ 7 := r2
  have r3 : (0 : Int) ≤ ρ 3 ∧ ρ 3 ≤ 2000 := r3
  have r4 : (0 : Int) ≤ ρ 4 ∧ ρ 4 ≤ 2000 := r4
  have r5 : (0 : Int) ≤ ρ 5 ∧ ρ 5 ≤ 8 := r5
  have r6 : ((-1) : Int) ≤ ρ 6 ∧ ρ 6 ≤ 7 := r6
  have r7 : ((-1) : Int) ≤ ρ 7 ∧ ρ 7 ≤ 19 := r7
  have r8 : (0 : Int) ≤ ρ 8 ∧ ρ 8 ≤ 2 := r8
  have r9 : ((-1) : Int) ≤ ρ 9 ∧ ρ 9 ≤ 19 := r9
  have r10 : (0 : Int) ≤ ρ 10 ∧ ρ 10 ≤ 4 := r10
  have r11 : (0 : Int) ≤ ρ 11 ∧ ρ 11 ≤ 20 := r11
  have r12 : ((-2147483648) : Int) ≤ ρ 12 ∧ ρ 12 ≤ 2147483647 := r12
  have r13 : ((-2147483648) : Int) ≤ ρ 13 ∧ ρ 13 ≤ 2147483647 := r13
  have r14 : ((-2147483648) : Int) ≤ ρ 14 ∧ ρ 14 ≤ 2147483647 := r14
  have r15 : (0 : Int) ≤ ρ 15 ∧ ρ 15 ≤ 8 := r15
  have r16 : (0 : Int) ≤ ρ 16 ∧ ρ 16 ≤ 32 := r16
  have r17 : (0 : Int) ≤ ρ 17 ∧ ρ 17 ≤ 5120 := r17
  have r18 : (0 : Int) ≤ ρ 18 ∧ ρ 18 ≤ 4 := r18
  have r19 : ((-2147483648) : Int) ≤ ρ 19 ∧ ρ 19 ≤ 2147483647 := r19
  have r20 : ((-1) : Int) ≤ ρ 20 ∧ ρ 20 ≤ 3 := r20
  have r21 : (0 : Int) ≤ ρ 21 ∧ ρ 21 ≤ 4 := r21
  have r22 : (48 : Int) ≤ ρ 22 ∧ ρ 22 ≤ 57 := r22
  have r23 : (0 : Int) ≤ ρ 23 ∧ ρ 23 ≤ 2000 := r23
  have r24 : (1 : Int) ≤ ρ 24 ∧ ρ 24 ≤ 2000 := r24
  have r25 : ((-9223372036854775808) : Int) ≤ ρ 25 ∧ ρ 25 ≤ 9223372036854775807 := r25
  have r26 : (1 : Int) ≤ ρ 26 ∧ ρ 26 ≤ 1 := r26
  have r27 : (1 : Int) ≤ ρ 27 ∧ ρ 27 ≤ 2000 := r27
  have r28 : (3 : Int) ≤ ρ 28 ∧ ρ 28 ≤ 5 := r28
  have r29 : (1 : Int) ≤ ρ 29 ∧ ρ 29 ≤ 2000 := r29
  have r30 : (1 : Int) ≤ ρ 30 ∧ ρ 30 ≤ 4 := r30
  have r31 : ((-2147483648) : Int) ≤ ρ 31 ∧ ρ 31 ≤ 2147483647 := r31
  have r32 : (0 : Int) ≤ ρ 32 ∧ ρ 32 ≤ 5120 := r32
  obtain ⟨f0, f1, f2, f3, f4, f5, f6, f7, f8, f9, f10, -⟩ := hf
  have f0 : (0 : Int) ≤ ρ 29 + -ρ 27 + (-1) := f0
  have f1 : (0 : Int) ≤ ρ 32 + -ρ 17 := f1
  have f2 : (0 : Int) ≤ -ρ 27 + ρ 4 + (-1) := f2
  have f3 : (0 : Int) ≤ -ρ 30 + ρ 26 + 1 := f3
  have f4 : (0 : Int) ≤ ρ 27 + -ρ 24 + (-1) := f4
  have f5 : (0 : Int) ≤ -ρ 27 + ρ 4 := f5
  have f6 : (0 : Int) ≤ -ρ 24 + ρ 4 + (-1) := f6
  have f7 : (0 : Int) ≤ ρ 24 + -ρ 23 + (-1) := f7
  have f8 : (0 : Int) ≤ ρ 23 + -ρ 3 := f8
  have f9 : (0 : Int) ≤ -ρ 23 + ρ 4 + (-1) := f9
  have f10 : (0 : Int) ≤ ρ 4 + -ρ 3 + (-1) := f10
  obtain ⟨m0, m1, m2, m3, m4, m5, m6, m7, m8, m9, m10, m11, m12, m13, m14, m15, m16, m17, m18, m19, m20, m21, m22, m23, m24, m25, m26, m27, m28, m29, m30, m31, m32, m33, m34, m35, m36, m37, m38, m39, m40, m41, m42, -⟩ := hm
  have m0 : γ 0 1 0 10 = ρ 0 := m0
  have m1 : γ 0 40 0 (ρ 0) = ρ 1 := m1
  have m2 : γ 0 9 (ρ 1) 2 = ρ 2 := m2
  have m3 : γ 0 2 0 6 = ρ 3 := m3
  have m4 : γ 0 2 0 3 = ρ 4 := m4
  have m5 : γ 0 10 (ρ 2 + 9 * ρ 1 + 1) 4 = ρ 5 := m5
  have m6 : γ 0 10 (ρ 2 + 9 * ρ 1 + 1) 11 = ρ 6 := m6
  have m7 : γ 0 10 (ρ 2 + 9 * ρ 1 + 1) 8 = ρ 7 := m7
  have m8 : γ 0 2 0 7 = ρ 8 := m8
  have m9 : γ 0 10 (9 * ρ 1) 8 = ρ 9 := m9
  have m10 : γ 0 10 (9 * ρ 1) 12 = ρ 10 := m10
  have m11 : γ 0 1 0 7 = ρ 11 := m11
  have m12 : γ 0 2 0 4 = ρ 12 := m12
  have m13 : γ 0 2 0 5 = ρ 13 := m13
  have m14 : γ 0 2 0 9 = ρ 14 := m14
  have m15 : γ 0 2 0 13 = ρ 15 := m15
  have m16 : γ 0 2 0 16 = ρ 16 := m16
  have m17 : γ 0 3 0 1 = ρ 17 := m17
  have m18 : γ 0 10 (ρ 2 + 9 * ρ 1 + 1) 5 = ρ 18 := m18
  have m19 : γ 0 10 (ρ 2 + 9 * ρ 1 + 1) 7 = ρ 19 := m19
  have m20 : γ 0 10 (ρ 2 + 9 * ρ 1 + 1) 9 = ρ 20 := m20
  have m21 : γ 0 10 (ρ 2 + 9 * ρ 1 + 1) 12 = ρ 21 := m21
  have m22 : γ 1 2 0 6 = ρ 23 := m22
  have m23 : γ 5 2 0 6 = ρ 24 := m23
  have m24 : γ 5 2 0 4 = ρ 12 := m24
  have m25 : γ 6 10 (9 * ρ 1) 8 = ρ 9 := m25
  have m26 : γ 6 10 (9 * ρ 1) 12 = ρ 10 := m26
  have m27 : γ 6 10 (ρ 2 + 9 * ρ 1 + 1) 4 = 4 := m27
  have m28 : γ 6 10 (ρ 2 + 9 * ρ 1 + 1) 5 = 0 := m28
  have m29 : γ 6 10 (ρ 2 + 9 * ρ 1 + 1) 7 = ρ 23 := m29
  have m30 : γ 6 10 (ρ 2 + 9 * ρ 1 + 1) 8 = (-1) := m30
  have m31 : γ 6 10 (ρ 2 + 9 * ρ 1 + 1) 9 = (-1) := m31
  have m32 : γ 6 10 (ρ 2 + 9 * ρ 1 + 1) 12 = 0 := m32
  have m33 : γ 5 2 0 10 = ρ 25 := m33
  have m34 : γ 7 10 (ρ 2 + 9 * ρ 1 + 1) 5 = ρ 26 := m34
  have m35 : γ 8 2 0 6 = ρ 27 := m35
  have m36 : γ 8 10 (ρ 2 + 9 * ρ 1 + 1) 4 = ρ 28 := m36
  have m37 : γ 8 2 0 4 = ρ 12 := m37
  have m38 : γ 9 2 0 6 = ρ 29 := m38
  have m39 : γ 9 10 (ρ 2 + 9 * ρ 1 + 1) 5 = ρ 30 := m39
  have m40 : γ 9 2 0 4 = ρ 12 := m40
  have m41 : γ 9 2 0 9 = ρ 31 := m41
  have m42 : γ 9 3 0 1 = ρ 32 := m42
  obtain ⟨⟨⟨⟨⟨⟨⟨⟨⟨-, c1⟩, c2⟩, c3⟩, c4⟩, c5⟩, c6⟩, c7⟩, c8⟩, c9⟩ := hc
  have c1 : ∀ (G : Nat) (k j : Int), ¬ rMdP m77_ G j → γ 1 G k j = γ 0 G k j := c1
  have c2 : ∀ (G : Nat) (k j : Int), ¬ rMdP m0_ G j → γ 2 G k j = γ 1 G k j := c2
  have c3 : ∀ (G : Nat) (k j : Int), ¬ rMdP m0_ G j → γ 3 G k j = γ 2 G k j := c3
  have c4 : ∀ (G : Nat) (k j : Int), ¬ rMdP m0_ G j → γ 4 G k j = γ 3 G k j := c4
  have c5 : ∀ (G : Nat) (k j : Int), ¬ rMdP m80_ G j → γ 5 G k j = γ 4 G k j := c5
  have c6 : ∀ (G : Nat) (k j : Int), ¬ rMdP m70_ G j → γ 6 G k j = γ 5 G k j := c6
  have c7 : ∀ (G : Nat) (k j : Int), ¬ rMdP m71_ G j → γ 7 G k j = γ 6 G k j := c7
  have c8 : ∀ (G : Nat) (k j : Int), ¬ rMdP m103_ G j → γ 8 G k j = γ 7 G k j := c8
  have c9 : ∀ (G : Nat) (k j : Int), ¬ rMdP m92_ G j → γ 9 G k j = γ 8 G k j := c9
  obtain ⟨l0, l1, l2, l3, l4, l5, l6, l7, l8, l9, -⟩ := hl
  have l0 : sn114 [ρ 3, ρ 4] (γ 0) 0 (ρ 22) (γ 1) := hS114 _ _ _ _ _ l0
  have l1 : ρ 22 ≠ 33 := l1
  have l2 : sn106 [ρ 22] (γ 1) 0 0 (γ 2) := hS106 _ _ _ _ _ l2
  have l3 : sn105 [ρ 22] (γ 2) 0 0 (γ 3) := hS105 _ _ _ _ _ l3
  have l4 : sn107 [ρ 22] (γ 3) 0 1 (γ 4) := hS107 _ _ _ _ _ l4
  have l5 : sn116 [ρ 23, ρ 4, ρ 12] (γ 4) 0 1 (γ 5) := hS116 _ _ _ _ _ l5
  have l6 : sn103 [4, 0, ρ 23, ρ 0, ρ 1, ρ 2, ρ 9, ρ 10, ρ 5, ρ 18, ρ 19, ρ 7, ρ 20, ρ 21] (γ 5) 0 0 (γ 6) := hS103 _ _ _ _ _ l6
  have l7 : sn104 [ρ 2 + 9 * ρ 1 + 1, 0, ρ 23, 0, ρ 25, 0] (γ 6) 0 0 (γ 7) := hS104 _ _ _ _ _ l7
  have l8 : sn154 [ρ 0, ρ 1, ρ 2, ρ 24, ρ 4, 4, ρ 9, ρ 10, ρ 12] (γ 7) 0 1 (γ 8) := hS154 _ _ _ _ _ l8
  have l9 : sn139 [ρ 2 + 9 * ρ 1 + 1, ρ 27, ρ 4, ρ 26, ρ 12, ρ 13, ρ 14, ρ 15, ρ 17] (γ 8) 0 1 (γ 9) := hS139 _ _ _ _ _ l9
  show sn157 [ρ 0, ρ 1, ρ 2, ρ 3, ρ 4, ρ 5, ρ 6, ρ 7, ρ 8, ρ 9, ρ 10, ρ 11, ρ 12, ρ 13, ρ 14, ρ 15, ρ 16, ρ 17, ρ 18, ρ 19, ρ 20, ρ 21] (γ 0) 0 1 (γ 9)
  refine Eq.symm ?_
  show fn157 [] (γ 0) = _
  unfold fn157
  refine (zLet_eq m0).trans ?_
  refine (zLet_eq m1).trans ?_
  refine (zLet_eq m2).trans ?_
  refine (zLet_eq (show fn114 [] (γ 0) = (0, ρ 22, γ 1) from l0.symm)).trans ?_
  refine (zLet_eq (show _ = γ 1 from rfl)).trans ?_
  refine (if_pos (show (0 : Int) ≤ ρ 22 by omega)).trans ?_
  refine (zLet_eq (show _ = ρ 22 from rfl)).trans ?_
  refine (zLet_eq m22).trans ?_
  refine (if_pos (show ρ 22 ≠ 33 by omega)).trans ?_
  refine (zLet_eq (show fn106 [ρ 22] (γ 1) = (0, 0, γ 2) from l2.symm)).trans ?_
  refine (zLet_eq (show _ = γ 2 from rfl)).trans ?_
  refine (if_neg (show ¬ ((1 : Int) ≤ 0) by omega)).trans ?_
  refine (zLet_eq (show fn105 [ρ 22] (γ 2) = (0, 0, γ 3) from l3.symm)).trans ?_
  refine (zLet_eq (show _ = γ 3 from rfl)).trans ?_
  refine (if_neg (show ¬ ((1 : Int) ≤ 0) by omega)).trans ?_
  refine (zLet_eq (show fn107 [ρ 22] (γ 3) = (0, 1, γ 4) from l4.symm)).trans ?_
  refine (zLet_eq (show _ = γ 4 from rfl)).trans ?_
  refine (if_pos (show (1 : Int) ≤ 1 by omega)).trans ?_
  refine (zLet_eq (show fn116 [] (γ 4) = (0, 1, γ 5) from l5.symm)).trans ?_
  refine (zLet_eq (show _ = γ 5 from rfl)).trans ?_
  refine (if_pos (show (1 : Int) ≤ 1 by omega)).trans ?_
  refine (zLet_eq (show fn103 [4, 0, ρ 23] (γ 5) = (0, 0, γ 6) from l6.symm)).trans ?_
  refine (zLet_eq (show _ = γ 6 from rfl)).trans ?_
  refine (zLet_eq m33).trans ?_
  refine (zLet_eq (show fn104 [ρ 2 + 9 * ρ 1 + 1, 0, ρ 23, 0, ρ 25] (γ 6) = (0, 0, γ 7) from l7.symm)).trans ?_
  refine (zLet_eq (show _ = γ 7 from rfl)).trans ?_
  refine (zLet_eq (show fn154 [] (γ 7) = (0, 1, γ 8) from l8.symm)).trans ?_
  refine (zLet_eq (show _ = γ 8 from rfl)).trans ?_
  refine (if_pos (show (1 : Int) ≤ 1 by omega)).trans ?_
  refine (zLet_eq (show fn139 [ρ 2 + 9 * ρ 1 + 1] (γ 8) = (0, 1, γ 9) from l9.symm)).trans ?_
  refine (zLet_eq (show _ = γ 9 from rfl)).trans ?_
  refine (if_pos (show (1 : Int) ≤ 1 by omega)).trans ?_
  rfl
theorem vn157_10 {S : Nat → zSpc} (hS103 : ∀ x g o v gz, S 103 x g o v gz → sn103 x g o v gz) (hS104 : ∀ x g o v gz, S 104 x g o v gz → sn104 x g o v gz) (hS105 : ∀ x g o v gz, S 105 x g o v gz → sn105 x g o v gz) (hS106 : ∀ x g o v gz, S 106 x g o v gz → sn106 x g o v gz) (hS107 : ∀ x g o v gz, S 107 x g o v gz → sn107 x g o v gz) (hS109 : ∀ x g o v gz, S 109 x g o v gz → sn109 x g o v gz) (hS114 : ∀ x g o v gz, S 114 x g o v gz → sn114 x g o v gz) (hS115 : ∀ x g o v gz, S 115 x g o v gz → sn115 x g o v gz) (hS116 : ∀ x g o v gz, S 116 x g o v gz → sn116 x g o v gz) (hS135 : ∀ x g o v gz, S 135 x g o v gz → sn135 x g o v gz) (hS139 : ∀ x g o v gz, S 139 x g o v gz → sn139 x g o v gz) (hS145 : ∀ x g o v gz, S 145 x g o v gz → sn145 x g o v gz) (hS154 : ∀ x g o v gz, S 154 x g o v gz → sn154 x g o v gz) (hS155 : ∀ x g o v gz, S 155 x g o v gz → sn155 x g o v gz) (hS156 : ∀ x g o v gz, S 156 x g o v gz → sn156 x g o v gz) {a : List Int} {g : rHp} : ∀ (ρ : Nat → Int) (γ : Nat → rHp), zO 22 S a g q157_10 ρ γ → zGl (fun _ _ _ => True) (sn157 a g) q157_10 ρ γ := by
  intro ρ γ h
  obtain ⟨ha, hg, hr, hf, hm, hc, hl⟩ := h
  have ha : a = [ρ 0, ρ 1, ρ 2, ρ 3, ρ 4, ρ 5, ρ 6, ρ 7, ρ 8, ρ 9, ρ 10, ρ 11, ρ 12, ρ 13, ρ 14, ρ 15, ρ 16, ρ 17, ρ 18, ρ 19, ρ 20, ρ 21] := ha
  subst ha
  subst hg
  obtain ⟨r0, r1, r2, r3, r4, r5, r6, r7, r8, r9, r10, r11, r12, r13, r14, r15, r16, r17, r18, r19, r20, r21, r22, r23, r24, -⟩ := hr
  have r0 : (0 : Int) ≤ ρ 0 ∧ ρ 0 ≤ 60 := r0
  have r1 : (0 : Int) ≤ ρ 1 ∧ ρ 1 ≤ 60 := r1
  have r2 : (0 : Int) ≤ ρ 2 ∧ ρ 2 ≤ 7 := r2
  have r3 : (0 : Int) ≤ ρ 3 ∧ ρ 3 ≤ 2000 := r3
  have r4 : (0 : Int) ≤ ρ 4 ∧ ρ 4 ≤ 2000 := r4
  have r5 : (0 : Int) ≤ ρ 5 ∧ ρ 5 ≤ 8 := r5
  have r6 : ((-1) : Int) ≤ ρ 6 ∧ ρ 6 ≤ 7 := r6
  have r7 : ((-1) : Int) ≤ ρ 7 ∧ ρ 7 ≤ 19 := r7
  have r8 : (0 : Int) ≤ ρ 8 ∧ ρ 8 ≤ 2 := r8
  have r9 : ((-1) : Int) ≤ ρ 9 ∧ ρ 9 ≤ 19 := r9
  have r10 : (0 : Int) ≤ ρ 10 ∧ ρ 10 ≤ 4 := r10
  have r11 : (0 : Int) ≤ ρ 11 ∧ ρ 11 ≤ 20 := r11
  have r12 : ((-2147483648) : Int) ≤ ρ 12 ∧ ρ 12 ≤ 2147483647 := r12
  have r13 : ((-2147483648) : Int) ≤ ρ 13 ∧ ρ 13 ≤ 2147483647 := r13
  have r14 : ((-2147483648) : Int) ≤ ρ 14 ∧ ρ 14 ≤ 2147483647 := r14
  have r15 : (0 : Int) ≤ ρ 15 ∧ ρ 15 ≤ 8 := r15
  have r16 : (0 : Int) ≤ ρ 16 ∧ ρ 16 ≤ 32 := r16
  have r17 : (0 : Int) ≤ ρ 17 ∧ ρ 17 ≤ 5120 := r17
  have r18 : (0 : Int) ≤ ρ 18 ∧ ρ 18 ≤ 4 := r18
  have r19 : ((-2147483648) : Int) ≤ ρ 19 ∧ ρ 19 ≤ 2147483647 := r19
  have r20 : ((-1) : Int) ≤ ρ 20 ∧ ρ 20 ≤ 3 := r20
  have r21 : (0 : Int) ≤ ρ 21 ∧ ρ 21 ≤ 4 := r21
  have r22 : (97 : Int) ≤ ρ 22 ∧ ρ 22 ≤ 122 := r22
  have r23 : (0 : Int) ≤ ρ 23 ∧ ρ 23 ≤ 1999 := r23
  have r24 : (13 : Int) ≤ ρ 24 ∧ ρ 24 ≤ 2000 := r24
  obtain ⟨f0, f1, f2, f3, f4, -⟩ := hf
  have f0 : (0 : Int) ≤ -ρ 23 + ρ 4 + (-1) := f0
  have f1 : (0 : Int) ≤ ρ 24 + -ρ 23 + (-1) := f1
  have f2 : (0 : Int) ≤ -ρ 24 + ρ 4 := f2
  have f3 : (0 : Int) ≤ ρ 23 + -ρ 3 := f3
  have f4 : (0 : Int) ≤ ρ 4 + -ρ 3 + (-1) := f4
  obtain ⟨m0, m1, m2, m3, m4, m5, m6, m7, m8, m9, m10, m11, m12, m13, m14, m15, m16, m17, m18, m19, m20, m21, m22, m23, m24, m25, -⟩ := hm
  have m0 : γ 0 1 0 10 = ρ 0 := m0
  have m1 : γ 0 40 0 (ρ 0) = ρ 1 := m1
  have m2 : γ 0 9 (ρ 1) 2 = ρ 2 := m2
  have m3 : γ 0 2 0 6 = ρ 3 := m3
  have m4 : γ 0 2 0 3 = ρ 4 := m4
  have m5 : γ 0 10 (ρ 2 + 9 * ρ 1 + 1) 4 = ρ 5 := m5
  have m6 : γ 0 10 (ρ 2 + 9 * ρ 1 + 1) 11 = ρ 6 := m6
  have m7 : γ 0 10 (ρ 2 + 9 * ρ 1 + 1) 8 = ρ 7 := m7
  have m8 : γ 0 2 0 7 = ρ 8 := m8
  have m9 : γ 0 10 (9 * ρ 1) 8 = ρ 9 := m9
  have m10 : γ 0 10 (9 * ρ 1) 12 = ρ 10 := m10
  have m11 : γ 0 1 0 7 = ρ 11 := m11
  have m12 : γ 0 2 0 4 = ρ 12 := m12
  have m13 : γ 0 2 0 5 = ρ 13 := m13
  have m14 : γ 0 2 0 9 = ρ 14 := m14
  have m15 : γ 0 2 0 13 = ρ 15 := m15
  have m16 : γ 0 2 0 16 = ρ 16 := m16
  have m17 : γ 0 3 0 1 = ρ 17 := m17
  have m18 : γ 0 10 (ρ 2 + 9 * ρ 1 + 1) 5 = ρ 18 := m18
  have m19 : γ 0 10 (ρ 2 + 9 * ρ 1 + 1) 7 = ρ 19 := m19
  have m20 : γ 0 10 (ρ 2 + 9 * ρ 1 + 1) 9 = ρ 20 := m20
  have m21 : γ 0 10 (ρ 2 + 9 * ρ 1 + 1) 12 = ρ 21 := m21
  have m22 : γ 1 2 0 6 = ρ 23 := m22
  have m23 : γ 4 2 0 6 = ρ 24 := m23
  have m24 : γ 4 2 0 4 = ρ 23 := m24
  have m25 : γ 4 2 0 9 = ρ 23 := m25
  obtain ⟨⟨⟨⟨-, c1⟩, c2⟩, c3⟩, c4⟩ := hc
  have c1 : ∀ (G : Nat) (k j : Int), ¬ rMdP m77_ G j → γ 1 G k j = γ 0 G k j := c1
  have c2 : ∀ (G : Nat) (k j : Int), ¬ rMdP m0_ G j → γ 2 G k j = γ 1 G k j := c2
  have c3 : ∀ (G : Nat) (k j : Int), ¬ rMdP m0_ G j → γ 3 G k j = γ 2 G k j := c3
  have c4 : ∀ (G : Nat) (k j : Int), ¬ rMdP m78_ G j → γ 4 G k j = γ 3 G k j := c4
  obtain ⟨l0, l1, l2, l3, l4, -⟩ := hl
  have l0 : sn114 [ρ 3, ρ 4] (γ 0) 0 (ρ 22) (γ 1) := hS114 _ _ _ _ _ l0
  have l1 : ρ 22 ≠ 33 := l1
  have l2 : sn106 [ρ 22] (γ 1) 0 0 (γ 2) := hS106 _ _ _ _ _ l2
  have l3 : sn105 [ρ 22] (γ 2) 0 1 (γ 3) := hS105 _ _ _ _ _ l3
  have l4 : sn115 [ρ 23, ρ 4, ρ 12, ρ 14] (γ 3) 0 0 (γ 4) := hS115 _ _ _ _ _ l4
  show sn157 [ρ 0, ρ 1, ρ 2, ρ 3, ρ 4, ρ 5, ρ 6, ρ 7, ρ 8, ρ 9, ρ 10, ρ 11, ρ 12, ρ 13, ρ 14, ρ 15, ρ 16, ρ 17, ρ 18, ρ 19, ρ 20, ρ 21] (γ 0) 0 0 (γ 4)
  refine Eq.symm ?_
  show fn157 [] (γ 0) = _
  unfold fn157
  refine (zLet_eq m0).trans ?_
  refine (zLet_eq m1).trans ?_
  refine (zLet_eq m2).trans ?_
  refine (zLet_eq (show fn114 [] (γ 0) = (0, ρ 22, γ 1) from l0.symm)).trans ?_
  refine (zLet_eq (show _ = γ 1 from rfl)).trans ?_
  refine (if_pos (show (0 : Int) ≤ ρ 22 by omega)).trans ?_
  refine (zLet_eq (show _ = ρ 22 from rfl)).trans ?_
  refine (zLet_eq m22).trans ?_
  refine (if_pos (show ρ 22 ≠ 33 by omega)).trans ?_
  refine (zLet_eq (show fn106 [ρ 22] (γ 1) = (0, 0, γ 2) from l2.symm)).trans ?_
  refine (zLet_eq (show _ = γ 2 from rfl)).trans ?_
  refine (if_neg (show ¬ ((1 : Int) ≤ 0) by omega)).trans ?_
  refine (zLet_eq (show fn105 [ρ 22] (γ 2) = (0, 1, γ 3) from l3.symm)).trans ?_
  refine (zLet_eq (show _ = γ 3 from rfl)).trans ?_
  refine (if_pos (show (1 : Int) ≤ 1 by omega)).trans ?_
  refine (zLet_eq (show fn115 [] (γ 3) = (0, 0, γ 4) from l4.symm)).trans ?_
  refine (zLet_eq (show _ = γ 4 from rfl)).trans ?_
  refine (if_neg (show ¬ ((1 : Int) ≤ 0) by omega)).trans ?_
  rfl
theorem vn157_11 {S : Nat → zSpc} (hS103 : ∀ x g o v gz, S 103 x g o v gz → sn103 x g o v gz) (hS104 : ∀ x g o v gz, S 104 x g o v gz → sn104 x g o v gz) (hS105 : ∀ x g o v gz, S 105 x g o v gz → sn105 x g o v gz) (hS106 : ∀ x g o v gz, S 106 x g o v gz → sn106 x g o v gz) (hS107 : ∀ x g o v gz, S 107 x g o v gz → sn107 x g o v gz) (hS109 : ∀ x g o v gz, S 109 x g o v gz → sn109 x g o v gz) (hS114 : ∀ x g o v gz, S 114 x g o v gz → sn114 x g o v gz) (hS115 : ∀ x g o v gz, S 115 x g o v gz → sn115 x g o v gz) (hS116 : ∀ x g o v gz, S 116 x g o v gz → sn116 x g o v gz) (hS135 : ∀ x g o v gz, S 135 x g o v gz → sn135 x g o v gz) (hS139 : ∀ x g o v gz, S 139 x g o v gz → sn139 x g o v gz) (hS145 : ∀ x g o v gz, S 145 x g o v gz → sn145 x g o v gz) (hS154 : ∀ x g o v gz, S 154 x g o v gz → sn154 x g o v gz) (hS155 : ∀ x g o v gz, S 155 x g o v gz → sn155 x g o v gz) (hS156 : ∀ x g o v gz, S 156 x g o v gz → sn156 x g o v gz) {a : List Int} {g : rHp} : ∀ (ρ : Nat → Int) (γ : Nat → rHp), zO 22 S a g q157_11 ρ γ → zGl (fun _ _ _ => True) (sn157 a g) q157_11 ρ γ := by
  intro ρ γ h
  obtain ⟨ha, hg, hr, hf, hm, hc, hl⟩ := h
  have ha : a = [ρ 0, ρ 1, ρ 2, ρ 3, ρ 4, ρ 5, ρ 6, ρ 7, ρ 8, ρ 9, ρ 10, ρ 11, ρ 12, ρ 13, ρ 14, ρ 15, ρ 16, ρ 17, ρ 18, ρ 19, ρ 20, ρ 21] := ha
  subst ha
  subst hg
  obtain ⟨r0, r1, r2, r3, r4, r5, r6, r7, r8, r9, r10, r11, r12, r13, r14, r15, r16, r17, r18, r19, r20, r21, r22, r23, r24, r25, r26, r27, r28, -⟩ := hr
  have r0 : (0 : Int) ≤ ρ 0 ∧ ρ 0 ≤ 60 := r0
  have r1 : (0 : Int) ≤ ρ 1 ∧ ρ 1 ≤ 60 := r1
  have r2 : (0 : Int) ≤ ρ 2 ∧ ρ 2 ≤ 7 := r2
  have r3 : (0 : Int) ≤ ρ 3 ∧ ρ 3 ≤ 2000 := r3
  have r4 : (0 : Int) ≤ ρ 4 ∧ ρ 4 ≤ 2000 := r4
  have r5 : (0 : Int) ≤ ρ 5 ∧ ρ 5 ≤ 8 := r5
  have r6 : ((-1) : Int) ≤ ρ 6 ∧ ρ 6 ≤ 7 := r6
  have r7 : ((-1) : Int) ≤ ρ 7 ∧ ρ 7 ≤ 19 := r7
  have r8 : (0 : Int) ≤ ρ 8 ∧ ρ 8 ≤ 2 := r8
  have r9 : ((-1) : Int) ≤ ρ 9 ∧ ρ 9 ≤ 19 := r9
  have r10 : (0 : Int) ≤ ρ 10 ∧ ρ 10 ≤ 4 := r10
  have r11 : (0 : Int) ≤ ρ 11 ∧ ρ 11 ≤ 20 := r11
  have r12 : ((-2147483648) : Int) ≤ ρ 12 ∧ ρ 12 ≤ 2147483647 := r12
  have r13 : ((-2147483648) : Int) ≤ ρ 13 ∧ ρ 13 ≤ 2147483647 := r13
  have r14 : ((-2147483648) : Int) ≤ ρ 14 ∧ ρ 14 ≤ 2147483647 := r14
  have r15 : (0 : Int) ≤ ρ 15 ∧ ρ 15 ≤ 8 := r15
  have r16 : (0 : Int) ≤ ρ 16 ∧ ρ 16 ≤ 32 := r16
  have r17 : (0 : Int) ≤ ρ 17 ∧ ρ 17 ≤ 5120 := r17
  have r18 : (0 : Int) ≤ ρ 18 ∧ ρ 18 ≤ 4 := r18
  have r19 : ((-2147483648) : Int) ≤ ρ 19 ∧ ρ 19 ≤ 2147483647 := r19
  have r20 : ((-1) : Int) ≤ ρ 20 ∧ ρ 20 ≤ 3 := r20
  have r21 : (0 : Int) ≤ ρ 21 ∧ ρ 21 ≤ 4 := r21
  have r22 : (97 : Int) ≤ ρ 22 ∧ ρ 22 ≤ 122 := r22
  have r23 : (0 : Int) ≤ ρ 23 ∧ ρ 23 ≤ 1999 := r23
  have r24 : (1 : Int) ≤ ρ 24 ∧ ρ 24 ≤ 2000 := r24
  have r25 : (0 : Int) ≤ ρ 25 ∧ ρ 25 ≤ 2000 := r25
  have r26 : ((-9223372036854775808) : Int) ≤ ρ 26 ∧ ρ 26 ≤ 9223372036854775807 := r26
  have r27 : (1 : Int) ≤ ρ 27 ∧ ρ 27 ≤ 1 := r27
  have r28 : (1 : Int) ≤ ρ 28 ∧ ρ 28 ≤ 5120 := r28
  obtain ⟨f0, f1, f2, f3, f4, f5, f6, f7, -⟩ := hf
  have f0 : (0 : Int) ≤ ρ 28 + -ρ 17 := f0
  have f1 : (0 : Int) ≤ ρ 25 + -ρ 24 := f1
  have f2 : (0 : Int) ≤ ρ 25 + -ρ 4 := f2
  have f3 : (0 : Int) ≤ -ρ 23 + ρ 4 + (-1) := f3
  have f4 : (0 : Int) ≤ ρ 24 + -ρ 23 + (-1) := f4
  have f5 : (0 : Int) ≤ -ρ 24 + ρ 4 := f5
  have f6 : (0 : Int) ≤ ρ 23 + -ρ 3 := f6
  have f7 : (0 : Int) ≤ ρ 4 + -ρ 3 + (-1) := f7
  obtain ⟨m0, m1, m2, m3, m4, m5, m6, m7, m8, m9, m10, m11, m12, m13, m14, m15, m16, m17, m18, m19, m20, m21, m22, m23, m24, m25, m26, m27, m28, m29, m30, m31, m32, m33, m34, m35, m36, m37, m38, -⟩ := hm
  have m0 : γ 0 1 0 10 = ρ 0 := m0
  have m1 : γ 0 40 0 (ρ 0) = ρ 1 := m1
  have m2 : γ 0 9 (ρ 1) 2 = ρ 2 := m2
  have m3 : γ 0 2 0 6 = ρ 3 := m3
  have m4 : γ 0 2 0 3 = ρ 4 := m4
  have m5 : γ 0 10 (ρ 2 + 9 * ρ 1 + 1) 4 = ρ 5 := m5
  have m6 : γ 0 10 (ρ 2 + 9 * ρ 1 + 1) 11 = ρ 6 := m6
  have m7 : γ 0 10 (ρ 2 + 9 * ρ 1 + 1) 8 = ρ 7 := m7
  have m8 : γ 0 2 0 7 = ρ 8 := m8
  have m9 : γ 0 10 (9 * ρ 1) 8 = ρ 9 := m9
  have m10 : γ 0 10 (9 * ρ 1) 12 = ρ 10 := m10
  have m11 : γ 0 1 0 7 = ρ 11 := m11
  have m12 : γ 0 2 0 4 = ρ 12 := m12
  have m13 : γ 0 2 0 5 = ρ 13 := m13
  have m14 : γ 0 2 0 9 = ρ 14 := m14
  have m15 : γ 0 2 0 13 = ρ 15 := m15
  have m16 : γ 0 2 0 16 = ρ 16 := m16
  have m17 : γ 0 3 0 1 = ρ 17 := m17
  have m18 : γ 0 10 (ρ 2 + 9 * ρ 1 + 1) 5 = ρ 18 := m18
  have m19 : γ 0 10 (ρ 2 + 9 * ρ 1 + 1) 7 = ρ 19 := m19
  have m20 : γ 0 10 (ρ 2 + 9 * ρ 1 + 1) 9 = ρ 20 := m20
  have m21 : γ 0 10 (ρ 2 + 9 * ρ 1 + 1) 12 = ρ 21 := m21
  have m22 : γ 1 2 0 6 = ρ 23 := m22
  have m23 : γ 4 2 0 6 = ρ 24 := m23
  have m24 : γ 4 2 0 4 = ρ 12 := m24
  have m25 : γ 4 2 0 9 = ρ 23 := m25
  have m26 : γ 5 2 0 6 = ρ 25 := m26
  have m27 : γ 6 10 (9 * ρ 1) 8 = ρ 9 := m27
  have m28 : γ 6 10 (9 * ρ 1) 12 = ρ 10 := m28
  have m29 : γ 6 10 (ρ 2 + 9 * ρ 1 + 1) 4 = 4 := m29
  have m30 : γ 6 10 (ρ 2 + 9 * ρ 1 + 1) 5 = 0 := m30
  have m31 : γ 6 10 (ρ 2 + 9 * ρ 1 + 1) 7 = ρ 23 := m31
  have m32 : γ 6 10 (ρ 2 + 9 * ρ 1 + 1) 8 = (-1) := m32
  have m33 : γ 6 10 (ρ 2 + 9 * ρ 1 + 1) 9 = (-1) := m33
  have m34 : γ 6 10 (ρ 2 + 9 * ρ 1 + 1) 12 = 0 := m34
  have m35 : γ 4 2 0 8 = ρ 26 := m35
  have m36 : γ 7 10 (ρ 2 + 9 * ρ 1 + 1) 5 = ρ 27 := m36
  have m37 : γ 7 2 0 4 = ρ 23 := m37
  have m38 : γ 7 3 0 1 = ρ 28 := m38
  obtain ⟨⟨⟨⟨⟨⟨⟨-, c1⟩, c2⟩, c3⟩, c4⟩, c5⟩, c6⟩, c7⟩ := hc
  have c1 : ∀ (G : Nat) (k j : Int), ¬ rMdP m77_ G j → γ 1 G k j = γ 0 G k j := c1
  have c2 : ∀ (G : Nat) (k j : Int), ¬ rMdP m0_ G j → γ 2 G k j = γ 1 G k j := c2
  have c3 : ∀ (G : Nat) (k j : Int), ¬ rMdP m0_ G j → γ 3 G k j = γ 2 G k j := c3
  have c4 : ∀ (G : Nat) (k j : Int), ¬ rMdP m78_ G j → γ 4 G k j = γ 3 G k j := c4
  have c5 : ∀ (G : Nat) (k j : Int), ¬ rMdP m77_ G j → γ 5 G k j = γ 4 G k j := c5
  have c6 : ∀ (G : Nat) (k j : Int), ¬ rMdP m70_ G j → γ 6 G k j = γ 5 G k j := c6
  have c7 : ∀ (G : Nat) (k j : Int), ¬ rMdP m88_ G j → γ 7 G k j = γ 6 G k j := c7
  obtain ⟨l0, l1, l2, l3, l4, l5, l6, l7, -⟩ := hl
  have l0 : sn114 [ρ 3, ρ 4] (γ 0) 0 (ρ 22) (γ 1) := hS114 _ _ _ _ _ l0
  have l1 : ρ 22 ≠ 33 := l1
  have l2 : sn106 [ρ 22] (γ 1) 0 0 (γ 2) := hS106 _ _ _ _ _ l2
  have l3 : sn105 [ρ 22] (γ 2) 0 1 (γ 3) := hS105 _ _ _ _ _ l3
  have l4 : sn115 [ρ 23, ρ 4, ρ 12, ρ 14] (γ 3) 0 1 (γ 4) := hS115 _ _ _ _ _ l4
  have l5 : sn114 [ρ 24, ρ 4] (γ 4) 0 (-1) (γ 5) := hS114 _ _ _ _ _ l5
  have l6 : sn103 [4, 0, ρ 23, ρ 0, ρ 1, ρ 2, ρ 9, ρ 10, ρ 5, ρ 18, ρ 19, ρ 7, ρ 20, ρ 21] (γ 5) 0 0 (γ 6) := hS103 _ _ _ _ _ l6
  have l7 : sn135 [ρ 2 + 9 * ρ 1 + 1, ρ 26, ρ 23, ρ 25, ρ 4, 0, ρ 12, ρ 17] (γ 6) 0 0 (γ 7) := hS135 _ _ _ _ _ l7
  show sn157 [ρ 0, ρ 1, ρ 2, ρ 3, ρ 4, ρ 5, ρ 6, ρ 7, ρ 8, ρ 9, ρ 10, ρ 11, ρ 12, ρ 13, ρ 14, ρ 15, ρ 16, ρ 17, ρ 18, ρ 19, ρ 20, ρ 21] (γ 0) 0 0 (γ 7)
  refine Eq.symm ?_
  show fn157 [] (γ 0) = _
  unfold fn157
  refine (zLet_eq m0).trans ?_
  refine (zLet_eq m1).trans ?_
  refine (zLet_eq m2).trans ?_
  refine (zLet_eq (show fn114 [] (γ 0) = (0, ρ 22, γ 1) from l0.symm)).trans ?_
  refine (zLet_eq (show _ = γ 1 from rfl)).trans ?_
  refine (if_pos (show (0 : Int) ≤ ρ 22 by omega)).trans ?_
  refine (zLet_eq (show _ = ρ 22 from rfl)).trans ?_
  refine (zLet_eq m22).trans ?_
  refine (if_pos (show ρ 22 ≠ 33 by omega)).trans ?_
  refine (zLet_eq (show fn106 [ρ 22] (γ 1) = (0, 0, γ 2) from l2.symm)).trans ?_
  refine (zLet_eq (show _ = γ 2 from rfl)).trans ?_
  refine (if_neg (show ¬ ((1 : Int) ≤ 0) by omega)).trans ?_
  refine (zLet_eq (show fn105 [ρ 22] (γ 2) = (0, 1, γ 3) from l3.symm)).trans ?_
  refine (zLet_eq (show _ = γ 3 from rfl)).trans ?_
  refine (if_pos (show (1 : Int) ≤ 1 by omega)).trans ?_
  refine (zLet_eq (show fn115 [] (γ 3) = (0, 1, γ 4) from l4.symm)).trans ?_
  refine (zLet_eq (show _ = γ 4 from rfl)).trans ?_
  refine (if_pos (show (1 : Int) ≤ 1 by omega)).trans ?_
  refine (zLet_eq (show fn114 [] (γ 4) = (0, (-1), γ 5) from l5.symm)).trans ?_
  refine (zLet_eq (show _ = γ 5 from rfl)).trans ?_
  refine (if_neg (show ¬ ((0 : Int) ≤ (-1)) by omega)).trans ?_
  refine (zLet_eq (show fn103 [4, 0, ρ 23] (γ 5) = (0, 0, γ 6) from l6.symm)).trans ?_
  refine (zLet_eq (show _ = γ 6 from rfl)).trans ?_
  refine (zLet_eq m35).trans ?_
  refine (zLet_eq (show fn135 [ρ 2 + 9 * ρ 1 + 1, ρ 26, ρ 23] (γ 6) = (0, 0, γ 7) from l7.symm)).trans ?_
  refine (zLet_eq (show _ = γ 7 from rfl)).trans ?_
  refine (if_neg (show ¬ ((1 : Int) ≤ 0) by omega)).trans ?_
  rfl
theorem vn157_12 {S : Nat → zSpc} (hS103 : ∀ x g o v gz, S 103 x g o v gz → sn103 x g o v gz) (hS104 : ∀ x g o v gz, S 104 x g o v gz → sn104 x g o v gz) (hS105 : ∀ x g o v gz, S 105 x g o v gz → sn105 x g o v gz) (hS106 : ∀ x g o v gz, S 106 x g o v gz → sn106 x g o v gz) (hS107 : ∀ x g o v gz, S 107 x g o v gz → sn107 x g o v gz) (hS109 : ∀ x g o v gz, S 109 x g o v gz → sn109 x g o v gz) (hS114 : ∀ x g o v gz, S 114 x g o v gz → sn114 x g o v gz) (hS115 : ∀ x g o v gz, S 115 x g o v gz → sn115 x g o v gz) (hS116 : ∀ x g o v gz, S 116 x g o v gz → sn116 x g o v gz) (hS135 : ∀ x g o v gz, S 135 x g o v gz → sn135 x g o v gz) (hS139 : ∀ x g o v gz, S 139 x g o v gz → sn139 x g o v gz) (hS145 : ∀ x g o v gz, S 145 x g o v gz → sn145 x g o v gz) (hS154 : ∀ x g o v gz, S 154 x g o v gz → sn154 x g o v gz) (hS155 : ∀ x g o v gz, S 155 x g o v gz → sn155 x g o v gz) (hS156 : ∀ x g o v gz, S 156 x g o v gz → sn156 x g o v gz) {a : List Int} {g : rHp} : ∀ (ρ : Nat → Int) (γ : Nat → rHp), zO 22 S a g q157_12 ρ γ → zGl (fun _ _ _ => True) (sn157 a g) q157_12 ρ γ := by
  intro ρ γ h
  obtain ⟨ha, hg, hr, hf, hm, hc, hl⟩ := h
  have ha : a = [ρ 0, ρ 1, ρ 2, ρ 3, ρ 4, ρ 5, ρ 6, ρ 7, ρ 8, ρ 9, ρ 10, ρ 11, ρ 12, ρ 13, ρ 14, ρ 15, ρ 16, ρ 17, ρ 18, ρ 19, ρ 20, ρ 21] := ha
  subst ha
  subst hg
  obtain ⟨r0, r1, r2, r3, r4, r5, r6, r7, r8, r9, r10, r11, r12, r13, r14, r15, r16, r17, r18, r19, r20, r21, r22, r23, r24, r25, r26, r27, r28, r29, r30, -⟩ := hr
  have r0 : (0 : Int) ≤ ρ 0 ∧ ρ 0 ≤ 60 := r0
  have r1 : (0 : Int) ≤ ρ 1 ∧ ρ 1 ≤ 60 := r1
  have r2 : (0 : Int) ≤ ρ 2 ∧ ρ 2 ≤ 7 := r2
  have r3 : (0 : Int) ≤ ρ 3 ∧ ρ 3 ≤ 2000 := r3
  have r4 : (0 : Int) ≤ ρ 4 ∧ ρ 4 ≤ 2000 := r4
  have r5 : (0 : Int) ≤ ρ 5 ∧ ρ 5 ≤ 8 := r5
  have r6 : ((-1) : Int) ≤ ρ 6 ∧ ρ 6 ≤ 7 := r6
  have r7 : ((-1) : Int) ≤ ρ 7 ∧ ρ 7 ≤ 19 := r7
  have r8 : (0 : Int) ≤ ρ 8 ∧ ρ 8 ≤ 2 := r8
  have r9 : ((-1) : Int) ≤ ρ 9 ∧ ρ 9 ≤ 19 := r9
  have r10 : (0 : Int) ≤ ρ 10 ∧ ρ 10 ≤ 4 := r10
  have r11 : (0 : Int) ≤ ρ 11 ∧ ρ 11 ≤ 20 := r11
  have r12 : ((-2147483648) : Int) ≤ ρ 12 ∧ ρ 12 ≤ 2147483647 := r12
  have r13 : ((-2147483648) : Int) ≤ ρ 13 ∧ ρ 13 ≤ 2147483647 := r13
  have r14 : ((-2147483648) : Int) ≤ ρ 14 ∧ ρ 14 ≤ 2147483647 := r14
  have r15 : (0 : Int) ≤ ρ 15 ∧ ρ 15 ≤ 8 := r15
  have r16 : (0 : Int) ≤ ρ 16 ∧ ρ 16 ≤ 32 := r16
  have r17 : (0 : Int) ≤ ρ 17 ∧ ρ 17 ≤ 5120 := r17
  have r18 : (0 : Int) ≤ ρ 18 ∧ ρ 18 ≤ 4 := r18
  have r19 : ((-2147483648) : Int) ≤ ρ 19 ∧ ρ 19 ≤ 2147483647 := r19
  have r20 : ((-1) : Int) ≤ ρ 20 ∧ ρ 20 ≤ 3 := r20
  have r21 : (0 : Int) ≤ ρ 21 ∧ ρ 21 ≤ 4 := r21
  have r22 : (97 : Int) ≤ ρ 22 ∧ ρ 22 ≤ 122 := r22
  have r23 : (0 : Int) ≤ ρ 23 ∧ ρ 23 ≤ 1999 := r23
  have r24 : (1 : Int) ≤ ρ 24 ∧ ρ 24 ≤ 2000 := r24
  have r25 : (0 : Int) ≤ ρ 25 ∧ ρ 25 ≤ 2000 := r25
  have r26 : ((-9223372036854775808) : Int) ≤ ρ 26 ∧ ρ 26 ≤ 9223372036854775807 := r26
  have r27 : (1 : Int) ≤ ρ 27 ∧ ρ 27 ≤ 1 := r27
  have r28 : (1 : Int) ≤ ρ 28 ∧ ρ 28 ≤ 5120 := r28
  have r29 : (0 : Int) ≤ ρ 29 ∧ ρ 29 ≤ 2000 := r29
  have r30 : (0 : Int) ≤ ρ 30 ∧ ρ 30 ≤ 2000 := r30
  obtain ⟨f0, f1, f2, f3, f4, f5, f6, f7, f8, f9, f10, -⟩ := hf
  have f0 : (0 : Int) ≤ -ρ 30 + ρ 29 := f0
  have f1 : (0 : Int) ≤ ρ 29 + -ρ 25 := f1
  have f2 : (0 : Int) ≤ ρ 30 + -ρ 29 := f2
  have f3 : (0 : Int) ≤ ρ 28 + -ρ 17 := f3
  have f4 : (0 : Int) ≤ ρ 25 + -ρ 24 := f4
  have f5 : (0 : Int) ≤ ρ 25 + -ρ 4 := f5
  have f6 : (0 : Int) ≤ -ρ 23 + ρ 4 + (-1) := f6
  have f7 : (0 : Int) ≤ ρ 24 + -ρ 23 + (-1) := f7
  have f8 : (0 : Int) ≤ -ρ 24 + ρ 4 := f8
  have f9 : (0 : Int) ≤ ρ 23 + -ρ 3 := f9
  have f10 : (0 : Int) ≤ ρ 4 + -ρ 3 + (-1) := f10
  obtain ⟨m0, m1, m2, m3, m4, m5, m6, m7, m8, m9, m10, m11, m12, m13, m14, m15, m16, m17, m18, m19, m20, m21, m22, m23, m24, m25, m26, m27, m28, m29, m30, m31, m32, m33, m34, m35, m36, m37, m38, m39, m40, m41, -⟩ := hm
  have m0 : γ 0 1 0 10 = ρ 0 := m0
  have m1 : γ 0 40 0 (ρ 0) = ρ 1 := m1
  have m2 : γ 0 9 (ρ 1) 2 = ρ 2 := m2
  have m3 : γ 0 2 0 6 = ρ 3 := m3
  have m4 : γ 0 2 0 3 = ρ 4 := m4
  have m5 : γ 0 10 (ρ 2 + 9 * ρ 1 + 1) 4 = ρ 5 := m5
  have m6 : γ 0 10 (ρ 2 + 9 * ρ 1 + 1) 11 = ρ 6 := m6
  have m7 : γ 0 10 (ρ 2 + 9 * ρ 1 + 1) 8 = ρ 7 := m7
  have m8 : γ 0 2 0 7 = ρ 8 := m8
  have m9 : γ 0 10 (9 * ρ 1) 8 = ρ 9 := m9
  have m10 : γ 0 10 (9 * ρ 1) 12 = ρ 10 := m10
  have m11 : γ 0 1 0 7 = ρ 11 := m11
  have m12 : γ 0 2 0 4 = ρ 12 := m12
  have m13 : γ 0 2 0 5 = ρ 13 := m13
  have m14 : γ 0 2 0 9 = ρ 14 := m14
  have m15 : γ 0 2 0 13 = ρ 15 := m15
  have m16 : γ 0 2 0 16 = ρ 16 := m16
  have m17 : γ 0 3 0 1 = ρ 17 := m17
  have m18 : γ 0 10 (ρ 2 + 9 * ρ 1 + 1) 5 = ρ 18 := m18
  have m19 : γ 0 10 (ρ 2 + 9 * ρ 1 + 1) 7 = ρ 19 := m19
  have m20 : γ 0 10 (ρ 2 + 9 * ρ 1 + 1) 9 = ρ 20 := m20
  have m21 : γ 0 10 (ρ 2 + 9 * ρ 1 + 1) 12 = ρ 21 := m21
  have m22 : γ 1 2 0 6 = ρ 23 := m22
  have m23 : γ 4 2 0 6 = ρ 24 := m23
  have m24 : γ 4 2 0 4 = ρ 12 := m24
  have m25 : γ 4 2 0 9 = ρ 23 := m25
  have m26 : γ 5 2 0 6 = ρ 25 := m26
  have m27 : γ 6 10 (9 * ρ 1) 8 = ρ 9 := m27
  have m28 : γ 6 10 (9 * ρ 1) 12 = ρ 10 := m28
  have m29 : γ 6 10 (ρ 2 + 9 * ρ 1 + 1) 4 = 4 := m29
  have m30 : γ 6 10 (ρ 2 + 9 * ρ 1 + 1) 5 = 0 := m30
  have m31 : γ 6 10 (ρ 2 + 9 * ρ 1 + 1) 7 = ρ 23 := m31
  have m32 : γ 6 10 (ρ 2 + 9 * ρ 1 + 1) 8 = (-1) := m32
  have m33 : γ 6 10 (ρ 2 + 9 * ρ 1 + 1) 9 = (-1) := m33
  have m34 : γ 6 10 (ρ 2 + 9 * ρ 1 + 1) 12 = 0 := m34
  have m35 : γ 4 2 0 8 = ρ 26 := m35
  have m36 : γ 7 10 (ρ 2 + 9 * ρ 1 + 1) 5 = ρ 27 := m36
  have m37 : γ 7 2 0 4 = ρ 12 := m37
  have m38 : γ 7 3 0 1 = ρ 28 := m38
  have m39 : γ 8 2 0 6 = ρ 29 := m39
  have m40 : γ 8 10 (ρ 2 + 9 * ρ 1 + 1) 4 = 4 := m40
  have m41 : γ 8 2 0 4 = ρ 30 := m41
  obtain ⟨⟨⟨⟨⟨⟨⟨⟨-, c1⟩, c2⟩, c3⟩, c4⟩, c5⟩, c6⟩, c7⟩, c8⟩ := hc
  have c1 : ∀ (G : Nat) (k j : Int), ¬ rMdP m77_ G j → γ 1 G k j = γ 0 G k j := c1
  have c2 : ∀ (G : Nat) (k j : Int), ¬ rMdP m0_ G j → γ 2 G k j = γ 1 G k j := c2
  have c3 : ∀ (G : Nat) (k j : Int), ¬ rMdP m0_ G j → γ 3 G k j = γ 2 G k j := c3
  have c4 : ∀ (G : Nat) (k j : Int), ¬ rMdP m78_ G j → γ 4 G k j = γ 3 G k j := c4
  have c5 : ∀ (G : Nat) (k j : Int), ¬ rMdP m77_ G j → γ 5 G k j = γ 4 G k j := c5
  have c6 : ∀ (G : Nat) (k j : Int), ¬ rMdP m70_ G j → γ 6 G k j = γ 5 G k j := c6
  have c7 : ∀ (G : Nat) (k j : Int), ¬ rMdP m88_ G j → γ 7 G k j = γ 6 G k j := c7
  have c8 : ∀ (G : Nat) (k j : Int), ¬ rMdP m103_ G j → γ 8 G k j = γ 7 G k j := c8
  obtain ⟨l0, l1, l2, l3, l4, l5, l6, l7, l8, -⟩ := hl
  have l0 : sn114 [ρ 3, ρ 4] (γ 0) 0 (ρ 22) (γ 1) := hS114 _ _ _ _ _ l0
  have l1 : ρ 22 ≠ 33 := l1
  have l2 : sn106 [ρ 22] (γ 1) 0 0 (γ 2) := hS106 _ _ _ _ _ l2
  have l3 : sn105 [ρ 22] (γ 2) 0 1 (γ 3) := hS105 _ _ _ _ _ l3
  have l4 : sn115 [ρ 23, ρ 4, ρ 12, ρ 14] (γ 3) 0 1 (γ 4) := hS115 _ _ _ _ _ l4
  have l5 : sn114 [ρ 24, ρ 4] (γ 4) 0 (-1) (γ 5) := hS114 _ _ _ _ _ l5
  have l6 : sn103 [4, 0, ρ 23, ρ 0, ρ 1, ρ 2, ρ 9, ρ 10, ρ 5, ρ 18, ρ 19, ρ 7, ρ 20, ρ 21] (γ 5) 0 0 (γ 6) := hS103 _ _ _ _ _ l6
  have l7 : sn135 [ρ 2 + 9 * ρ 1 + 1, ρ 26, ρ 23, ρ 25, ρ 4, 0, ρ 12, ρ 17] (γ 6) 0 1 (γ 7) := hS135 _ _ _ _ _ l7
  have l8 : sn154 [ρ 0, ρ 1, ρ 2, ρ 25, ρ 4, 4, ρ 9, ρ 10, ρ 12] (γ 7) 0 0 (γ 8) := hS154 _ _ _ _ _ l8
  show sn157 [ρ 0, ρ 1, ρ 2, ρ 3, ρ 4, ρ 5, ρ 6, ρ 7, ρ 8, ρ 9, ρ 10, ρ 11, ρ 12, ρ 13, ρ 14, ρ 15, ρ 16, ρ 17, ρ 18, ρ 19, ρ 20, ρ 21] (γ 0) 0 0 (γ 8)
  refine Eq.symm ?_
  show fn157 [] (γ 0) = _
  unfold fn157
  refine (zLet_eq m0).trans ?_
  refine (zLet_eq m1).trans ?_
  refine (zLet_eq m2).trans ?_
  refine (zLet_eq (show fn114 [] (γ 0) = (0, ρ 22, γ 1) from l0.symm)).trans ?_
  refine (zLet_eq (show _ = γ 1 from rfl)).trans ?_
  refine (if_pos (show (0 : Int) ≤ ρ 22 by omega)).trans ?_
  refine (zLet_eq (show _ = ρ 22 from rfl)).trans ?_
  refine (zLet_eq m22).trans ?_
  refine (if_pos (show ρ 22 ≠ 33 by omega)).trans ?_
  refine (zLet_eq (show fn106 [ρ 22] (γ 1) = (0, 0, γ 2) from l2.symm)).trans ?_
  refine (zLet_eq (show _ = γ 2 from rfl)).trans ?_
  refine (if_neg (show ¬ ((1 : Int) ≤ 0) by omega)).trans ?_
  refine (zLet_eq (show fn105 [ρ 22] (γ 2) = (0, 1, γ 3) from l3.symm)).trans ?_
  refine (zLet_eq (show _ = γ 3 from rfl)).trans ?_
  refine (if_pos (show (1 : Int) ≤ 1 by omega)).trans ?_
  refine (zLet_eq (show fn115 [] (γ 3) = (0, 1, γ 4) from l4.symm)).trans ?_
  refine (zLet_eq (show _ = γ 4 from rfl)).trans ?_
  refine (if_pos (show (1 : Int) ≤ 1 by omega)).trans ?_
  refine (zLet_eq (show fn114 [] (γ 4) = (0, (-1), γ 5) from l5.symm)).trans ?_
  refine (zLet_eq (show _ = γ 5 from rfl)).trans ?_
  refine (if_neg (show ¬ ((0 : Int) ≤ (-1)) by omega)).trans ?_
  refine (zLet_eq (show fn103 [4, 0, ρ 23] (γ 5) = (0, 0, γ 6) from l6.symm)).trans ?_
  refine (zLet_eq (show _ = γ 6 from rfl)).trans ?_
  refine (zLet_eq m35).trans ?_
  refine (zLet_eq (show fn135 [ρ 2 + 9 * ρ 1 + 1, ρ 26, ρ 23] (γ 6) = (0, 1, γ 7) from l7.symm)).trans ?_
  refine (zLet_eq (show _ = γ 7 from rfl)).trans ?_
  refine (if_pos (show (1 : Int) ≤ 1 by omega)).trans ?_
  refine (zLet_eq (show fn154 [] (γ 7) = (0, 0, γ 8) from l8.symm)).trans ?_
  refine (zLet_eq (show _ = γ 8 from rfl)).trans ?_
  rfl
theorem vn157_13 {S : Nat → zSpc} (hS103 : ∀ x g o v gz, S 103 x g o v gz → sn103 x g o v gz) (hS104 : ∀ x g o v gz, S 104 x g o v gz → sn104 x g o v gz) (hS105 : ∀ x g o v gz, S 105 x g o v gz → sn105 x g o v gz) (hS106 : ∀ x g o v gz, S 106 x g o v gz → sn106 x g o v gz) (hS107 : ∀ x g o v gz, S 107 x g o v gz → sn107 x g o v gz) (hS109 : ∀ x g o v gz, S 109 x g o v gz → sn109 x g o v gz) (hS114 : ∀ x g o v gz, S 114 x g o v gz → sn114 x g o v gz) (hS115 : ∀ x g o v gz, S 115 x g o v gz → sn115 x g o v gz) (hS116 : ∀ x g o v gz, S 116 x g o v gz → sn116 x g o v gz) (hS135 : ∀ x g o v gz, S 135 x g o v gz → sn135 x g o v gz) (hS139 : ∀ x g o v gz, S 139 x g o v gz → sn139 x g o v gz) (hS145 : ∀ x g o v gz, S 145 x g o v gz → sn145 x g o v gz) (hS154 : ∀ x g o v gz, S 154 x g o v gz → sn154 x g o v gz) (hS155 : ∀ x g o v gz, S 155 x g o v gz → sn155 x g o v gz) (hS156 : ∀ x g o v gz, S 156 x g o v gz → sn156 x g o v gz) {a : List Int} {g : rHp} : ∀ (ρ : Nat → Int) (γ : Nat → rHp), zO 22 S a g q157_13 ρ γ → zGl (fun _ _ _ => True) (sn157 a g) q157_13 ρ γ := by
  intro ρ γ h
  obtain ⟨ha, hg, hr, hf, hm, hc, hl⟩ := h
  have ha : a = [ρ 0, ρ 1, ρ 2, ρ 3, ρ 4, ρ 5, ρ 6, ρ 7, ρ 8, ρ 9, ρ 10, ρ 11, ρ 12, ρ 13, ρ 14, ρ 15, ρ 16, ρ 17, ρ 18, ρ 19, ρ 20, ρ 21] := ha
  subst ha
  subst hg
  obtain ⟨r0, r1, r2, r3, r4, r5, r6, r7, r8, r9, r10, r11, r12, r13, r14, r15, r16, r17, r18, r19, r20, r21, r22, r23, r24, r25, r26, r27, r28, r29, -⟩ := hr
  have r0 : (0 : Int) ≤ ρ 0 ∧ ρ 0 ≤ 60 := r0
  have r1 : (0 : Int) ≤ ρ 1 ∧ ρ 1 ≤ 60 := r1
  have r2 : (0 : Int) ≤ ρ 2 ∧ ρ 2 ≤ 7 := r2
  have r3 : (0 : Int) ≤ ρ 3 ∧ ρ 3 ≤ 2000 := r3
  have r4 : (0 : Int) ≤ ρ 4 ∧ ρ 4 ≤ 2000 := r4
  have r5 : (0 : Int) ≤ ρ 5 ∧ ρ 5 ≤ 8 := r5
  have r6 : ((-1) : Int) ≤ ρ 6 ∧ ρ 6 ≤ 7 := r6
  have r7 : ((-1) : Int) ≤ ρ 7 ∧ ρ 7 ≤ 19 := r7
  have r8 : (0 : Int) ≤ ρ 8 ∧ ρ 8 ≤ 2 := r8
  have r9 : ((-1) : Int) ≤ ρ 9 ∧ ρ 9 ≤ 19 := r9
  have r10 : (0 : Int) ≤ ρ 10 ∧ ρ 10 ≤ 4 := r10
  have r11 : (0 : Int) ≤ ρ 11 ∧ ρ 11 ≤ 20 := r11
  have r12 : ((-2147483648) : Int) ≤ ρ 12 ∧ ρ 12 ≤ 2147483647 := r12
  have r13 : ((-2147483648) : Int) ≤ ρ 13 ∧ ρ 13 ≤ 2147483647 := r13
  have r14 : ((-2147483648) : Int) ≤ ρ 14 ∧ ρ 14 ≤ 2147483647 := r14
  have r15 : (0 : Int) ≤ ρ 15 ∧ ρ 15 ≤ 8 := r15
  have r16 : (0 : Int) ≤ ρ 16 ∧ ρ 16 ≤ 32 := r16
  have r17 : (0 : Int) ≤ ρ 17 ∧ ρ 17 ≤ 5120 := r17
  have r18 : (0 : Int) ≤ ρ 18 ∧ ρ 18 ≤ 4 := r18
  have r19 : ((-2147483648) : Int) ≤ ρ 19 ∧ ρ 19 ≤ 2147483647 := r19
  have r20 : ((-1) : Int) ≤ ρ 20 ∧ ρ 20 ≤ 3 := r20
  have r21 : (0 : Int) ≤ ρ 21 ∧ ρ 21 ≤ 4 := r21
  have r22 : (97 : Int) ≤ ρ 22 ∧ ρ 22 ≤ 122 := r22
  have r23 : (0 : Int) ≤ ρ 23 ∧ ρ 23 ≤ 1999 := r23
  have r24 : (1 : Int) ≤ ρ 24 ∧ ρ 24 ≤ 2000 := r24
  have r25 : (0 : Int) ≤ ρ 25 ∧ ρ 25 ≤ 255 := r25
  have r26 : (0 : Int) ≤ ρ 26 ∧ ρ 26 ≤ 2000 := r26
  have r27 : ((-9223372036854775808) : Int) ≤ ρ 27 ∧ ρ 27 ≤ 9223372036854775807 := r27
  have r28 : (1 : Int) ≤ ρ 28 ∧ ρ 28 ≤ 1 := r28
  have r29 : (1 : Int) ≤ ρ 29 ∧ ρ 29 ≤ 5120 := r29
  obtain ⟨f0, f1, f2, f3, f4, f5, f6, f7, f8, -⟩ := hf
  have f0 : (0 : Int) ≤ ρ 29 + -ρ 17 := f0
  have f1 : (0 : Int) ≤ ρ 26 + -ρ 24 := f1
  have f2 : (0 : Int) ≤ -ρ 26 + ρ 4 + (-1) := f2
  have f3 : (0 : Int) ≤ -ρ 24 + ρ 4 + (-1) := f3
  have f4 : (0 : Int) ≤ -ρ 23 + ρ 4 + (-1) := f4
  have f5 : (0 : Int) ≤ ρ 24 + -ρ 23 + (-1) := f5
  have f6 : (0 : Int) ≤ -ρ 24 + ρ 4 := f6
  have f7 : (0 : Int) ≤ ρ 23 + -ρ 3 := f7
  have f8 : (0 : Int) ≤ ρ 4 + -ρ 3 + (-1) := f8
  obtain ⟨m0, m1, m2, m3, m4, m5, m6, m7, m8, m9, m10, m11, m12, m13, m14, m15, m16, m17, m18, m19, m20, m21, m22, m23, m24, m25, m26, m27, m28, m29, m30, m31, m32, m33, m34, m35, m36, m37, m38, -⟩ := hm
  have m0 : γ 0 1 0 10 = ρ 0 := m0
  have m1 : γ 0 40 0 (ρ 0) = ρ 1 := m1
  have m2 : γ 0 9 (ρ 1) 2 = ρ 2 := m2
  have m3 : γ 0 2 0 6 = ρ 3 := m3
  have m4 : γ 0 2 0 3 = ρ 4 := m4
  have m5 : γ 0 10 (ρ 2 + 9 * ρ 1 + 1) 4 = ρ 5 := m5
  have m6 : γ 0 10 (ρ 2 + 9 * ρ 1 + 1) 11 = ρ 6 := m6
  have m7 : γ 0 10 (ρ 2 + 9 * ρ 1 + 1) 8 = ρ 7 := m7
  have m8 : γ 0 2 0 7 = ρ 8 := m8
  have m9 : γ 0 10 (9 * ρ 1) 8 = ρ 9 := m9
  have m10 : γ 0 10 (9 * ρ 1) 12 = ρ 10 := m10
  have m11 : γ 0 1 0 7 = ρ 11 := m11
  have m12 : γ 0 2 0 4 = ρ 12 := m12
  have m13 : γ 0 2 0 5 = ρ 13 := m13
  have m14 : γ 0 2 0 9 = ρ 14 := m14
  have m15 : γ 0 2 0 13 = ρ 15 := m15
  have m16 : γ 0 2 0 16 = ρ 16 := m16
  have m17 : γ 0 3 0 1 = ρ 17 := m17
  have m18 : γ 0 10 (ρ 2 + 9 * ρ 1 + 1) 5 = ρ 18 := m18
  have m19 : γ 0 10 (ρ 2 + 9 * ρ 1 + 1) 7 = ρ 19 := m19
  have m20 : γ 0 10 (ρ 2 + 9 * ρ 1 + 1) 9 = ρ 20 := m20
  have m21 : γ 0 10 (ρ 2 + 9 * ρ 1 + 1) 12 = ρ 21 := m21
  have m22 : γ 1 2 0 6 = ρ 23 := m22
  have m23 : γ 4 2 0 6 = ρ 24 := m23
  have m24 : γ 4 2 0 4 = ρ 12 := m24
  have m25 : γ 4 2 0 9 = ρ 23 := m25
  have m26 : γ 5 2 0 6 = ρ 26 := m26
  have m27 : γ 6 10 (9 * ρ 1) 8 = ρ 9 := m27
  have m28 : γ 6 10 (9 * ρ 1) 12 = ρ 10 := m28
  have m29 : γ 6 10 (ρ 2 + 9 * ρ 1 + 1) 4 = 4 := m29
  have m30 : γ 6 10 (ρ 2 + 9 * ρ 1 + 1) 5 = 0 := m30
  have m31 : γ 6 10 (ρ 2 + 9 * ρ 1 + 1) 7 = ρ 23 := m31
  have m32 : γ 6 10 (ρ 2 + 9 * ρ 1 + 1) 8 = (-1) := m32
  have m33 : γ 6 10 (ρ 2 + 9 * ρ 1 + 1) 9 = (-1) := m33
  have m34 : γ 6 10 (ρ 2 + 9 * ρ 1 + 1) 12 = 0 := m34
  have m35 : γ 4 2 0 8 = ρ 27 := m35
  have m36 : γ 7 10 (ρ 2 + 9 * ρ 1 + 1) 5 = ρ 28 := m36
  have m37 : γ 7 2 0 4 = ρ 23 := m37
  have m38 : γ 7 3 0 1 = ρ 29 := m38
  obtain ⟨⟨⟨⟨⟨⟨⟨-, c1⟩, c2⟩, c3⟩, c4⟩, c5⟩, c6⟩, c7⟩ := hc
  have c1 : ∀ (G : Nat) (k j : Int), ¬ rMdP m77_ G j → γ 1 G k j = γ 0 G k j := c1
  have c2 : ∀ (G : Nat) (k j : Int), ¬ rMdP m0_ G j → γ 2 G k j = γ 1 G k j := c2
  have c3 : ∀ (G : Nat) (k j : Int), ¬ rMdP m0_ G j → γ 3 G k j = γ 2 G k j := c3
  have c4 : ∀ (G : Nat) (k j : Int), ¬ rMdP m78_ G j → γ 4 G k j = γ 3 G k j := c4
  have c5 : ∀ (G : Nat) (k j : Int), ¬ rMdP m77_ G j → γ 5 G k j = γ 4 G k j := c5
  have c6 : ∀ (G : Nat) (k j : Int), ¬ rMdP m70_ G j → γ 6 G k j = γ 5 G k j := c6
  have c7 : ∀ (G : Nat) (k j : Int), ¬ rMdP m88_ G j → γ 7 G k j = γ 6 G k j := c7
  obtain ⟨l0, l1, l2, l3, l4, l5, l6, l7, l8, -⟩ := hl
  have l0 : sn114 [ρ 3, ρ 4] (γ 0) 0 (ρ 22) (γ 1) := hS114 _ _ _ _ _ l0
  have l1 : ρ 22 ≠ 33 := l1
  have l2 : sn106 [ρ 22] (γ 1) 0 0 (γ 2) := hS106 _ _ _ _ _ l2
  have l3 : sn105 [ρ 22] (γ 2) 0 1 (γ 3) := hS105 _ _ _ _ _ l3
  have l4 : sn115 [ρ 23, ρ 4, ρ 12, ρ 14] (γ 3) 0 1 (γ 4) := hS115 _ _ _ _ _ l4
  have l5 : sn114 [ρ 24, ρ 4] (γ 4) 0 (ρ 25) (γ 5) := hS114 _ _ _ _ _ l5
  have l6 : ρ 25 ≠ 40 := l6
  have l7 : sn103 [4, 0, ρ 23, ρ 0, ρ 1, ρ 2, ρ 9, ρ 10, ρ 5, ρ 18, ρ 19, ρ 7, ρ 20, ρ 21] (γ 5) 0 0 (γ 6) := hS103 _ _ _ _ _ l7
  have l8 : sn135 [ρ 2 + 9 * ρ 1 + 1, ρ 27, ρ 23, ρ 26, ρ 4, 0, ρ 12, ρ 17] (γ 6) 0 0 (γ 7) := hS135 _ _ _ _ _ l8
  show sn157 [ρ 0, ρ 1, ρ 2, ρ 3, ρ 4, ρ 5, ρ 6, ρ 7, ρ 8, ρ 9, ρ 10, ρ 11, ρ 12, ρ 13, ρ 14, ρ 15, ρ 16, ρ 17, ρ 18, ρ 19, ρ 20, ρ 21] (γ 0) 0 0 (γ 7)
  refine Eq.symm ?_
  show fn157 [] (γ 0) = _
  unfold fn157
  refine (zLet_eq m0).trans ?_
  refine (zLet_eq m1).trans ?_
  refine (zLet_eq m2).trans ?_
  refine (zLet_eq (show fn114 [] (γ 0) = (0, ρ 22, γ 1) from l0.symm)).trans ?_
  refine (zLet_eq (show _ = γ 1 from rfl)).trans ?_
  refine (if_pos (show (0 : Int) ≤ ρ 22 by omega)).trans ?_
  refine (zLet_eq (show _ = ρ 22 from rfl)).trans ?_
  refine (zLet_eq m22).trans ?_
  refine (if_pos (show ρ 22 ≠ 33 by omega)).trans ?_
  refine (zLet_eq (show fn106 [ρ 22] (γ 1) = (0, 0, γ 2) from l2.symm)).trans ?_
  refine (zLet_eq (show _ = γ 2 from rfl)).trans ?_
  refine (if_neg (show ¬ ((1 : Int) ≤ 0) by omega)).trans ?_
  refine (zLet_eq (show fn105 [ρ 22] (γ 2) = (0, 1, γ 3) from l3.symm)).trans ?_
  refine (zLet_eq (show _ = γ 3 from rfl)).trans ?_
  refine (if_pos (show (1 : Int) ≤ 1 by omega)).trans ?_
  refine (zLet_eq (show fn115 [] (γ 3) = (0, 1, γ 4) from l4.symm)).trans ?_
  refine (zLet_eq (show _ = γ 4 from rfl)).trans ?_
  refine (if_pos (show (1 : Int) ≤ 1 by omega)).trans ?_
  refine (zLet_eq (show fn114 [] (γ 4) = (0, ρ 25, γ 5) from l5.symm)).trans ?_
  refine (zLet_eq (show _ = γ 5 from rfl)).trans ?_
  refine (if_pos (show (0 : Int) ≤ ρ 25 by omega)).trans ?_
  refine (zLet_eq (show _ = ρ 25 from rfl)).trans ?_
  refine (if_pos (show ρ 25 ≠ 40 by omega)).trans ?_
  refine (zLet_eq (show fn103 [4, 0, ρ 23] (γ 5) = (0, 0, γ 6) from l7.symm)).trans ?_
  refine (zLet_eq (show _ = γ 6 from rfl)).trans ?_
  refine (zLet_eq m35).trans ?_
  refine (zLet_eq (show fn135 [ρ 2 + 9 * ρ 1 + 1, ρ 27, ρ 23] (γ 6) = (0, 0, γ 7) from l8.symm)).trans ?_
  refine (zLet_eq (show _ = γ 7 from rfl)).trans ?_
  refine (if_neg (show ¬ ((1 : Int) ≤ 0) by omega)).trans ?_
  rfl
theorem vn157_14 {S : Nat → zSpc} (hS103 : ∀ x g o v gz, S 103 x g o v gz → sn103 x g o v gz) (hS104 : ∀ x g o v gz, S 104 x g o v gz → sn104 x g o v gz) (hS105 : ∀ x g o v gz, S 105 x g o v gz → sn105 x g o v gz) (hS106 : ∀ x g o v gz, S 106 x g o v gz → sn106 x g o v gz) (hS107 : ∀ x g o v gz, S 107 x g o v gz → sn107 x g o v gz) (hS109 : ∀ x g o v gz, S 109 x g o v gz → sn109 x g o v gz) (hS114 : ∀ x g o v gz, S 114 x g o v gz → sn114 x g o v gz) (hS115 : ∀ x g o v gz, S 115 x g o v gz → sn115 x g o v gz) (hS116 : ∀ x g o v gz, S 116 x g o v gz → sn116 x g o v gz) (hS135 : ∀ x g o v gz, S 135 x g o v gz → sn135 x g o v gz) (hS139 : ∀ x g o v gz, S 139 x g o v gz → sn139 x g o v gz) (hS145 : ∀ x g o v gz, S 145 x g o v gz → sn145 x g o v gz) (hS154 : ∀ x g o v gz, S 154 x g o v gz → sn154 x g o v gz) (hS155 : ∀ x g o v gz, S 155 x g o v gz → sn155 x g o v gz) (hS156 : ∀ x g o v gz, S 156 x g o v gz → sn156 x g o v gz) {a : List Int} {g : rHp} : ∀ (ρ : Nat → Int) (γ : Nat → rHp), zO 22 S a g q157_14 ρ γ → zGl (fun _ _ _ => True) (sn157 a g) q157_14 ρ γ := by
  intro ρ γ h
  obtain ⟨ha, hg, hr, hf, hm, hc, hl⟩ := h
  have ha : a = [ρ 0, ρ 1, ρ 2, ρ 3, ρ 4, ρ 5, ρ 6, ρ 7, ρ 8, ρ 9, ρ 10, ρ 11, ρ 12, ρ 13, ρ 14, ρ 15, ρ 16, ρ 17, ρ 18, ρ 19, ρ 20, ρ 21] := ha
  subst ha
  subst hg
  obtain ⟨r0, r1, r2, r3, r4, r5, r6, r7, r8, r9, r10, r11, r12, r13, r14, r15, r16, r17, r18, r19, r20, r21, r22, r23, r24, r25, r26, r27, r28, r29, r30, r31, -⟩ := hr
  have r0 : (0 : Int) ≤ ρ 0 ∧ ρ 0 ≤ 60 := r0
  have r1 : (0 : Int) ≤ ρ 1 ∧ ρ 1 ≤ 60 := r1
  have r2 : (0 : Int) ≤ ρ 2 ∧ ρ 2 ≤ 7 := r2
  have r3 : (0 : Int) ≤ ρ 3 ∧ ρ 3 ≤ 2000 := r3
  have r4 : (0 : Int) ≤ ρ 4 ∧ ρ 4 ≤ 2000 := r4
  have r5 : (0 : Int) ≤ ρ 5 ∧ ρ 5 ≤ 8 := r5
  have r6 : ((-1) : Int) ≤ ρ 6 ∧ ρ 6 ≤ 7 := r6
  have r7 : ((-1) : Int) ≤ ρ 7 ∧ ρ 7 ≤ 19 := r7
  have r8 : (0 : Int) ≤ ρ 8 ∧ ρ 8 ≤ 2 := r8
  have r9 : ((-1) : Int) ≤ ρ 9 ∧ ρ 9 ≤ 19 := r9
  have r10 : (0 : Int) ≤ ρ 10 ∧ ρ 10 ≤ 4 := r10
  have r11 : (0 : Int) ≤ ρ 11 ∧ ρ 11 ≤ 20 := r11
  have r12 : ((-2147483648) : Int) ≤ ρ 12 ∧ ρ 12 ≤ 2147483647 := r12
  have r13 : ((-2147483648) : Int) ≤ ρ 13 ∧ ρ 13 ≤ 2147483647 := r13
  have r14 : ((-2147483648) : Int) ≤ ρ 14 ∧ ρ 14 ≤ 2147483647 := r14
  have r15 : (0 : Int) ≤ ρ 15 ∧ ρ 15 ≤ 8 := r15
  have r16 : (0 : Int) ≤ ρ 16 ∧ ρ 16 ≤ 32 := r16
  have r17 : (0 : Int) ≤ ρ 17 ∧ ρ 17 ≤ 5120 := r17
  have r18 : (0 : Int) ≤ ρ 18 ∧ ρ 18 ≤ 4 := r18
  have r19 : ((-2147483648) : Int) ≤ ρ 19 ∧ ρ 19 ≤ 2147483647 := r19
  have r20 : ((-1) : Int) ≤ ρ 20 ∧ ρ 20 ≤ 3 := r20
  have r21 : (0 : Int) ≤ ρ 21 ∧ ρ 21 ≤ 4 := r21
  have r22 : (97 : Int) ≤ ρ 22 ∧ ρ 22 ≤ 122 := r22
  have r23 : (0 : Int) ≤ ρ 23 ∧ ρ 23 ≤ 1999 := r23
  have r24 : (1 : Int) ≤ ρ 24 ∧ ρ 24 ≤ 2000 := r24
  have r25 : (0 : Int) ≤ ρ 25 ∧ ρ 25 ≤ 255 := r25
  have r26 : (0 : Int) ≤ ρ 26 ∧ ρ 26 ≤ 2000 := r26
  have r27 : ((-9223372036854775808) : Int) ≤ ρ 27 ∧ ρ 27 ≤ 9223372036854775807 := r27
  have r28 : (1 : Int) ≤ ρ 28 ∧ ρ 28 ≤ 1 := r28
  have r29 : (1 : Int) ≤ ρ 29 ∧ ρ 29 ≤ 5120 := r29
  have r30 : (0 : Int) ≤ ρ 30 ∧ ρ 30 ≤ 2000 := r30
  have r31 : (0 : Int) ≤ ρ 31 ∧ ρ 31 ≤ 2000 := r31
  obtain ⟨f0, f1, f2, f3, f4, f5, f6, f7, f8, f9, f10, f11, -⟩ := hf
  have f0 : (0 : Int) ≤ -ρ 31 + ρ 30 := f0
  have f1 : (0 : Int) ≤ ρ 30 + -ρ 26 := f1
  have f2 : (0 : Int) ≤ ρ 31 + -ρ 30 := f2
  have f3 : (0 : Int) ≤ ρ 29 + -ρ 17 := f3
  have f4 : (0 : Int) ≤ ρ 26 + -ρ 24 := f4
  have f5 : (0 : Int) ≤ -ρ 26 + ρ 4 + (-1) := f5
  have f6 : (0 : Int) ≤ -ρ 24 + ρ 4 + (-1) := f6
  have f7 : (0 : Int) ≤ -ρ 23 + ρ 4 + (-1) := f7
  have f8 : (0 : Int) ≤ ρ 24 + -ρ 23 + (-1) := f8
  have f9 : (0 : Int) ≤ -ρ 24 + ρ 4 := f9
  have f10 : (0 : Int) ≤ ρ 23 + -ρ 3 := f10
  have f11 : (0 : Int) ≤ ρ 4 + -ρ 3 + (-1) := f11
  obtain ⟨m0, m1, m2, m3, m4, m5, m6, m7, m8, m9, m10, m11, m12, m13, m14, m15, m16, m17, m18, m19, m20, m21, m22, m23, m24, m25, m26, m27, m28, m29, m30, m31, m32, m33, m34, m35, m36, m37, m38, m39, m40, m41, -⟩ := hm
  have m0 : γ 0 1 0 10 = ρ 0 := m0
  have m1 : γ 0 40 0 (ρ 0) = ρ 1 := m1
  have m2 : γ 0 9 (ρ 1) 2 = ρ 2 := m2
  have m3 : γ 0 2 0 6 = ρ 3 := m3
  have m4 : γ 0 2 0 3 = ρ 4 := m4
  have m5 : γ 0 10 (ρ 2 + 9 * ρ 1 + 1) 4 = ρ 5 := m5
  have m6 : γ 0 10 (ρ 2 + 9 * ρ 1 + 1) 11 = ρ 6 := m6
  have m7 : γ 0 10 (ρ 2 + 9 * ρ 1 + 1) 8 = ρ 7 := m7
  have m8 : γ 0 2 0 7 = ρ 8 := m8
  have m9 : γ 0 10 (9 * ρ 1) 8 = ρ 9 := m9
  have m10 : γ 0 10 (9 * ρ 1) 12 = ρ 10 := m10
  have m11 : γ 0 1 0 7 = ρ 11 := m11
  have m12 : γ 0 2 0 4 = ρ 12 := m12
  have m13 : γ 0 2 0 5 = ρ 13 := m13
  have m14 : γ 0 2 0 9 = ρ 14 := m14
  have m15 : γ 0 2 0 13 = ρ 15 := m15
  have m16 : γ 0 2 0 16 = ρ 16 := m16
  have m17 : γ 0 3 0 1 = ρ 17 := m17
  have m18 : γ 0 10 (ρ 2 + 9 * ρ 1 + 1) 5 = ρ 18 := m18
  have m19 : γ 0 10 (ρ 2 + 9 * ρ 1 + 1) 7 = ρ 19 := m19
  have m20 : γ 0 10 (ρ 2 + 9 * ρ 1 + 1) 9 = ρ 20 := m20
  have m21 : γ 0 10 (ρ 2 + 9 * ρ 1 + 1) 12 = ρ 21 := m21
  have m22 : γ 1 2 0 6 = ρ 23 := m22
  have m23 : γ 4 2 0 6 = ρ 24 := m23
  have m24 : γ 4 2 0 4 = ρ 12 := m24
  have m25 : γ 4 2 0 9 = ρ 23 := m25
  have m26 : γ 5 2 0 6 = ρ 26 := m26
  have m27 : γ 6 10 (9 * ρ 1) 8 = ρ 9 := m27
  have m28 : γ 6 10 (9 * ρ 1) 12 = ρ 10 := m28
  have m29 : γ 6 10 (ρ 2 + 9 * ρ 1 + 1) 4 = 4 := m29
  have m30 : γ 6 10 (ρ 2 + 9 * ρ 1 + 1) 5 = 0 := m30
  have m31 : γ 6 10 (ρ 2 + 9 * ρ 1 + 1) 7 = ρ 23 := m31
  have m32 : γ 6 10 (ρ 2 + 9 * ρ 1 + 1) 8 = (-1) := m32
  have m33 : γ 6 10 (ρ 2 + 9 * ρ 1 + 1) 9 = (-1) := m33
  have m34 : γ 6 10 (ρ 2 + 9 * ρ 1 + 1) 12 = 0 := m34
  have m35 : γ 4 2 0 8 = ρ 27 := m35
  have m36 : γ 7 10 (ρ 2 + 9 * ρ 1 + 1) 5 = ρ 28 := m36
  have m37 : γ 7 2 0 4 = ρ 12 := m37
  have m38 : γ 7 3 0 1 = ρ 29 := m38
  have m39 : γ 8 2 0 6 = ρ 30 := m39
  have m40 : γ 8 10 (ρ 2 + 9 * ρ 1 + 1) 4 = 4 := m40
  have m41 : γ 8 2 0 4 = ρ 31 := m41
  obtain ⟨⟨⟨⟨⟨⟨⟨⟨-, c1⟩, c2⟩, c3⟩, c4⟩, c5⟩, c6⟩, c7⟩, c8⟩ := hc
  have c1 : ∀ (G : Nat) (k j : Int), ¬ rMdP m77_ G j → γ 1 G k j = γ 0 G k j := c1
  have c2 : ∀ (G : Nat) (k j : Int), ¬ rMdP m0_ G j → γ 2 G k j = γ 1 G k j := c2
  have c3 : ∀ (G : Nat) (k j : Int), ¬ rMdP m0_ G j → γ 3 G k j = γ 2 G k j := c3
  have c4 : ∀ (G : Nat) (k j : Int), ¬ rMdP m78_ G j → γ 4 G k j = γ 3 G k j := c4
  have c5 : ∀ (G : Nat) (k j : Int), ¬ rMdP m77_ G j → γ 5 G k j = γ 4 G k j := c5
  have c6 : ∀ (G : Nat) (k j : Int), ¬ rMdP m70_ G j → γ 6 G k j = γ 5 G k j := c6
  have c7 : ∀ (G : Nat) (k j : Int), ¬ rMdP m88_ G j → γ 7 G k j = γ 6 G k j := c7
  have c8 : ∀ (G : Nat) (k j : Int), ¬ rMdP m103_ G j → γ 8 G k j = γ 7 G k j := c8
  obtain ⟨l0, l1, l2, l3, l4, l5, l6, l7, l8, l9, -⟩ := hl
  have l0 : sn114 [ρ 3, ρ 4] (γ 0) 0 (ρ 22) (γ 1) := hS114 _ _ _ _ _ l0
  have l1 : ρ 22 ≠ 33 := l1
  have l2 : sn106 [ρ 22] (γ 1) 0 0 (γ 2) := hS106 _ _ _ _ _ l2
  have l3 : sn105 [ρ 22] (γ 2) 0 1 (γ 3) := hS105 _ _ _ _ _ l3
  have l4 : sn115 [ρ 23, ρ 4, ρ 12, ρ 14] (γ 3) 0 1 (γ 4) := hS115 _ _ _ _ _ l4
  have l5 : sn114 [ρ 24, ρ 4] (γ 4) 0 (ρ 25) (γ 5) := hS114 _ _ _ _ _ l5
  have l6 : ρ 25 ≠ 40 := l6
  have l7 : sn103 [4, 0, ρ 23, ρ 0, ρ 1, ρ 2, ρ 9, ρ 10, ρ 5, ρ 18, ρ 19, ρ 7, ρ 20, ρ 21] (γ 5) 0 0 (γ 6) := hS103 _ _ _ _ _ l7
  have l8 : sn135 [ρ 2 + 9 * ρ 1 + 1, ρ 27, ρ 23, ρ 26, ρ 4, 0, ρ 12, ρ 17] (γ 6) 0 1 (γ 7) := hS135 _ _ _ _ _ l8
  have l9 : sn154 [ρ 0, ρ 1, ρ 2, ρ 26, ρ 4, 4, ρ 9, ρ 10, ρ 12] (γ 7) 0 0 (γ 8) := hS154 _ _ _ _ _ l9
  show sn157 [ρ 0, ρ 1, ρ 2, ρ 3, ρ 4, ρ 5, ρ 6, ρ 7, ρ 8, ρ 9, ρ 10, ρ 11, ρ 12, ρ 13, ρ 14, ρ 15, ρ 16, ρ 17, ρ 18, ρ 19, ρ 20, ρ 21] (γ 0) 0 0 (γ 8)
  refine Eq.symm ?_
  show fn157 [] (γ 0) = _
  unfold fn157
  refine (zLet_eq m0).trans ?_
  refine (zLet_eq m1).trans ?_
  refine (zLet_eq m2).trans ?_
  refine (zLet_eq (show fn114 [] (γ 0) = (0, ρ 22, γ 1) from l0.symm)).trans ?_
  refine (zLet_eq (show _ = γ 1 from rfl)).trans ?_
  refine (if_pos (show (0 : Int) ≤ ρ 22 by omega)).trans ?_
  refine (zLet_eq (show _ = ρ 22 from rfl)).trans ?_
  refine (zLet_eq m22).trans ?_
  refine (if_pos (show ρ 22 ≠ 33 by omega)).trans ?_
  refine (zLet_eq (show fn106 [ρ 22] (γ 1) = (0, 0, γ 2) from l2.symm)).trans ?_
  refine (zLet_eq (show _ = γ 2 from rfl)).trans ?_
  refine (if_neg (show ¬ ((1 : Int) ≤ 0) by omega)).trans ?_
  refine (zLet_eq (show fn105 [ρ 22] (γ 2) = (0, 1, γ 3) from l3.symm)).trans ?_
  refine (zLet_eq (show _ = γ 3 from rfl)).trans ?_
  refine (if_pos (show (1 : Int) ≤ 1 by omega)).trans ?_
  refine (zLet_eq (show fn115 [] (γ 3) = (0, 1, γ 4) from l4.symm)).trans ?_
  refine (zLet_eq (show _ = γ 4 from rfl)).trans ?_
  refine (if_pos (show (1 : Int) ≤ 1 by omega)).trans ?_
  refine (zLet_eq (show fn114 [] (γ 4) = (0, ρ 25, γ 5) from l5.symm)).trans ?_
  refine (zLet_eq (show _ = γ 5 from rfl)).trans ?_
  refine (if_pos (show (0 : Int) ≤ ρ 25 by omega)).trans ?_
  refine (zLet_eq (show _ = ρ 25 from rfl)).trans ?_
  refine (if_pos (show ρ 25 ≠ 40 by omega)).trans ?_
  refine (zLet_eq (show fn103 [4, 0, ρ 23] (γ 5) = (0, 0, γ 6) from l7.symm)).trans ?_
  refine (zLet_eq (show _ = γ 6 from rfl)).trans ?_
  refine (zLet_eq m35).trans ?_
  refine (zLet_eq (show fn135 [ρ 2 + 9 * ρ 1 + 1, ρ 27, ρ 23] (γ 6) = (0, 1, γ 7) from l8.symm)).trans ?_
  refine (zLet_eq (show _ = γ 7 from rfl)).trans ?_
  refine (if_pos (show (1 : Int) ≤ 1 by omega)).trans ?_
  refine (zLet_eq (show fn154 [] (γ 7) = (0, 0, γ 8) from l9.symm)).trans ?_
  refine (zLet_eq (show _ = γ 8 from rfl)).trans ?_
  refine (if_neg (show ¬ ((1 : Int) ≤ 0) by omega)).trans ?_
  rfl
theorem vn157_15 {S : Nat → zSpc} (hS103 : ∀ x g o v gz, S 103 x g o v gz → sn103 x g o v gz) (hS104 : ∀ x g o v gz, S 104 x g o v gz → sn104 x g o v gz) (hS105 : ∀ x g o v gz, S 105 x g o v gz → sn105 x g o v gz) (hS106 : ∀ x g o v gz, S 106 x g o v gz → sn106 x g o v gz) (hS107 : ∀ x g o v gz, S 107 x g o v gz → sn107 x g o v gz) (hS109 : ∀ x g o v gz, S 109 x g o v gz → sn109 x g o v gz) (hS114 : ∀ x g o v gz, S 114 x g o v gz → sn114 x g o v gz) (hS115 : ∀ x g o v gz, S 115 x g o v gz → sn115 x g o v gz) (hS116 : ∀ x g o v gz, S 116 x g o v gz → sn116 x g o v gz) (hS135 : ∀ x g o v gz, S 135 x g o v gz → sn135 x g o v gz) (hS139 : ∀ x g o v gz, S 139 x g o v gz → sn139 x g o v gz) (hS145 : ∀ x g o v gz, S 145 x g o v gz → sn145 x g o v gz) (hS154 : ∀ x g o v gz, S 154 x g o v gz → sn154 x g o v gz) (hS155 : ∀ x g o v gz, S 155 x g o v gz → sn155 x g o v gz) (hS156 : ∀ x g o v gz, S 156 x g o v gz → sn156 x g o v gz) {a : List Int} {g : rHp} : ∀ (ρ : Nat → Int) (γ : Nat → rHp), zO 22 S a g q157_15 ρ γ → zGl (fun _ _ _ => True) (sn157 a g) q157_15 ρ γ := by
  intro ρ γ h
  obtain ⟨ha, hg, hr, hf, hm, hc, hl⟩ := h
  have ha : a = [ρ 0, ρ 1, ρ 2, ρ 3, ρ 4, ρ 5, ρ 6, ρ 7, ρ 8, ρ 9, ρ 10, ρ 11, ρ 12, ρ 13, ρ 14, ρ 15, ρ 16, ρ 17, ρ 18, ρ 19, ρ 20, ρ 21] := ha
  subst ha
  subst hg
  obtain ⟨r0, r1, r2, r3, r4, r5, r6, r7, r8, r9, r10, r11, r12, r13, r14, r15, r16, r17, r18, r19, r20, r21, r22, r23, r24, r25, r26, r27, r28, r29, r30, r31, r32, r33, r34, r35, r36, -⟩ := hr
  have r0 : (0 : Int) ≤ ρ 0 ∧ ρ 0 ≤ 60 := r0
  have r1 : (0 : Int) ≤ ρ 1 ∧ ρ 1 ≤ 60 := r1
  have r2 : (0 : Int) ≤ ρ 2 ∧ ρ 2 ≤ 7 := r2
  have r3 : (0 : Int) ≤ ρ 3 ∧ ρ 3 ≤ 2000 := r3
  have r4 : (0 : Int) ≤ ρ 4 ∧ ρ 4 ≤ 2000 := r4
  have r5 : (0 : Int) ≤ ρ 5 ∧ ρ 5 ≤ 8 := r5
  have r6 : ((-1) : Int) ≤ ρ 6 ∧ ρ 6 ≤ 7 := r6
  have r7 : ((-1) : Int) ≤ ρ 7 ∧ ρ 7 ≤ 19 := r7
  have r8 : (0 : Int) ≤ ρ 8 ∧ ρ 8 ≤ 2 := r8
  have r9 : ((-1) : Int) ≤ ρ 9 ∧ ρ 9 ≤ 19 := r9
  have r10 : (0 : Int) ≤ ρ 10 ∧ ρ 10 ≤ 4 := r10
  have r11 : (0 : Int) ≤ ρ 11 ∧ ρ 11 ≤ 20 := r11
  have r12 : ((-2147483648) : Int) ≤ ρ 12 ∧ ρ 12 ≤ 2147483647 := r12
  have r13 : ((-2147483648) : Int) ≤ ρ 13 ∧ ρ 13 ≤ 2147483647 := r13
  have r14 : ((-2147483648) : Int) ≤ ρ 14 ∧ ρ 14 ≤ 2147483647 := r14
  have r15 : (0 : Int) ≤ ρ 15 ∧ ρ 15 ≤ 8 := r15
  have r16 : (0 : Int) ≤ ρ 16 ∧ ρ 16 ≤ 32 := r16
  have r17 : (0 : Int) ≤ ρ 17 ∧ ρ 17 ≤ 5120 := r17
  have r18 : (0 : Int) ≤ ρ 18 ∧ ρ 18 ≤ 4 := r18
  have r19 : ((-2147483648) : Int) ≤ ρ 19 ∧ ρ 19 ≤ 2147483647 := r19
  have r20 : ((-1) : Int) ≤ ρ 20 ∧ ρ 20 ≤ 3 := r20
  have r21 : (0 : Int) ≤ ρ 21 ∧ ρ 21 ≤ 4 := r21
  have r22 : (97 : Int) ≤ ρ 22 ∧ ρ 22 ≤ 122 := r22
  have r23 : (0 : Int) ≤ ρ 23 ∧ ρ 23 ≤ 1999 := r23
  have r24 : (1 : Int) ≤ ρ 24 ∧ ρ 24 ≤ 2000 := r24
  have r25 : (0 : Int) ≤ ρ 25 ∧ ρ 25 ≤ 255 := r25
  have r26 : (0 : Int) ≤ ρ 26 ∧ ρ 26 ≤ 2000 := r26
  have r27 : ((-9223372036854775808) : Int) ≤ ρ 27 ∧ ρ 27 ≤ 9223372036854775807 := r27
  have r28 : (1 : Int) ≤ ρ 28 ∧ ρ 28 ≤ 1 := r28
  have r29 : (1 : Int) ≤ ρ 29 ∧ ρ 29 ≤ 5120 := r29
  have r30 : (1 : Int) ≤ ρ 30 ∧ ρ 30 ≤ 2000 := r30
  have r31 : (3 : Int) ≤ ρ 31 ∧ ρ 31 ≤ 5 := r31
  have r32 : (0 : Int) ≤ ρ 32 ∧ ρ 32 ≤ 2000 := r32
  have r33 : (0 : Int) ≤ ρ 33 ∧ ρ 33 ≤ 4 := r33
  have r34 : (0 : Int) ≤ ρ 34 ∧ ρ 34 ≤ 2000 := r34
  have r35 : ((-2147483648) : Int) ≤ ρ 35 ∧ ρ 35 ≤ 2147483647 := r35
  have r36 : (0 : Int) ≤ ρ 36 ∧ ρ 36 ≤ 5120 := r36
  obtain ⟨f0, f1, f2, f3, f4, f5, f6, f7, f8, f9, f10, f11, f12, f13, f14, f15, f16, -⟩ := hf
  have f0 : (0 : Int) ≤ -ρ 34 + ρ 32 := f0
  have f1 : (0 : Int) ≤ ρ 32 + -ρ 30 := f1
  have f2 : (0 : Int) ≤ ρ 33 + -ρ 28 := f2
  have f3 : (0 : Int) ≤ ρ 34 + -ρ 30 := f3
  have f4 : (0 : Int) ≤ ρ 36 + -ρ 29 := f4
  have f5 : (0 : Int) ≤ -ρ 33 + ρ 28 + 1 := f5
  have f6 : (0 : Int) ≤ ρ 30 + -ρ 26 + (-1) := f6
  have f7 : (0 : Int) ≤ -ρ 30 + ρ 4 := f7
  have f8 : (0 : Int) ≤ -ρ 26 + ρ 4 + (-1) := f8
  have f9 : (0 : Int) ≤ ρ 29 + -ρ 17 := f9
  have f10 : (0 : Int) ≤ ρ 26 + -ρ 24 := f10
  have f11 : (0 : Int) ≤ -ρ 24 + ρ 4 + (-1) := f11
  have f12 : (0 : Int) ≤ -ρ 23 + ρ 4 + (-1) := f12
  have f13 : (0 : Int) ≤ ρ 24 + -ρ 23 + (-1) := f13
  have f14 : (0 : Int) ≤ -ρ 24 + ρ 4 := f14
  have f15 : (0 : Int) ≤ ρ 23 + -ρ 3 := f15
  have f16 : (0 : Int) ≤ ρ 4 + -ρ 3 + (-1) := f16
  obtain ⟨m0, m1, m2, m3, m4, m5, m6, m7, m8, m9, m10, m11, m12, m13, m14, m15, m16, m17, m18, m19, m20, m21, m22, m23, m24, m25, m26, m27, m28, m29, m30, m31, m32, m33, m34, m35, m36, m37, m38, m39, m40, m41, m42, m43, m44, m45, m46, -⟩ := hm
  have m0 : γ 0 1 0 10 = ρ 0 := m0
  have m1 : γ 0 40 0 (ρ 0) = ρ 1 := m1
  have m2 : γ 0 9 (ρ 1) 2 = ρ 2 := m2
  have m3 : γ 0 2 0 6 = ρ 3 := m3
  have m4 : γ 0 2 0 3 = ρ 4 := m4
  have m5 : γ 0 10 (ρ 2 + 9 * ρ 1 + 1) 4 = ρ 5 := m5
  have m6 : γ 0 10 (ρ 2 + 9 * ρ 1 + 1) 11 = ρ 6 := m6
  have m7 : γ 0 10 (ρ 2 + 9 * ρ 1 + 1) 8 = ρ 7 := m7
  have m8 : γ 0 2 0 7 = ρ 8 := m8
  have m9 : γ 0 10 (9 * ρ 1) 8 = ρ 9 := m9
  have m10 : γ 0 10 (9 * ρ 1) 12 = ρ 10 := m10
  have m11 : γ 0 1 0 7 = ρ 11 := m11
  have m12 : γ 0 2 0 4 = ρ 12 := m12
  have m13 : γ 0 2 0 5 = ρ 13 := m13
  have m14 : γ 0 2 0 9 = ρ 14 := m14
  have m15 : γ 0 2 0 13 = ρ 15 := m15
  have m16 : γ 0 2 0 16 = ρ 16 := m16
  have m17 : γ 0 3 0 1 = ρ 17 := m17
  have m18 : γ 0 10 (ρ 2 + 9 * ρ 1 + 1) 5 = ρ 18 := m18
  have m19 : γ 0 10 (ρ 2 + 9 * ρ 1 + 1) 7 = ρ 19 := m19
  have m20 : γ 0 10 (ρ 2 + 9 * ρ 1 + 1) 9 = ρ 20 := m20
  have m21 : γ 0 10 (ρ 2 + 9 * ρ 1 + 1) 12 = ρ 21 := m21
  have m22 : γ 1 2 0 6 = ρ 23 := m22
  have m23 : γ 4 2 0 6 = ρ 24 := m23
  have m24 : γ 4 2 0 4 = ρ 12 := m24
  have m25 : γ 4 2 0 9 = ρ 23 := m25
  have m26 : γ 5 2 0 6 = ρ 26 := m26
  have m27 : γ 6 10 (9 * ρ 1) 8 = ρ 9 := m27
  have m28 : γ 6 10 (9 * ρ 1) 12 = ρ 10 := m28
  have m29 : γ 6 10 (ρ 2 + 9 * ρ 1 + 1) 4 = 4 := m29
  have m30 : γ 6 10 (ρ 2 + 9 * ρ 1 + 1) 5 = 0 := m30
  have m31 : γ 6 10 (ρ 2 + 9 * ρ 1 + 1) 7 = ρ 23 := m31
  have m32 : γ 6 10 (ρ 2 + 9 * ρ 1 + 1) 8 = (-1) := m32
  have m33 : γ 6 10 (ρ 2 + 9 * ρ 1 + 1) 9 = (-1) := m33
  have m34 : γ 6 10 (ρ 2 + 9 * ρ 1 + 1) 12 = 0 := m34
  have m35 : γ 4 2 0 8 = ρ 27 := m35
  have m36 : γ 7 10 (ρ 2 + 9 * ρ 1 + 1) 5 = ρ 28 := m36
  have m37 : γ 7 2 0 4 = ρ 12 := m37
  have m38 : γ 7 3 0 1 = ρ 29 := m38
  have m39 : γ 8 2 0 6 = ρ 30 := m39
  have m40 : γ 8 10 (ρ 2 + 9 * ρ 1 + 1) 4 = ρ 31 := m40
  have m41 : γ 8 2 0 4 = ρ 12 := m41
  have m42 : γ 9 2 0 6 = ρ 32 := m42
  have m43 : γ 9 10 (ρ 2 + 9 * ρ 1 + 1) 5 = ρ 33 := m43
  have m44 : γ 9 2 0 4 = ρ 34 := m44
  have m45 : γ 9 2 0 9 = ρ 35 := m45
  have m46 : γ 9 3 0 1 = ρ 36 := m46
  obtain ⟨⟨⟨⟨⟨⟨⟨⟨⟨-, c1⟩, c2⟩, c3⟩, c4⟩, c5⟩, c6⟩, c7⟩, c8⟩, c9⟩ := hc
  have c1 : ∀ (G : Nat) (k j : Int), ¬ rMdP m77_ G j → γ 1 G k j = γ 0 G k j := c1
  have c2 : ∀ (G : Nat) (k j : Int), ¬ rMdP m0_ G j → γ 2 G k j = γ 1 G k j := c2
  have c3 : ∀ (G : Nat) (k j : Int), ¬ rMdP m0_ G j → γ 3 G k j = γ 2 G k j := c3
  have c4 : ∀ (G : Nat) (k j : Int), ¬ rMdP m78_ G j → γ 4 G k j = γ 3 G k j := c4
  have c5 : ∀ (G : Nat) (k j : Int), ¬ rMdP m77_ G j → γ 5 G k j = γ 4 G k j := c5
  have c6 : ∀ (G : Nat) (k j : Int), ¬ rMdP m70_ G j → γ 6 G k j = γ 5 G k j := c6
  have c7 : ∀ (G : Nat) (k j : Int), ¬ rMdP m88_ G j → γ 7 G k j = γ 6 G k j := c7
  have c8 : ∀ (G : Nat) (k j : Int), ¬ rMdP m103_ G j → γ 8 G k j = γ 7 G k j := c8
  have c9 : ∀ (G : Nat) (k j : Int), ¬ rMdP m92_ G j → γ 9 G k j = γ 8 G k j := c9
  obtain ⟨l0, l1, l2, l3, l4, l5, l6, l7, l8, l9, l10, -⟩ := hl
  have l0 : sn114 [ρ 3, ρ 4] (γ 0) 0 (ρ 22) (γ 1) := hS114 _ _ _ _ _ l0
  have l1 : ρ 22 ≠ 33 := l1
  have l2 : sn106 [ρ 22] (γ 1) 0 0 (γ 2) := hS106 _ _ _ _ _ l2
  have l3 : sn105 [ρ 22] (γ 2) 0 1 (γ 3) := hS105 _ _ _ _ _ l3
  have l4 : sn115 [ρ 23, ρ 4, ρ 12, ρ 14] (γ 3) 0 1 (γ 4) := hS115 _ _ _ _ _ l4
  have l5 : sn114 [ρ 24, ρ 4] (γ 4) 0 (ρ 25) (γ 5) := hS114 _ _ _ _ _ l5
  have l6 : ρ 25 ≠ 40 := l6
  have l7 : sn103 [4, 0, ρ 23, ρ 0, ρ 1, ρ 2, ρ 9, ρ 10, ρ 5, ρ 18, ρ 19, ρ 7, ρ 20, ρ 21] (γ 5) 0 0 (γ 6) := hS103 _ _ _ _ _ l7
  have l8 : sn135 [ρ 2 + 9 * ρ 1 + 1, ρ 27, ρ 23, ρ 26, ρ 4, 0, ρ 12, ρ 17] (γ 6) 0 1 (γ 7) := hS135 _ _ _ _ _ l8
  have l9 : sn154 [ρ 0, ρ 1, ρ 2, ρ 26, ρ 4, 4, ρ 9, ρ 10, ρ 12] (γ 7) 0 1 (γ 8) := hS154 _ _ _ _ _ l9
  have l10 : sn139 [ρ 2 + 9 * ρ 1 + 1, ρ 30, ρ 4, ρ 28, ρ 12, ρ 13, ρ 23, ρ 15, ρ 29] (γ 8) 0 0 (γ 9) := hS139 _ _ _ _ _ l10
  show sn157 [ρ 0, ρ 1, ρ 2, ρ 3, ρ 4, ρ 5, ρ 6, ρ 7, ρ 8, ρ 9, ρ 10, ρ 11, ρ 12, ρ 13, ρ 14, ρ 15, ρ 16, ρ 17, ρ 18, ρ 19, ρ 20, ρ 21] (γ 0) 0 0 (γ 9)
  refine Eq.symm ?_
  show fn157 [] (γ 0) = _
  unfold fn157
  refine (zLet_eq m0).trans ?_
  refine (zLet_eq m1).trans ?_
  refine (zLet_eq m2).trans ?_
  refine (zLet_eq (show fn114 [] (γ 0) = (0, ρ 22, γ 1) from l0.symm)).trans ?_
  refine (zLet_eq (show _ = γ 1 from rfl)).trans ?_
  refine (if_pos (show (0 : Int) ≤ ρ 22 by omega)).trans ?_
  refine (zLet_eq (show _ = ρ 22 from rfl)).trans ?_
  refine (zLet_eq m22).trans ?_
  refine (if_pos (show ρ 22 ≠ 33 by omega)).trans ?_
  refine (zLet_eq (show fn106 [ρ 22] (γ 1) = (0, 0, γ 2) from l2.symm)).trans ?_
  refine (zLet_eq (show _ = γ 2 from rfl)).trans ?_
  refine (if_neg (show ¬ ((1 : Int) ≤ 0) by omega)).trans ?_
  refine (zLet_eq (show fn105 [ρ 22] (γ 2) = (0, 1, γ 3) from l3.symm)).trans ?_
  refine (zLet_eq (show _ = γ 3 from rfl)).trans ?_
  refine (if_pos (show (1 : Int) ≤ 1 by omega)).trans ?_
  refine (zLet_eq (show fn115 [] (γ 3) = (0, 1, γ 4) from l4.symm)).trans ?_
  refine (zLet_eq (show _ = γ 4 from rfl)).trans ?_
  refine (if_pos (show (1 : Int) ≤ 1 by omega)).trans ?_
  refine (zLet_eq (show fn114 [] (γ 4) = (0, ρ 25, γ 5) from l5.symm)).trans ?_
  refine (zLet_eq (show _ = γ 5 from rfl)).trans ?_
  refine (if_pos (show (0 : Int) ≤ ρ 25 by omega)).trans ?_
  refine (zLet_eq (show _ = ρ 25 from rfl)).trans ?_
  refine (if_pos (show ρ 25 ≠ 40 by omega)).trans ?_
  refine (zLet_eq (show fn103 [4, 0, ρ 23] (γ 5) = (0, 0, γ 6) from l7.symm)).trans ?_
  refine (zLet_eq (show _ = γ 6 from rfl)).trans ?_
  refine (zLet_eq m35).trans ?_
  refine (zLet_eq (show fn135 [ρ 2 + 9 * ρ 1 + 1, ρ 27, ρ 23] (γ 6) = (0, 1, γ 7) from l8.symm)).trans ?_
  refine (zLet_eq (show _ = γ 7 from rfl)).trans ?_
  refine (if_pos (show (1 : Int) ≤ 1 by omega)).trans ?_
  refine (zLet_eq (show fn154 [] (γ 7) = (0, 1, γ 8) from l9.symm)).trans ?_
  refine (zLet_eq (show _ = γ 8 from rfl)).trans ?_
  refine (if_pos (show (1 : Int) ≤ 1 by omega)).trans ?_
  refine (zLet_eq (show fn139 [ρ 2 + 9 * ρ 1 + 1] (γ 8) = (0, 0, γ 9) from l10.symm)).trans ?_
  refine (zLet_eq (show _ = γ 9 from rfl)).trans ?_
  refine (if_neg (show ¬ ((1 : Int) ≤ 0) by omega)).trans ?_
  rfl
theorem vn157_16 {S : Nat → zSpc} (hS103 : ∀ x g o v gz, S 103 x g o v gz → sn103 x g o v gz) (hS104 : ∀ x g o v gz, S 104 x g o v gz → sn104 x g o v gz) (hS105 : ∀ x g o v gz, S 105 x g o v gz → sn105 x g o v gz) (hS106 : ∀ x g o v gz, S 106 x g o v gz → sn106 x g o v gz) (hS107 : ∀ x g o v gz, S 107 x g o v gz → sn107 x g o v gz) (hS109 : ∀ x g o v gz, S 109 x g o v gz → sn109 x g o v gz) (hS114 : ∀ x g o v gz, S 114 x g o v gz → sn114 x g o v gz) (hS115 : ∀ x g o v gz, S 115 x g o v gz → sn115 x g o v gz) (hS116 : ∀ x g o v gz, S 116 x g o v gz → sn116 x g o v gz) (hS135 : ∀ x g o v gz, S 135 x g o v gz → sn135 x g o v gz) (hS139 : ∀ x g o v gz, S 139 x g o v gz → sn139 x g o v gz) (hS145 : ∀ x g o v gz, S 145 x g o v gz → sn145 x g o v gz) (hS154 : ∀ x g o v gz, S 154 x g o v gz → sn154 x g o v gz) (hS155 : ∀ x g o v gz, S 155 x g o v gz → sn155 x g o v gz) (hS156 : ∀ x g o v gz, S 156 x g o v gz → sn156 x g o v gz) {a : List Int} {g : rHp} : ∀ (ρ : Nat → Int) (γ : Nat → rHp), zO 22 S a g q157_16 ρ γ → zGl (fun _ _ _ => True) (sn157 a g) q157_16 ρ γ := by
  intro ρ γ h
  obtain ⟨ha, hg, hr, hf, hm, hc, hl⟩ := h
  have ha : a = [ρ 0, ρ 1, ρ 2, ρ 3, ρ 4, ρ 5, ρ 6, ρ 7, ρ 8, ρ 9, ρ 10, ρ 11, ρ 12, ρ 13, ρ 14, ρ 15, ρ 16, ρ 17, ρ 18, ρ 19, ρ 20, ρ 21] := ha
  subst ha
  subst hg
  obtain ⟨r0, r1, r2, r3, r4, r5, r6, r7, r8, r9, r10, r11, r12, r13, r14, r15, r16, r17, r18, r19, r20, r21, r22, r23, r24, r25, r26, r27, r28, r29, r30, r31, r32, r33, r34, r35, -⟩ := hr
  have r0 : (0 : Int) ≤ ρ 0 ∧ ρ 0 ≤ 60 := r0
  have r1 : (0 : Int) ≤ ρ 1 ∧ ρ 1 ≤ 60 := r1
  have r2 : (0 : Int) ≤ ρ 2 ∧ ρ 2 ≤ 7 := r2
  have r3 : (0 : Int) ≤ ρ 3 ∧ ρ 3 ≤ 2000 := r3
  have r4 : (0 : Int) ≤ ρ 4 ∧ ρ 4 ≤ 2000 := r4
  have r5 : (0 : Int) ≤ ρ 5 ∧ ρ 5 ≤ 8 := r5
  have r6 : ((-1) : Int) ≤ ρ 6 ∧ ρ 6 ≤ 7 := r6
  have r7 : ((-1) : Int) ≤ ρ 7 ∧ ρ 7 ≤ 19 := r7
  have r8 : (0 : Int) ≤ ρ 8 ∧ ρ 8 ≤ 2 := r8
  have r9 : ((-1) : Int) ≤ ρ 9 ∧ ρ 9 ≤ 19 := r9
  have r10 : (0 : Int) ≤ ρ 10 ∧ ρ 10 ≤ 4 := r10
  have r11 : (0 : Int) ≤ ρ 11 ∧ ρ 11 ≤ 20 := r11
  have r12 : ((-2147483648) : Int) ≤ ρ 12 ∧ ρ 12 ≤ 2147483647 := r12
  have r13 : ((-2147483648) : Int) ≤ ρ 13 ∧ ρ 13 ≤ 2147483647 := r13
  have r14 : ((-2147483648) : Int) ≤ ρ 14 ∧ ρ 14 ≤ 2147483647 := r14
  have r15 : (0 : Int) ≤ ρ 15 ∧ ρ 15 ≤ 8 := r15
  have r16 : (0 : Int) ≤ ρ 16 ∧ ρ 16 ≤ 32 := r16
  have r17 : (0 : Int) ≤ ρ 17 ∧ ρ 17 ≤ 5120 := r17
  have r18 : (0 : Int) ≤ ρ 18 ∧ ρ 18 ≤ 4 := r18
  have r19 : ((-2147483648) : Int) ≤ ρ 19 ∧ ρ 19 ≤ 2147483647 := r19
  have r20 : ((-1) : Int) ≤ ρ 20 ∧ ρ 20 ≤ 3 := r20
  have r21 : (0 : Int) ≤ ρ 21 ∧ ρ 21 ≤ 4 := r21
  have r22 : (97 : Int) ≤ ρ 22 ∧ ρ 22 ≤ 122 := r22
  have r23 : (0 : Int) ≤ ρ 23 ∧ ρ 23 ≤ 1999 := r23
  have r24 : (1 : Int) ≤ ρ 24 ∧ ρ 24 ≤ 2000 := r24
  have r25 : (0 : Int) ≤ ρ 25 ∧ ρ 25 ≤ 255 := r25
  have r26 : (0 : Int) ≤ ρ 26 ∧ ρ 26 ≤ 2000 := r26
  have r27 : ((-9223372036854775808) : Int) ≤ ρ 27 ∧ ρ 27 ≤ 9223372036854775807 := r27
  have r28 : (1 : Int) ≤ ρ 28 ∧ ρ 28 ≤ 1 := r28
  have r29 : (1 : Int) ≤ ρ 29 ∧ ρ 29 ≤ 5120 := r29
  have r30 : (1 : Int) ≤ ρ 30 ∧ ρ 30 ≤ 2000 := r30
  have r31 : (3 : Int) ≤ ρ 31 ∧ ρ 31 ≤ 5 := r31
  have r32 : (1 : Int) ≤ ρ 32 ∧ ρ 32 ≤ 2000 := r32
  have r33 : (1 : Int) ≤ ρ 33 ∧ ρ 33 ≤ 4 := r33
  have r34 : ((-2147483648) : Int) ≤ ρ 34 ∧ ρ 34 ≤ 2147483647 := r34
  have r35 : (0 : Int) ≤ ρ 35 ∧ ρ 35 ≤ 5120 := r35
  obtain ⟨f0, f1, f2, f3, f4, f5, f6, f7, f8, f9, f10, f11, f12, f13, f14, -⟩ := hf
  have f0 : (0 : Int) ≤ ρ 32 + -ρ 30 + (-1) := f0
  have f1 : (0 : Int) ≤ ρ 35 + -ρ 29 := f1
  have f2 : (0 : Int) ≤ -ρ 30 + ρ 4 + (-1) := f2
  have f3 : (0 : Int) ≤ -ρ 33 + ρ 28 + 1 := f3
  have f4 : (0 : Int) ≤ ρ 30 + -ρ 26 + (-1) := f4
  have f5 : (0 : Int) ≤ -ρ 30 + ρ 4 := f5
  have f6 : (0 : Int) ≤ -ρ 26 + ρ 4 + (-1) := f6
  have f7 : (0 : Int) ≤ ρ 29 + -ρ 17 := f7
  have f8 : (0 : Int) ≤ ρ 26 + -ρ 24 := f8
  have f9 : (0 : Int) ≤ -ρ 24 + ρ 4 + (-1) := f9
  have f10 : (0 : Int) ≤ -ρ 23 + ρ 4 + (-1) := f10
  have f11 : (0 : Int) ≤ ρ 24 + -ρ 23 + (-1) := f11
  have f12 : (0 : Int) ≤ -ρ 24 + ρ 4 := f12
  have f13 : (0 : Int) ≤ ρ 23 + -ρ 3 := f13
  have f14 : (0 : Int) ≤ ρ 4 + -ρ 3 + (-1) := f14
  obtain ⟨m0, m1, m2, m3, m4, m5, m6, m7, m8, m9, m10, m11, m12, m13, m14, m15, m16, m17, m18, m19, m20, m21, m22, m23, m24, m25, m26, m27, m28, m29, m30, m31, m32, m33, m34, m35, m36, m37, m38, m39, m40, m41, m42, m43, m44, m45, m46, -⟩ := hm
  have m0 : γ 0 1 0 10 = ρ 0 := m0
  have m1 : γ 0 40 0 (ρ 0) = ρ 1 := m1
  have m2 : γ 0 9 (ρ 1) 2 = ρ 2 := m2
  have m3 : γ 0 2 0 6 = ρ 3 := m3
  have m4 : γ 0 2 0 3 = ρ 4 := m4
  have m5 : γ 0 10 (ρ 2 + 9 * ρ 1 + 1) 4 = ρ 5 := m5
  have m6 : γ 0 10 (ρ 2 + 9 * ρ 1 + 1) 11 = ρ 6 := m6
  have m7 : γ 0 10 (ρ 2 + 9 * ρ 1 + 1) 8 = ρ 7 := m7
  have m8 : γ 0 2 0 7 = ρ 8 := m8
  have m9 : γ 0 10 (9 * ρ 1) 8 = ρ 9 := m9
  have m10 : γ 0 10 (9 * ρ 1) 12 = ρ 10 := m10
  have m11 : γ 0 1 0 7 = ρ 11 := m11
  have m12 : γ 0 2 0 4 = ρ 12 := m12
  have m13 : γ 0 2 0 5 = ρ 13 := m13
  have m14 : γ 0 2 0 9 = ρ 14 := m14
  have m15 : γ 0 2 0 13 = ρ 15 := m15
  have m16 : γ 0 2 0 16 = ρ 16 := m16
  have m17 : γ 0 3 0 1 = ρ 17 := m17
  have m18 : γ 0 10 (ρ 2 + 9 * ρ 1 + 1) 5 = ρ 18 := m18
  have m19 : γ 0 10 (ρ 2 + 9 * ρ 1 + 1) 7 = ρ 19 := m19
  have m20 : γ 0 10 (ρ 2 + 9 * ρ 1 + 1) 9 = ρ 20 := m20
  have m21 : γ 0 10 (ρ 2 + 9 * ρ 1 + 1) 12 = ρ 21 := m21
  have m22 : γ 1 2 0 6 = ρ 23 := m22
  have m23 : γ 4 2 0 6 = ρ 24 := m23
  have m24 : γ 4 2 0 4 = ρ 12 := m24
  have m25 : γ 4 2 0 9 = ρ 23 := m25
  have m26 : γ 5 2 0 6 = ρ 26 := m26
  have m27 : γ 6 10 (9 * ρ 1) 8 = ρ 9 := m27
  have m28 : γ 6 10 (9 * ρ 1) 12 = ρ 10 := m28
  have m29 : γ 6 10 (ρ 2 + 9 * ρ 1 + 1) 4 = 4 := m29
  have m30 : γ 6 10 (ρ 2 + 9 * ρ 1 + 1) 5 = 0 := m30
  have m31 : γ 6 10 (ρ 2 + 9 * ρ 1 + 1) 7 = ρ 23 := m31
  have m32 : γ 6 10 (ρ 2 + 9 * ρ 1 + 1) 8 = (-1) := m32
  have m33 : γ 6 10 (ρ 2 + 9 * ρ 1 + 1) 9 = (-1) := m33
  have m34 : γ 6 10 (ρ 2 + 9 * ρ 1 + 1) 12 = 0 := m34
  have m35 : γ 4 2 0 8 = ρ 27 := m35
  have m36 : γ 7 10 (ρ 2 + 9 * ρ 1 + 1) 5 = ρ 28 := m36
  have m37 : γ 7 2 0 4 = ρ 12 := m37
  have m38 : γ 7 3 0 1 = ρ 29 := m38
  have m39 : γ 8 2 0 6 = ρ 30 := m39
  have m40 : γ 8 10 (ρ 2 + 9 * ρ 1 + 1) 4 = ρ 31 := m40
  have m41 : γ 8 2 0 4 = ρ 12 := m41
  have m42 : γ 9 2 0 6 = ρ 32 := m42
  have m43 : γ 9 10 (ρ 2 + 9 * ρ 1 + 1) 5 = ρ 33 := m43
  have m44 : γ 9 2 0 4 = ρ 12 := m44
  have m45 : γ 9 2 0 9 = ρ 34 := m45
  have m46 : γ 9 3 0 1 = ρ 35 := m46
  obtain ⟨⟨⟨⟨⟨⟨⟨⟨⟨-, c1⟩, c2⟩, c3⟩, c4⟩, c5⟩, c6⟩, c7⟩, c8⟩, c9⟩ := hc
  have c1 : ∀ (G : Nat) (k j : Int), ¬ rMdP m77_ G j → γ 1 G k j = γ 0 G k j := c1
  have c2 : ∀ (G : Nat) (k j : Int), ¬ rMdP m0_ G j → γ 2 G k j = γ 1 G k j := c2
  have c3 : ∀ (G : Nat) (k j : Int), ¬ rMdP m0_ G j → γ 3 G k j = γ 2 G k j := c3
  have c4 : ∀ (G : Nat) (k j : Int), ¬ rMdP m78_ G j → γ 4 G k j = γ 3 G k j := c4
  have c5 : ∀ (G : Nat) (k j : Int), ¬ rMdP m77_ G j → γ 5 G k j = γ 4 G k j := c5
  have c6 : ∀ (G : Nat) (k j : Int), ¬ rMdP m70_ G j → γ 6 G k j = γ 5 G k j := c6
  have c7 : ∀ (G : Nat) (k j : Int), ¬ rMdP m88_ G j → γ 7 G k j = γ 6 G k j := c7
  have c8 : ∀ (G : Nat) (k j : Int), ¬ rMdP m103_ G j → γ 8 G k j = γ 7 G k j := c8
  have c9 : ∀ (G : Nat) (k j : Int), ¬ rMdP m92_ G j → γ 9 G k j = γ 8 G k j := c9
  obtain ⟨l0, l1, l2, l3, l4, l5, l6, l7, l8, l9, l10, -⟩ := hl
  have l0 : sn114 [ρ 3, ρ 4] (γ 0) 0 (ρ 22) (γ 1) := hS114 _ _ _ _ _ l0
  have l1 : ρ 22 ≠ 33 := l1
  have l2 : sn106 [ρ 22] (γ 1) 0 0 (γ 2) := hS106 _ _ _ _ _ l2
  have l3 : sn105 [ρ 22] (γ 2) 0 1 (γ 3) := hS105 _ _ _ _ _ l3
  have l4 : sn115 [ρ 23, ρ 4, ρ 12, ρ 14] (γ 3) 0 1 (γ 4) := hS115 _ _ _ _ _ l4
  have l5 : sn114 [ρ 24, ρ 4] (γ 4) 0 (ρ 25) (γ 5) := hS114 _ _ _ _ _ l5
  have l6 : ρ 25 ≠ 40 := l6
  have l7 : sn103 [4, 0, ρ 23, ρ 0, ρ 1, ρ 2, ρ 9, ρ 10, ρ 5, ρ 18, ρ 19, ρ 7, ρ 20, ρ 21] (γ 5) 0 0 (γ 6) := hS103 _ _ _ _ _ l7
  have l8 : sn135 [ρ 2 + 9 * ρ 1 + 1, ρ 27, ρ 23, ρ 26, ρ 4, 0, ρ 12, ρ 17] (γ 6) 0 1 (γ 7) := hS135 _ _ _ _ _ l8
  have l9 : sn154 [ρ 0, ρ 1, ρ 2, ρ 26, ρ 4, 4, ρ 9, ρ 10, ρ 12] (γ 7) 0 1 (γ 8) := hS154 _ _ _ _ _ l9
  have l10 : sn139 [ρ 2 + 9 * ρ 1 + 1, ρ 30, ρ 4, ρ 28, ρ 12, ρ 13, ρ 23, ρ 15, ρ 29] (γ 8) 0 1 (γ 9) := hS139 _ _ _ _ _ l10
  show sn157 [ρ 0, ρ 1, ρ 2, ρ 3, ρ 4, ρ 5, ρ 6, ρ 7, ρ 8, ρ 9, ρ 10, ρ 11, ρ 12, ρ 13, ρ 14, ρ 15, ρ 16, ρ 17, ρ 18, ρ 19, ρ 20, ρ 21] (γ 0) 0 1 (γ 9)
  refine Eq.symm ?_
  show fn157 [] (γ 0) = _
  unfold fn157
  refine (zLet_eq m0).trans ?_
  refine (zLet_eq m1).trans ?_
  refine (zLet_eq m2).trans ?_
  refine (zLet_eq (show fn114 [] (γ 0) = (0, ρ 22, γ 1) from l0.symm)).trans ?_
  refine (zLet_eq (show _ = γ 1 from rfl)).trans ?_
  refine (if_pos (show (0 : Int) ≤ ρ 22 by omega)).trans ?_
  refine (zLet_eq (show _ = ρ 22 from rfl)).trans ?_
  refine (zLet_eq m22).trans ?_
  refine (if_pos (show ρ 22 ≠ 33 by omega)).trans ?_
  refine (zLet_eq (show fn106 [ρ 22] (γ 1) = (0, 0, γ 2) from l2.symm)).trans ?_
  refine (zLet_eq (show _ = γ 2 from rfl)).trans ?_
  refine (if_neg (show ¬ ((1 : Int) ≤ 0) by omega)).trans ?_
  refine (zLet_eq (show fn105 [ρ 22] (γ 2) = (0, 1, γ 3) from l3.symm)).trans ?_
  refine (zLet_eq (show _ = γ 3 from rfl)).trans ?_
  refine (if_pos (show (1 : Int) ≤ 1 by omega)).trans ?_
  refine (zLet_eq (show fn115 [] (γ 3) = (0, 1, γ 4) from l4.symm)).trans ?_
  refine (zLet_eq (show _ = γ 4 from rfl)).trans ?_
  refine (if_pos (show (1 : Int) ≤ 1 by omega)).trans ?_
  refine (zLet_eq (show fn114 [] (γ 4) = (0, ρ 25, γ 5) from l5.symm)).trans ?_
  refine (zLet_eq (show _ = γ 5 from rfl)).trans ?_
  refine (if_pos (show (0 : Int) ≤ ρ 25 by omega)).trans ?_
  refine (zLet_eq (show _ = ρ 25 from rfl)).trans ?_
  refine (if_pos (show ρ 25 ≠ 40 by omega)).trans ?_
  refine (zLet_eq (show fn103 [4, 0, ρ 23] (γ 5) = (0, 0, γ 6) from l7.symm)).trans ?_
  refine (zLet_eq (show _ = γ 6 from rfl)).trans ?_
  refine (zLet_eq m35).trans ?_
  refine (zLet_eq (show fn135 [ρ 2 + 9 * ρ 1 + 1, ρ 27, ρ 23] (γ 6) = (0, 1, γ 7) from l8.symm)).trans ?_
  refine (zLet_eq (show _ = γ 7 from rfl)).trans ?_
  refine (if_pos (show (1 : Int) ≤ 1 by omega)).trans ?_
  refine (zLet_eq (show fn154 [] (γ 7) = (0, 1, γ 8) from l9.symm)).trans ?_
  refine (zLet_eq (show _ = γ 8 from rfl)).trans ?_
  refine (if_pos (show (1 : Int) ≤ 1 by omega)).trans ?_
  refine (zLet_eq (show fn139 [ρ 2 + 9 * ρ 1 + 1] (γ 8) = (0, 1, γ 9) from l10.symm)).trans ?_
  refine (zLet_eq (show _ = γ 9 from rfl)).trans ?_
  refine (if_pos (show (1 : Int) ≤ 1 by omega)).trans ?_
  rfl
theorem vn157_17 {S : Nat → zSpc} (hS103 : ∀ x g o v gz, S 103 x g o v gz → sn103 x g o v gz) (hS104 : ∀ x g o v gz, S 104 x g o v gz → sn104 x g o v gz) (hS105 : ∀ x g o v gz, S 105 x g o v gz → sn105 x g o v gz) (hS106 : ∀ x g o v gz, S 106 x g o v gz → sn106 x g o v gz) (hS107 : ∀ x g o v gz, S 107 x g o v gz → sn107 x g o v gz) (hS109 : ∀ x g o v gz, S 109 x g o v gz → sn109 x g o v gz) (hS114 : ∀ x g o v gz, S 114 x g o v gz → sn114 x g o v gz) (hS115 : ∀ x g o v gz, S 115 x g o v gz → sn115 x g o v gz) (hS116 : ∀ x g o v gz, S 116 x g o v gz → sn116 x g o v gz) (hS135 : ∀ x g o v gz, S 135 x g o v gz → sn135 x g o v gz) (hS139 : ∀ x g o v gz, S 139 x g o v gz → sn139 x g o v gz) (hS145 : ∀ x g o v gz, S 145 x g o v gz → sn145 x g o v gz) (hS154 : ∀ x g o v gz, S 154 x g o v gz → sn154 x g o v gz) (hS155 : ∀ x g o v gz, S 155 x g o v gz → sn155 x g o v gz) (hS156 : ∀ x g o v gz, S 156 x g o v gz → sn156 x g o v gz) {a : List Int} {g : rHp} : ∀ (ρ : Nat → Int) (γ : Nat → rHp), zO 22 S a g q157_17 ρ γ → zGl (fun _ _ _ => True) (sn157 a g) q157_17 ρ γ := by
  intro ρ γ h
  obtain ⟨ha, hg, hr, hf, hm, hc, hl⟩ := h
  have ha : a = [ρ 0, ρ 1, ρ 2, ρ 3, ρ 4, ρ 5, ρ 6, ρ 7, ρ 8, ρ 9, ρ 10, ρ 11, ρ 12, ρ 13, ρ 14, ρ 15, ρ 16, ρ 17, ρ 18, ρ 19, ρ 20, ρ 21] := ha
  subst ha
  subst hg
  obtain ⟨r0, r1, r2, r3, r4, r5, r6, r7, r8, r9, r10, r11, r12, r13, r14, r15, r16, r17, r18, r19, r20, r21, r22, r23, r24, r25, r26, r27, r28, r29, r30, r31, r32, r33, r34, r35, r36, r37, r38, -⟩ := hr
  have r0 : (0 : Int) ≤ ρ 0 ∧ ρ 0 ≤ 60 := r0
  have r1 : (0 : Int) ≤ ρ 1 ∧ ρ 1 ≤ 60 := r1
  have r2 : (0 : Int) ≤ ρ 2 ∧ ρ 2 ≤ 7 := r2
  have r3 : (0 : Int) ≤ ρ 3 ∧ ρ 3 ≤ 2000 := r3
  have r4 : (0 : Int) ≤ ρ 4 ∧ ρ 4 ≤ 2000 := r4
  have r5 : (0 : Int) ≤ ρ 5 ∧ ρ 5 ≤ 8 := r5
  have r6 : ((-1) : Int) ≤ ρ 6 ∧ ρ 6 ≤ 7 := r6
  have r7 : ((-1) : Int) ≤ ρ 7 ∧ ρ 7 ≤ 19 := r7
  have r8 : (0 : Int) ≤ ρ 8 ∧ ρ 8 ≤ 2 := r8
  have r9 : ((-1) : Int) ≤ ρ 9 ∧ ρ 9 ≤ 19 := r9
  have r10 : (0 : Int) ≤ ρ 10 ∧ ρ 10 ≤ 4 := r10
  have r11 : (0 : Int) ≤ ρ 11 ∧ ρ 11 ≤ 20 := r11
  have r12 : ((-2147483648) : Int) ≤ ρ 12 ∧ ρ 12 ≤ 2147483647 := r12
  have r13 : ((-2147483648) : Int) ≤ ρ 13 ∧ ρ 13 ≤ 2147483647 := r13
  have r14 : ((-2147483648) : Int) ≤ ρ 14 ∧ ρ 14 ≤ 2147483647 := r14
  have r15 : (0 : Int) ≤ ρ 15 ∧ ρ 15 ≤ 8 := r15
  have r16 : (0 : Int) ≤ ρ 16 ∧ ρ 16 ≤ 32 := r16
  have r17 : (0 : Int) ≤ ρ 17 ∧ ρ 17 ≤ 5120 := r17
  have r18 : (0 : Int) ≤ ρ 18 ∧ ρ 18 ≤ 4 := r18
  have r19 : ((-2147483648) : Int) ≤ ρ 19 ∧ ρ 19 ≤ 2147483647 := r19
  have r20 : ((-1) : Int) ≤ ρ 20 ∧ ρ 20 ≤ 3 := r20
  have r21 : (0 : Int) ≤ ρ 21 ∧ ρ 21 ≤ 4 := r21
  have r22 : (97 : Int) ≤ ρ 22 ∧ ρ 22 ≤ 122 := r22
  have r23 : (0 : Int) ≤ ρ 23 ∧ ρ 23 ≤ 1999 := r23
  have r24 : (1 : Int) ≤ ρ 24 ∧ ρ 24 ≤ 2000 := r24
  have r25 : (40 : Int) ≤ ρ 25 ∧ ρ 25 ≤ 40 := r25
  have r26 : (0 : Int) ≤ ρ 26 ∧ ρ 26 ≤ 2000 := r26
  have r27 : (0 : Int) ≤ ρ 27 ∧ ρ 27 ≤ 2000 := r27
  have r28 : (0 : Int) ≤ ρ 28 ∧ ρ 28 ≤ 4 := r28
  have r29 : ((-1) : Int) ≤ ρ 29 ∧ ρ 29 ≤ (-1) := r29
  have r30 : (0 : Int) ≤ ρ 30 ∧ ρ 30 ≤ 20 := r30
  have r31 : ((-2147483648) : Int) ≤ ρ 31 ∧ ρ 31 ≤ 2147483647 := r31
  have r32 : ((-2147483648) : Int) ≤ ρ 32 ∧ ρ 32 ≤ 2147483647 := r32
  have r33 : ((-2147483648) : Int) ≤ ρ 33 ∧ ρ 33 ≤ 2147483647 := r33
  have r34 : (0 : Int) ≤ ρ 34 ∧ ρ 34 ≤ 8 := r34
  have r35 : (0 : Int) ≤ ρ 35 ∧ ρ 35 ≤ 32 := r35
  have r36 : (0 : Int) ≤ ρ 36 ∧ ρ 36 ≤ 5120 := r36
  have r37 : ((-1) : Int) ≤ ρ 37 ∧ ρ 37 ≤ 3 := r37
  have r38 : (0 : Int) ≤ ρ 38 ∧ ρ 38 ≤ 0 := r38
  obtain ⟨f0, f1, f2, f3, f4, f5, f6, f7, f8, f9, f10, f11, f12, f13, f14, f15, f16, -⟩ := hf
  have f0 : (0 : Int) ≤ -ρ 28 + ρ 27 := f0
  have f1 : (0 : Int) ≤ -ρ 37 + ρ 27 + (-1) := f1
  have f2 : (0 : Int) ≤ ρ 27 + -ρ 26 := f2
  have f3 : (0 : Int) ≤ ρ 30 + -ρ 11 := f3
  have f4 : (0 : Int) ≤ ρ 34 + -ρ 15 := f4
  have f5 : (0 : Int) ≤ ρ 35 + -ρ 16 := f5
  have f6 : (0 : Int) ≤ ρ 36 + -ρ 17 := f6
  have f7 : (0 : Int) ≤ -ρ 28 + ρ 4 := f7
  have f8 : (0 : Int) ≤ -ρ 37 + ρ 4 + (-1) := f8
  have f9 : (0 : Int) ≤ ρ 26 + -ρ 24 := f9
  have f10 : (0 : Int) ≤ -ρ 26 + ρ 4 + (-1) := f10
  have f11 : (0 : Int) ≤ -ρ 24 + ρ 4 + (-1) := f11
  have f12 : (0 : Int) ≤ -ρ 23 + ρ 4 + (-1) := f12
  have f13 : (0 : Int) ≤ ρ 24 + -ρ 23 + (-1) := f13
  have f14 : (0 : Int) ≤ -ρ 24 + ρ 4 := f14
  have f15 : (0 : Int) ≤ ρ 23 + -ρ 3 := f15
  have f16 : (0 : Int) ≤ ρ 4 + -ρ 3 + (-1) := f16
  obtain ⟨m0, m1, m2, m3, m4, m5, m6, m7, m8, m9, m10, m11, m12, m13, m14, m15, m16, m17, m18, m19, m20, m21, m22, m23, m24, m25, m26, m27, m28, m29, m30, m31, m32, m33, m34, m35, m36, m37, m38, m39, m40, m41, m42, -⟩ := hm
  have m0 : γ 0 1 0 10 = ρ 0 := m0
  have m1 : γ 0 40 0 (ρ 0) = ρ 1 := m1
  have m2 : γ 0 9 (ρ 1) 2 = ρ 2 := m2
  have m3 : γ 0 2 0 6 = ρ 3 := m3
  have m4 : γ 0 2 0 3 = ρ 4 := m4
  have m5 : γ 0 10 (ρ 2 + 9 * ρ 1 + 1) 4 = ρ 5 := m5
  have m6 : γ 0 10 (ρ 2 + 9 * ρ 1 + 1) 11 = ρ 6 := m6
  have m7 : γ 0 10 (ρ 2 + 9 * ρ 1 + 1) 8 = ρ 7 := m7
  have m8 : γ 0 2 0 7 = ρ 8 := m8
  have m9 : γ 0 10 (9 * ρ 1) 8 = ρ 9 := m9
  have m10 : γ 0 10 (9 * ρ 1) 12 = ρ 10 := m10
  have m11 : γ 0 1 0 7 = ρ 11 := m11
  have m12 : γ 0 2 0 4 = ρ 12 := m12
  have m13 : γ 0 2 0 5 = ρ 13 := m13
  have m14 : γ 0 2 0 9 = ρ 14 := m14
  have m15 : γ 0 2 0 13 = ρ 15 := m15
  have m16 : γ 0 2 0 16 = ρ 16 := m16
  have m17 : γ 0 3 0 1 = ρ 17 := m17
  have m18 : γ 0 10 (ρ 2 + 9 * ρ 1 + 1) 5 = ρ 18 := m18
  have m19 : γ 0 10 (ρ 2 + 9 * ρ 1 + 1) 7 = ρ 19 := m19
  have m20 : γ 0 10 (ρ 2 + 9 * ρ 1 + 1) 9 = ρ 20 := m20
  have m21 : γ 0 10 (ρ 2 + 9 * ρ 1 + 1) 12 = ρ 21 := m21
  have m22 : γ 1 2 0 6 = ρ 23 := m22
  have m23 : γ 4 2 0 6 = ρ 24 := m23
  have m24 : γ 4 2 0 4 = ρ 12 := m24
  have m25 : γ 4 2 0 9 = ρ 23 := m25
  have m26 : γ 5 2 0 6 = ρ 26 := m26
  have m27 : γ 6 2 0 6 = ρ 27 := m27
  have m28 : γ 6 10 (ρ 2 + 9 * ρ 1 + 1) 5 = ρ 28 := m28
  have m29 : γ 6 10 (ρ 2 + 9 * ρ 1 + 1) 4 = 1 := m29
  have m30 : γ 6 10 (ρ 2 + 9 * ρ 1 + 1) 8 = ρ 29 := m30
  have m31 : γ 6 10 (9 * ρ 1) 8 = ρ 9 := m31
  have m32 : γ 6 10 (9 * ρ 1) 12 = ρ 10 := m32
  have m33 : γ 6 1 0 7 = ρ 30 := m33
  have m34 : γ 6 2 0 4 = ρ 31 := m34
  have m35 : γ 6 2 0 5 = ρ 32 := m35
  have m36 : γ 6 2 0 9 = ρ 33 := m36
  have m37 : γ 6 2 0 13 = ρ 34 := m37
  have m38 : γ 6 2 0 16 = ρ 35 := m38
  have m39 : γ 6 3 0 1 = ρ 36 := m39
  have m40 : γ 6 10 (ρ 2 + 9 * ρ 1 + 1) 7 = ρ 23 := m40
  have m41 : γ 6 10 (ρ 2 + 9 * ρ 1 + 1) 9 = ρ 37 := m41
  have m42 : γ 6 10 (ρ 2 + 9 * ρ 1 + 1) 12 = ρ 38 := m42
  obtain ⟨⟨⟨⟨⟨⟨-, c1⟩, c2⟩, c3⟩, c4⟩, c5⟩, c6⟩ := hc
  have c1 : ∀ (G : Nat) (k j : Int), ¬ rMdP m77_ G j → γ 1 G k j = γ 0 G k j := c1
  have c2 : ∀ (G : Nat) (k j : Int), ¬ rMdP m0_ G j → γ 2 G k j = γ 1 G k j := c2
  have c3 : ∀ (G : Nat) (k j : Int), ¬ rMdP m0_ G j → γ 3 G k j = γ 2 G k j := c3
  have c4 : ∀ (G : Nat) (k j : Int), ¬ rMdP m78_ G j → γ 4 G k j = γ 3 G k j := c4
  have c5 : ∀ (G : Nat) (k j : Int), ¬ rMdP m77_ G j → γ 5 G k j = γ 4 G k j := c5
  have c6 : ∀ (G : Nat) (k j : Int), ¬ rMdP m98_ G j → γ 6 G k j = γ 5 G k j := c6
  obtain ⟨l0, l1, l2, l3, l4, l5, l6, -⟩ := hl
  have l0 : sn114 [ρ 3, ρ 4] (γ 0) 0 (ρ 22) (γ 1) := hS114 _ _ _ _ _ l0
  have l1 : ρ 22 ≠ 33 := l1
  have l2 : sn106 [ρ 22] (γ 1) 0 0 (γ 2) := hS106 _ _ _ _ _ l2
  have l3 : sn105 [ρ 22] (γ 2) 0 1 (γ 3) := hS105 _ _ _ _ _ l3
  have l4 : sn115 [ρ 23, ρ 4, ρ 12, ρ 14] (γ 3) 0 1 (γ 4) := hS115 _ _ _ _ _ l4
  have l5 : sn114 [ρ 24, ρ 4] (γ 4) 0 (ρ 25) (γ 5) := hS114 _ _ _ _ _ l5
  have l6 : sn145 [1, ρ 0, ρ 1, ρ 2, ρ 26, ρ 4, ρ 18, ρ 5, ρ 8, ρ 7, ρ 9, ρ 10, ρ 11, ρ 12, ρ 13, ρ 23, ρ 15, ρ 16, ρ 17, ρ 19, ρ 20, ρ 21] (γ 5) 0 0 (γ 6) := hS145 _ _ _ _ _ l6
  show sn157 [ρ 0, ρ 1, ρ 2, ρ 3, ρ 4, ρ 5, ρ 6, ρ 7, ρ 8, ρ 9, ρ 10, ρ 11, ρ 12, ρ 13, ρ 14, ρ 15, ρ 16, ρ 17, ρ 18, ρ 19, ρ 20, ρ 21] (γ 0) 0 0 (γ 6)
  refine Eq.symm ?_
  show fn157 [] (γ 0) = _
  unfold fn157
  refine (zLet_eq m0).trans ?_
  refine (zLet_eq m1).trans ?_
  refine (zLet_eq m2).trans ?_
  refine (zLet_eq (show fn114 [] (γ 0) = (0, ρ 22, γ 1) from l0.symm)).trans ?_
  refine (zLet_eq (show _ = γ 1 from rfl)).trans ?_
  refine (if_pos (show (0 : Int) ≤ ρ 22 by omega)).trans ?_
  refine (zLet_eq (show _ = ρ 22 from rfl)).trans ?_
  refine (zLet_eq m22).trans ?_
  refine (if_pos (show ρ 22 ≠ 33 by omega)).trans ?_
  refine (zLet_eq (show fn106 [ρ 22] (γ 1) = (0, 0, γ 2) from l2.symm)).trans ?_
  refine (zLet_eq (show _ = γ 2 from rfl)).trans ?_
  refine (if_neg (show ¬ ((1 : Int) ≤ 0) by omega)).trans ?_
  refine (zLet_eq (show fn105 [ρ 22] (γ 2) = (0, 1, γ 3) from l3.symm)).trans ?_
  refine (zLet_eq (show _ = γ 3 from rfl)).trans ?_
  refine (if_pos (show (1 : Int) ≤ 1 by omega)).trans ?_
  refine (zLet_eq (show fn115 [] (γ 3) = (0, 1, γ 4) from l4.symm)).trans ?_
  refine (zLet_eq (show _ = γ 4 from rfl)).trans ?_
  refine (if_pos (show (1 : Int) ≤ 1 by omega)).trans ?_
  refine (zLet_eq (show fn114 [] (γ 4) = (0, ρ 25, γ 5) from l5.symm)).trans ?_
  refine (zLet_eq (show _ = γ 5 from rfl)).trans ?_
  refine (if_pos (show (0 : Int) ≤ ρ 25 by omega)).trans ?_
  refine (zLet_eq (show _ = ρ 25 from rfl)).trans ?_
  refine (if_neg (show ¬ (ρ 25 ≠ 40) by omega)).trans ?_
  refine (zLet_eq (show fn145 [1] (γ 5) = (0, 0, γ 6) from l6.symm)).trans ?_
  refine (zLet_eq (show _ = γ 6 from rfl)).trans ?_
  refine (if_neg (show ¬ ((1 : Int) ≤ 0) by omega)).trans ?_
  rfl
theorem vn157_18 {S : Nat → zSpc} (hS103 : ∀ x g o v gz, S 103 x g o v gz → sn103 x g o v gz) (hS104 : ∀ x g o v gz, S 104 x g o v gz → sn104 x g o v gz) (hS105 : ∀ x g o v gz, S 105 x g o v gz → sn105 x g o v gz) (hS106 : ∀ x g o v gz, S 106 x g o v gz → sn106 x g o v gz) (hS107 : ∀ x g o v gz, S 107 x g o v gz → sn107 x g o v gz) (hS109 : ∀ x g o v gz, S 109 x g o v gz → sn109 x g o v gz) (hS114 : ∀ x g o v gz, S 114 x g o v gz → sn114 x g o v gz) (hS115 : ∀ x g o v gz, S 115 x g o v gz → sn115 x g o v gz) (hS116 : ∀ x g o v gz, S 116 x g o v gz → sn116 x g o v gz) (hS135 : ∀ x g o v gz, S 135 x g o v gz → sn135 x g o v gz) (hS139 : ∀ x g o v gz, S 139 x g o v gz → sn139 x g o v gz) (hS145 : ∀ x g o v gz, S 145 x g o v gz → sn145 x g o v gz) (hS154 : ∀ x g o v gz, S 154 x g o v gz → sn154 x g o v gz) (hS155 : ∀ x g o v gz, S 155 x g o v gz → sn155 x g o v gz) (hS156 : ∀ x g o v gz, S 156 x g o v gz → sn156 x g o v gz) {a : List Int} {g : rHp} : ∀ (ρ : Nat → Int) (γ : Nat → rHp), zO 22 S a g q157_18 ρ γ → zGl (fun _ _ _ => True) (sn157 a g) q157_18 ρ γ := by
  intro ρ γ h
  obtain ⟨ha, hg, hr, hf, hm, hc, hl⟩ := h
  have ha : a = [ρ 0, ρ 1, ρ 2, ρ 3, ρ 4, ρ 5, ρ 6, ρ 7, ρ 8, ρ 9, ρ 10, ρ 11, ρ 12, ρ 13, ρ 14, ρ 15, ρ 16, ρ 17, ρ 18, ρ 19, ρ 20, ρ 21] := ha
  subst ha
  subst hg
  obtain ⟨r0, r1, r2, r3, r4, r5, r6, r7, r8, r9, r10, r11, r12, r13, r14, r15, r16, r17, r18, r19, r20, r21, r22, r23, r24, r25, r26, r27, r28, r29, r30, r31, r32, r33, r34, r35, r36, -⟩ := hr
  have r0 : (0 : Int) ≤ ρ 0 ∧ ρ 0 ≤ 60 := r0
  have r1 : (0 : Int) ≤ ρ 1 ∧ ρ 1 ≤ 60 := r1
  have r2 : (0 : Int) ≤ ρ 2 ∧ ρ 2 ≤ 7 := r2
  have r3 : (0 : Int) ≤ ρ 3 ∧ ρ 3 ≤ 2000 := r3
  have r4 : (2 : Int) ≤ ρ 4 ∧ ρ 4 ≤ 2000 := r4
  have r5 : (0 : Int) ≤ ρ 5 ∧ ρ 5 ≤ 8 := r5
  have r6 : ((-1) : Int) ≤ ρ 6 ∧ ρ 6 ≤ 7 := r6
  have r7 : ((-1) : Int) ≤ ρ 7 ∧ ρ 7 ≤ 19 := r7
  have r8 : (1 : Int) ≤ ρ 8 ∧ ρ 8 ≤ 1 := r8
  have r9 : ((-1) : Int) ≤ ρ 9 ∧ ρ 9 ≤ 19 := r9
  have r10 : (0 : Int) ≤ ρ 10 ∧ ρ 10 ≤ 4 := r10
  have r11 : (0 : Int) ≤ ρ 11 ∧ ρ 11 ≤ 20 := r11
  have r12 : ((-2147483648) : Int) ≤ ρ 12 ∧ ρ 12 ≤ 2147483647 := r12
  have r13 : ((-2147483648) : Int) ≤ ρ 13 ∧ ρ 13 ≤ 2147483647 := r13
  have r14 : ((-2147483648) : Int) ≤ ρ 14 ∧ ρ 14 ≤ 2147483647 := r14
  have r15 : (0 : Int) ≤ ρ 15 ∧ ρ 15 ≤ 8 := r15
  have r16 : (0 : Int) ≤ ρ 16 ∧ ρ 16 ≤ 32 := r16
  have r17 : (0 : Int) ≤ ρ 17 ∧ ρ 17 ≤ 5120 := r17
  have r18 : (0 : Int) ≤ ρ 18 ∧ ρ 18 ≤ 4 := r18
  have r19 : ((-2147483648) : Int) ≤ ρ 19 ∧ ρ 19 ≤ 2147483647 := r19
  have r20 : ((-1) : Int) ≤ ρ 20 ∧ ρ 20 ≤ 3 := r20
  have r21 : (0 : Int) ≤ ρ 21 ∧ ρ 21 ≤ 4 := r21
  have r22 : (97 : Int) ≤ ρ 22 ∧ ρ 22 ≤ 122 := r22
  have r23 : (0 : Int) ≤ ρ 23 ∧ ρ 23 ≤ 1999 := r23
  have r24 : (1 : Int) ≤ ρ 24 ∧ ρ 24 ≤ 2000 := r24
  have r25 : (40 : Int) ≤ ρ 25 ∧ ρ 25 ≤ 40 := r25
  have r26 : (0 : Int) ≤ ρ 26 ∧ ρ 26 ≤ 2000 := r26
  have r27 : (3 : Int) ≤ ρ 27 ∧ ρ 27 ≤ 2000 := r27
  have r28 : (1 : Int) ≤ ρ 28 ∧ ρ 28 ≤ 4 := r28
  have r29 : ((-1) : Int) ≤ ρ 29 ∧ ρ 29 ≤ (-1) := r29
  have r30 : ((-2147483648) : Int) ≤ ρ 30 ∧ ρ 30 ≤ 2147483647 := r30
  have r31 : ((-2147483648) : Int) ≤ ρ 31 ∧ ρ 31 ≤ 2147483647 := r31
  have r32 : (0 : Int) ≤ ρ 32 ∧ ρ 32 ≤ 8 := r32
  have r33 : (0 : Int) ≤ ρ 33 ∧ ρ 33 ≤ 32 := r33
  have r34 : (0 : Int) ≤ ρ 34 ∧ ρ 34 ≤ 5120 := r34
  have r35 : ((-1) : Int) ≤ ρ 35 ∧ ρ 35 ≤ 3 := r35
  have r36 : (0 : Int) ≤ ρ 36 ∧ ρ 36 ≤ 0 := r36
  obtain ⟨f0, f1, f2, f3, f4, f5, f6, f7, f8, f9, f10, f11, f12, f13, f14, f15, -⟩ := hf
  have f0 : (0 : Int) ≤ -ρ 28 + ρ 27 + (-1) := f0
  have f1 : (0 : Int) ≤ -ρ 35 + ρ 27 + (-1) := f1
  have f2 : (0 : Int) ≤ ρ 27 + -ρ 26 + (-1) := f2
  have f3 : (0 : Int) ≤ ρ 32 + -ρ 15 := f3
  have f4 : (0 : Int) ≤ ρ 33 + -ρ 16 := f4
  have f5 : (0 : Int) ≤ ρ 34 + -ρ 17 := f5
  have f6 : (0 : Int) ≤ -ρ 27 + ρ 4 := f6
  have f7 : (0 : Int) ≤ -ρ 26 + ρ 4 + (-1) := f7
  have f8 : (0 : Int) ≤ -ρ 20 + ρ 4 := f8
  have f9 : (0 : Int) ≤ ρ 26 + -ρ 24 := f9
  have f10 : (0 : Int) ≤ -ρ 24 + ρ 4 + (-1) := f10
  have f11 : (0 : Int) ≤ -ρ 23 + ρ 4 + (-1) := f11
  have f12 : (0 : Int) ≤ ρ 24 + -ρ 23 + (-1) := f12
  have f13 : (0 : Int) ≤ -ρ 24 + ρ 4 := f13
  have f14 : (0 : Int) ≤ ρ 23 + -ρ 3 := f14
  have f15 : (0 : Int) ≤ ρ 4 + -ρ 3 + (-1) := f15
  obtain ⟨m0, m1, m2, m3, m4, m5, m6, m7, m8, m9, m10, m11, m12, m13, m14, m15, m16, m17, m18, m19, m20, m21, m22, m23, m24, m25, m26, m27, m28, m29, m30, m31, m32, m33, m34, m35, m36, m37, m38, m39, m40, m41, m42, -⟩ := hm
  have m0 : γ 0 1 0 10 = ρ 0 := m0
  have m1 : γ 0 40 0 (ρ 0) = ρ 1 := m1
  have m2 : γ 0 9 (ρ 1) 2 = ρ 2 := m2
  have m3 : γ 0 2 0 6 = ρ 3 := m3
  have m4 : γ 0 2 0 3 = ρ 4 := m4
  have m5 : γ 0 10 (ρ 2 + 9 * ρ 1 + 1) 4 = ρ 5 := m5
  have m6 : γ 0 10 (ρ 2 + 9 * ρ 1 + 1) 11 = ρ 6 := m6
  have m7 : γ 0 10 (ρ 2 + 9 * ρ 1 + 1) 8 = ρ 7 := m7
  have m8 : γ 0 2 0 7 = ρ 8 := m8
  have m9 : γ 0 10 (9 * ρ 1) 8 = ρ 9 := m9
  have m10 : γ 0 10 (9 * ρ 1) 12 = ρ 10 := m10
  have m11 : γ 0 1 0 7 = ρ 11 := m11
  have m12 : γ 0 2 0 4 = ρ 12 := m12
  have m13 : γ 0 2 0 5 = ρ 13 := m13
  have m14 : γ 0 2 0 9 = ρ 14 := m14
  have m15 : γ 0 2 0 13 = ρ 15 := m15
  have m16 : γ 0 2 0 16 = ρ 16 := m16
  have m17 : γ 0 3 0 1 = ρ 17 := m17
  have m18 : γ 0 10 (ρ 2 + 9 * ρ 1 + 1) 5 = ρ 18 := m18
  have m19 : γ 0 10 (ρ 2 + 9 * ρ 1 + 1) 7 = ρ 19 := m19
  have m20 : γ 0 10 (ρ 2 + 9 * ρ 1 + 1) 9 = ρ 20 := m20
  have m21 : γ 0 10 (ρ 2 + 9 * ρ 1 + 1) 12 = ρ 21 := m21
  have m22 : γ 1 2 0 6 = ρ 23 := m22
  have m23 : γ 4 2 0 6 = ρ 24 := m23
  have m24 : γ 4 2 0 4 = ρ 12 := m24
  have m25 : γ 4 2 0 9 = ρ 23 := m25
  have m26 : γ 5 2 0 6 = ρ 26 := m26
  have m27 : γ 6 2 0 6 = ρ 27 := m27
  have m28 : γ 6 10 (ρ 2 + 9 * ρ 1 + 1) 5 = ρ 28 := m28
  have m29 : γ 6 10 (ρ 2 + 9 * ρ 1 + 1) 4 = 1 := m29
  have m30 : γ 6 10 (ρ 2 + 9 * ρ 1 + 1) 8 = ρ 29 := m30
  have m31 : γ 6 10 (9 * ρ 1) 8 = ρ 9 := m31
  have m32 : γ 6 10 (9 * ρ 1) 12 = ρ 10 := m32
  have m33 : γ 6 1 0 7 = ρ 11 := m33
  have m34 : γ 6 2 0 4 = ρ 12 := m34
  have m35 : γ 6 2 0 5 = ρ 30 := m35
  have m36 : γ 6 2 0 9 = ρ 31 := m36
  have m37 : γ 6 2 0 13 = ρ 32 := m37
  have m38 : γ 6 2 0 16 = ρ 33 := m38
  have m39 : γ 6 3 0 1 = ρ 34 := m39
  have m40 : γ 6 10 (ρ 2 + 9 * ρ 1 + 1) 7 = ρ 23 := m40
  have m41 : γ 6 10 (ρ 2 + 9 * ρ 1 + 1) 9 = ρ 35 := m41
  have m42 : γ 6 10 (ρ 2 + 9 * ρ 1 + 1) 12 = ρ 36 := m42
  obtain ⟨⟨⟨⟨⟨⟨-, c1⟩, c2⟩, c3⟩, c4⟩, c5⟩, c6⟩ := hc
  have c1 : ∀ (G : Nat) (k j : Int), ¬ rMdP m77_ G j → γ 1 G k j = γ 0 G k j := c1
  have c2 : ∀ (G : Nat) (k j : Int), ¬ rMdP m0_ G j → γ 2 G k j = γ 1 G k j := c2
  have c3 : ∀ (G : Nat) (k j : Int), ¬ rMdP m0_ G j → γ 3 G k j = γ 2 G k j := c3
  have c4 : ∀ (G : Nat) (k j : Int), ¬ rMdP m78_ G j → γ 4 G k j = γ 3 G k j := c4
  have c5 : ∀ (G : Nat) (k j : Int), ¬ rMdP m77_ G j → γ 5 G k j = γ 4 G k j := c5
  have c6 : ∀ (G : Nat) (k j : Int), ¬ rMdP m98_ G j → γ 6 G k j = γ 5 G k j := c6
  obtain ⟨l0, l1, l2, l3, l4, l5, l6, -⟩ := hl
  have l0 : sn114 [ρ 3, ρ 4] (γ 0) 0 (ρ 22) (γ 1) := hS114 _ _ _ _ _ l0
  have l1 : ρ 22 ≠ 33 := l1
  have l2 : sn106 [ρ 22] (γ 1) 0 0 (γ 2) := hS106 _ _ _ _ _ l2
  have l3 : sn105 [ρ 22] (γ 2) 0 1 (γ 3) := hS105 _ _ _ _ _ l3
  have l4 : sn115 [ρ 23, ρ 4, ρ 12, ρ 14] (γ 3) 0 1 (γ 4) := hS115 _ _ _ _ _ l4
  have l5 : sn114 [ρ 24, ρ 4] (γ 4) 0 (ρ 25) (γ 5) := hS114 _ _ _ _ _ l5
  have l6 : sn145 [1, ρ 0, ρ 1, ρ 2, ρ 26, ρ 4, ρ 18, ρ 5, ρ 8, ρ 7, ρ 9, ρ 10, ρ 11, ρ 12, ρ 13, ρ 23, ρ 15, ρ 16, ρ 17, ρ 19, ρ 20, ρ 21] (γ 5) 0 1 (γ 6) := hS145 _ _ _ _ _ l6
  show sn157 [ρ 0, ρ 1, ρ 2, ρ 3, ρ 4, ρ 5, ρ 6, ρ 7, ρ 8, ρ 9, ρ 10, ρ 11, ρ 12, ρ 13, ρ 14, ρ 15, ρ 16, ρ 17, ρ 18, ρ 19, ρ 20, ρ 21] (γ 0) 0 1 (γ 6)
  refine Eq.symm ?_
  show fn157 [] (γ 0) = _
  unfold fn157
  refine (zLet_eq m0).trans ?_
  refine (zLet_eq m1).trans ?_
  refine (zLet_eq m2).trans ?_
  refine (zLet_eq (show fn114 [] (γ 0) = (0, ρ 22, γ 1) from l0.symm)).trans ?_
  refine (zLet_eq (show _ = γ 1 from rfl)).trans ?_
  refine (if_pos (show (0 : Int) ≤ ρ 22 by omega)).trans ?_
  refine (zLet_eq (show _ = ρ 22 from rfl)).trans ?_
  refine (zLet_eq m22).trans ?_
  refine (if_pos (show ρ 22 ≠ 33 by omega)).trans ?_
  refine (zLet_eq (show fn106 [ρ 22] (γ 1) = (0, 0, γ 2) from l2.symm)).trans ?_
  refine (zLet_eq (show _ = γ 2 from rfl)).trans ?_
  refine (if_neg (show ¬ ((1 : Int) ≤ 0) by omega)).trans ?_
  refine (zLet_eq (show fn105 [ρ 22] (γ 2) = (0, 1, γ 3) from l3.symm)).trans ?_
  refine (zLet_eq (show _ = γ 3 from rfl)).trans ?_
  refine (if_pos (show (1 : Int) ≤ 1 by omega)).trans ?_
  refine (zLet_eq (show fn115 [] (γ 3) = (0, 1, γ 4) from l4.symm)).trans ?_
  refine (zLet_eq (show _ = γ 4 from rfl)).trans ?_
  refine (if_pos (show (1 : Int) ≤ 1 by omega)).trans ?_
  refine (zLet_eq (show fn114 [] (γ 4) = (0, ρ 25, γ 5) from l5.symm)).trans ?_
  refine (zLet_eq (show _ = γ 5 from rfl)).trans ?_
  refine (if_pos (show (0 : Int) ≤ ρ 25 by omega)).trans ?_
  refine (zLet_eq (show _ = ρ 25 from rfl)).trans ?_
  refine (if_neg (show ¬ (ρ 25 ≠ 40) by omega)).trans ?_
  refine (zLet_eq (show fn145 [1] (γ 5) = (0, 1, γ 6) from l6.symm)).trans ?_
  refine (zLet_eq (show _ = γ 6 from rfl)).trans ?_
  refine (if_pos (show (1 : Int) ≤ 1 by omega)).trans ?_
  rfl
theorem vn157_19 {S : Nat → zSpc} (hS103 : ∀ x g o v gz, S 103 x g o v gz → sn103 x g o v gz) (hS104 : ∀ x g o v gz, S 104 x g o v gz → sn104 x g o v gz) (hS105 : ∀ x g o v gz, S 105 x g o v gz → sn105 x g o v gz) (hS106 : ∀ x g o v gz, S 106 x g o v gz → sn106 x g o v gz) (hS107 : ∀ x g o v gz, S 107 x g o v gz → sn107 x g o v gz) (hS109 : ∀ x g o v gz, S 109 x g o v gz → sn109 x g o v gz) (hS114 : ∀ x g o v gz, S 114 x g o v gz → sn114 x g o v gz) (hS115 : ∀ x g o v gz, S 115 x g o v gz → sn115 x g o v gz) (hS116 : ∀ x g o v gz, S 116 x g o v gz → sn116 x g o v gz) (hS135 : ∀ x g o v gz, S 135 x g o v gz → sn135 x g o v gz) (hS139 : ∀ x g o v gz, S 139 x g o v gz → sn139 x g o v gz) (hS145 : ∀ x g o v gz, S 145 x g o v gz → sn145 x g o v gz) (hS154 : ∀ x g o v gz, S 154 x g o v gz → sn154 x g o v gz) (hS155 : ∀ x g o v gz, S 155 x g o v gz → sn155 x g o v gz) (hS156 : ∀ x g o v gz, S 156 x g o v gz → sn156 x g o v gz) {a : List Int} {g : rHp} : ∀ (ρ : Nat → Int) (γ : Nat → rHp), zO 22 S a g q157_19 ρ γ → zGl (fun _ _ _ => True) (sn157 a g) q157_19 ρ γ := by
  intro ρ γ h
  obtain ⟨ha, hg, hr, hf, hm, hc, hl⟩ := h
  have ha : a = [ρ 0, ρ 1, ρ 2, ρ 3, ρ 4, ρ 5, ρ 6, ρ 7, ρ 8, ρ 9, ρ 10, ρ 11, ρ 12, ρ 13, ρ 14, ρ 15, ρ 16, ρ 17, ρ 18, ρ 19, ρ 20, ρ 21] := ha
  subst ha
  subst hg
  obtain ⟨r0, r1, r2, r3, r4, r5, r6, r7, r8, r9, r10, r11, r12, r13, r14, r15, r16, r17, r18, r19, r20, r21, r22, r23, r24, r25, r26, r27, r28, r29, r30, r31, r32, r33, r34, r35, r36, r37, -⟩ := hr
  have r0 : (0 : Int) ≤ ρ 0 ∧ ρ 0 ≤ 60 := r0
  have r1 : (0 : Int) ≤ ρ 1 ∧ ρ 1 ≤ 60 := r1
  have r2 : (0 : Int) ≤ ρ 2 ∧ ρ 2 ≤ 7 := r2
  have r3 : (0 : Int) ≤ ρ 3 ∧ ρ 3 ≤ 2000 := r3
  have r4 : (2 : Int) ≤ ρ 4 ∧ ρ 4 ≤ 2000 := r4
  have r5 : (0 : Int) ≤ ρ 5 ∧ ρ 5 ≤ 8 := r5
  have r6 : ((-1) : Int) ≤ ρ 6 ∧ ρ 6 ≤ 7 := r6
  have r7 : ((-1) : Int) ≤ ρ 7 ∧ ρ 7 ≤ 19 := r7
  have r8 : (0 : Int) ≤ ρ 8 ∧ ρ 8 ≤ 2 := r8
  have r9 : ((-1) : Int) ≤ ρ 9 ∧ ρ 9 ≤ 19 := r9
  have r10 : (0 : Int) ≤ ρ 10 ∧ ρ 10 ≤ 4 := r10
  have r11 : (0 : Int) ≤ ρ 11 ∧ ρ 11 ≤ 20 := r11
  have r12 : ((-2147483648) : Int) ≤ ρ 12 ∧ ρ 12 ≤ 2147483647 := r12
  have r13 : ((-2147483648) : Int) ≤ ρ 13 ∧ ρ 13 ≤ 2147483647 := r13
  have r14 : ((-2147483648) : Int) ≤ ρ 14 ∧ ρ 14 ≤ 2147483647 := r14
  have r15 : (0 : Int) ≤ ρ 15 ∧ ρ 15 ≤ 8 := r15
  have r16 : (0 : Int) ≤ ρ 16 ∧ ρ 16 ≤ 32 := r16
  have r17 : (0 : Int) ≤ ρ 17 ∧ ρ 17 ≤ 5120 := r17
  have r18 : (0 : Int) ≤ ρ 18 ∧ ρ 18 ≤ 4 := r18
  have r19 : ((-2147483648) : Int) ≤ ρ 19 ∧ ρ 19 ≤ 2147483647 := r19
  have r20 : ((-1) : Int) ≤ ρ 20 ∧ ρ 20 ≤ 3 := r20
  have r21 : (0 : Int) ≤ ρ 21 ∧ ρ 21 ≤ 4 := r21
  have r22 : (97 : Int) ≤ ρ 22 ∧ ρ 22 ≤ 122 := r22
  have r23 : (0 : Int) ≤ ρ 23 ∧ ρ 23 ≤ 1999 := r23
  have r24 : (1 : Int) ≤ ρ 24 ∧ ρ 24 ≤ 2000 := r24
  have r25 : (40 : Int) ≤ ρ 25 ∧ ρ 25 ≤ 40 := r25
  have r26 : (0 : Int) ≤ ρ 26 ∧ ρ 26 ≤ 2000 := r26
  have r27 : (3 : Int) ≤ ρ 27 ∧ ρ 27 ≤ 2000 := r27
  have r28 : (1 : Int) ≤ ρ 28 ∧ ρ 28 ≤ 4 := r28
  have r29 : (0 : Int) ≤ ρ 29 ∧ ρ 29 ≤ 19 := r29
  have r30 : (1 : Int) ≤ ρ 30 ∧ ρ 30 ≤ 20 := r30
  have r31 : ((-2147483648) : Int) ≤ ρ 31 ∧ ρ 31 ≤ 2147483647 := r31
  have r32 : ((-2147483648) : Int) ≤ ρ 32 ∧ ρ 32 ≤ 2147483647 := r32
  have r33 : (0 : Int) ≤ ρ 33 ∧ ρ 33 ≤ 8 := r33
  have r34 : (0 : Int) ≤ ρ 34 ∧ ρ 34 ≤ 32 := r34
  have r35 : (0 : Int) ≤ ρ 35 ∧ ρ 35 ≤ 5120 := r35
  have r36 : ((-1) : Int) ≤ ρ 36 ∧ ρ 36 ≤ 3 := r36
  have r37 : (0 : Int) ≤ ρ 37 ∧ ρ 37 ≤ 0 := r37
  obtain ⟨f0, f1, f2, f3, f4, f5, f6, f7, f8, f9, f10, f11, f12, f13, f14, f15, f16, f17, f18, f19, -⟩ := hf
  have f0 : (0 : Int) ≤ -ρ 28 + ρ 27 + (-1) := f0
  have f1 : (0 : Int) ≤ -ρ 36 + ρ 27 + (-1) := f1
  have f2 : (0 : Int) ≤ ρ 27 + -ρ 26 + (-1) := f2
  have f3 : (0 : Int) ≤ ρ 30 + -ρ 29 + (-1) := f3
  have f4 : (0 : Int) ≤ ρ 30 + -ρ 11 := f4
  have f5 : (0 : Int) ≤ ρ 33 + -ρ 15 := f5
  have f6 : (0 : Int) ≤ ρ 34 + -ρ 16 := f6
  have f7 : (0 : Int) ≤ ρ 35 + -ρ 17 := f7
  have f8 : (0 : Int) ≤ -ρ 27 + ρ 4 := f8
  have f9 : (0 : Int) ≤ -ρ 26 + ρ 4 + (-1) := f9
  have f10 : (0 : Int) ≤ -ρ 8 + ρ 4 + (-1) := f10
  have f11 : (0 : Int) ≤ -ρ 20 + ρ 4 := f11
  have f12 : (0 : Int) ≤ -ρ 29 + ρ 11 := f12
  have f13 : (0 : Int) ≤ ρ 26 + -ρ 24 := f13
  have f14 : (0 : Int) ≤ -ρ 24 + ρ 4 + (-1) := f14
  have f15 : (0 : Int) ≤ -ρ 23 + ρ 4 + (-1) := f15
  have f16 : (0 : Int) ≤ ρ 24 + -ρ 23 + (-1) := f16
  have f17 : (0 : Int) ≤ -ρ 24 + ρ 4 := f17
  have f18 : (0 : Int) ≤ ρ 23 + -ρ 3 := f18
  have f19 : (0 : Int) ≤ ρ 4 + -ρ 3 + (-1) := f19
  obtain ⟨m0, m1, m2, m3, m4, m5, m6, m7, m8, m9, m10, m11, m12, m13, m14, m15, m16, m17, m18, m19, m20, m21, m22, m23, m24, m25, m26, m27, m28, m29, m30, m31, m32, m33, m34, m35, m36, m37, m38, m39, m40, m41, m42, -⟩ := hm
  have m0 : γ 0 1 0 10 = ρ 0 := m0
  have m1 : γ 0 40 0 (ρ 0) = ρ 1 := m1
  have m2 : γ 0 9 (ρ 1) 2 = ρ 2 := m2
  have m3 : γ 0 2 0 6 = ρ 3 := m3
  have m4 : γ 0 2 0 3 = ρ 4 := m4
  have m5 : γ 0 10 (ρ 2 + 9 * ρ 1 + 1) 4 = ρ 5 := m5
  have m6 : γ 0 10 (ρ 2 + 9 * ρ 1 + 1) 11 = ρ 6 := m6
  have m7 : γ 0 10 (ρ 2 + 9 * ρ 1 + 1) 8 = ρ 7 := m7
  have m8 : γ 0 2 0 7 = ρ 8 := m8
  have m9 : γ 0 10 (9 * ρ 1) 8 = ρ 9 := m9
  have m10 : γ 0 10 (9 * ρ 1) 12 = ρ 10 := m10
  have m11 : γ 0 1 0 7 = ρ 11 := m11
  have m12 : γ 0 2 0 4 = ρ 12 := m12
  have m13 : γ 0 2 0 5 = ρ 13 := m13
  have m14 : γ 0 2 0 9 = ρ 14 := m14
  have m15 : γ 0 2 0 13 = ρ 15 := m15
  have m16 : γ 0 2 0 16 = ρ 16 := m16
  have m17 : γ 0 3 0 1 = ρ 17 := m17
  have m18 : γ 0 10 (ρ 2 + 9 * ρ 1 + 1) 5 = ρ 18 := m18
  have m19 : γ 0 10 (ρ 2 + 9 * ρ 1 + 1) 7 = ρ 19 := m19
  have m20 : γ 0 10 (ρ 2 + 9 * ρ 1 + 1) 9 = ρ 20 := m20
  have m21 : γ 0 10 (ρ 2 + 9 * ρ 1 + 1) 12 = ρ 21 := m21
  have m22 : γ 1 2 0 6 = ρ 23 := m22
  have m23 : γ 4 2 0 6 = ρ 24 := m23
  have m24 : γ 4 2 0 4 = ρ 12 := m24
  have m25 : γ 4 2 0 9 = ρ 23 := m25
  have m26 : γ 5 2 0 6 = ρ 26 := m26
  have m27 : γ 6 2 0 6 = ρ 27 := m27
  have m28 : γ 6 10 (ρ 2 + 9 * ρ 1 + 1) 5 = ρ 28 := m28
  have m29 : γ 6 10 (ρ 2 + 9 * ρ 1 + 1) 4 = 1 := m29
  have m30 : γ 6 10 (ρ 2 + 9 * ρ 1 + 1) 8 = ρ 29 := m30
  have m31 : γ 6 10 (9 * ρ 1) 8 = ρ 9 := m31
  have m32 : γ 6 10 (9 * ρ 1) 12 = ρ 10 := m32
  have m33 : γ 6 1 0 7 = ρ 30 := m33
  have m34 : γ 6 2 0 4 = ρ 12 := m34
  have m35 : γ 6 2 0 5 = ρ 31 := m35
  have m36 : γ 6 2 0 9 = ρ 32 := m36
  have m37 : γ 6 2 0 13 = ρ 33 := m37
  have m38 : γ 6 2 0 16 = ρ 34 := m38
  have m39 : γ 6 3 0 1 = ρ 35 := m39
  have m40 : γ 6 10 (ρ 2 + 9 * ρ 1 + 1) 7 = ρ 23 := m40
  have m41 : γ 6 10 (ρ 2 + 9 * ρ 1 + 1) 9 = ρ 36 := m41
  have m42 : γ 6 10 (ρ 2 + 9 * ρ 1 + 1) 12 = ρ 37 := m42
  obtain ⟨⟨⟨⟨⟨⟨-, c1⟩, c2⟩, c3⟩, c4⟩, c5⟩, c6⟩ := hc
  have c1 : ∀ (G : Nat) (k j : Int), ¬ rMdP m77_ G j → γ 1 G k j = γ 0 G k j := c1
  have c2 : ∀ (G : Nat) (k j : Int), ¬ rMdP m0_ G j → γ 2 G k j = γ 1 G k j := c2
  have c3 : ∀ (G : Nat) (k j : Int), ¬ rMdP m0_ G j → γ 3 G k j = γ 2 G k j := c3
  have c4 : ∀ (G : Nat) (k j : Int), ¬ rMdP m78_ G j → γ 4 G k j = γ 3 G k j := c4
  have c5 : ∀ (G : Nat) (k j : Int), ¬ rMdP m77_ G j → γ 5 G k j = γ 4 G k j := c5
  have c6 : ∀ (G : Nat) (k j : Int), ¬ rMdP m98_ G j → γ 6 G k j = γ 5 G k j := c6
  obtain ⟨l0, l1, l2, l3, l4, l5, l6, -⟩ := hl
  have l0 : sn114 [ρ 3, ρ 4] (γ 0) 0 (ρ 22) (γ 1) := hS114 _ _ _ _ _ l0
  have l1 : ρ 22 ≠ 33 := l1
  have l2 : sn106 [ρ 22] (γ 1) 0 0 (γ 2) := hS106 _ _ _ _ _ l2
  have l3 : sn105 [ρ 22] (γ 2) 0 1 (γ 3) := hS105 _ _ _ _ _ l3
  have l4 : sn115 [ρ 23, ρ 4, ρ 12, ρ 14] (γ 3) 0 1 (γ 4) := hS115 _ _ _ _ _ l4
  have l5 : sn114 [ρ 24, ρ 4] (γ 4) 0 (ρ 25) (γ 5) := hS114 _ _ _ _ _ l5
  have l6 : sn145 [1, ρ 0, ρ 1, ρ 2, ρ 26, ρ 4, ρ 18, ρ 5, ρ 8, ρ 7, ρ 9, ρ 10, ρ 11, ρ 12, ρ 13, ρ 23, ρ 15, ρ 16, ρ 17, ρ 19, ρ 20, ρ 21] (γ 5) 0 1 (γ 6) := hS145 _ _ _ _ _ l6
  show sn157 [ρ 0, ρ 1, ρ 2, ρ 3, ρ 4, ρ 5, ρ 6, ρ 7, ρ 8, ρ 9, ρ 10, ρ 11, ρ 12, ρ 13, ρ 14, ρ 15, ρ 16, ρ 17, ρ 18, ρ 19, ρ 20, ρ 21] (γ 0) 0 1 (γ 6)
  refine Eq.symm ?_
  show fn157 [] (γ 0) = _
  unfold fn157
  refine (zLet_eq m0).trans ?_
  refine (zLet_eq m1).trans ?_
  refine (zLet_eq m2).trans ?_
  refine (zLet_eq (show fn114 [] (γ 0) = (0, ρ 22, γ 1) from l0.symm)).trans ?_
  refine (zLet_eq (show _ = γ 1 from rfl)).trans ?_
  refine (if_pos (show (0 : Int) ≤ ρ 22 by omega)).trans ?_
  refine (zLet_eq (show _ = ρ 22 from rfl)).trans ?_
  refine (zLet_eq m22).trans ?_
  refine (if_pos (show ρ 22 ≠ 33 by omega)).trans ?_
  refine (zLet_eq (show fn106 [ρ 22] (γ 1) = (0, 0, γ 2) from l2.symm)).trans ?_
  refine (zLet_eq (show _ = γ 2 from rfl)).trans ?_
  refine (if_neg (show ¬ ((1 : Int) ≤ 0) by omega)).trans ?_
  refine (zLet_eq (show fn105 [ρ 22] (γ 2) = (0, 1, γ 3) from l3.symm)).trans ?_
  refine (zLet_eq (show _ = γ 3 from rfl)).trans ?_
  refine (if_pos (show (1 : Int) ≤ 1 by omega)).trans ?_
  refine (zLet_eq (show fn115 [] (γ 3) = (0, 1, γ 4) from l4.symm)).trans ?_
  refine (zLet_eq (show _ = γ 4 from rfl)).trans ?_
  refine (if_pos (show (1 : Int) ≤ 1 by omega)).trans ?_
  refine (zLet_eq (show fn114 [] (γ 4) = (0, ρ 25, γ 5) from l5.symm)).trans ?_
  refine (zLet_eq (show _ = γ 5 from rfl)).trans ?_
  refine (if_pos (show (0 : Int) ≤ ρ 25 by omega)).trans ?_
  refine (zLet_eq (show _ = ρ 25 from rfl)).trans ?_
  refine (if_neg (show ¬ (ρ 25 ≠ 40) by omega)).trans ?_
  refine (zLet_eq (show fn145 [1] (γ 5) = (0, 1, γ 6) from l6.symm)).trans ?_
  refine (zLet_eq (show _ = γ 6 from rfl)).trans ?_
  refine (if_pos (show (1 : Int) ≤ 1 by omega)).trans ?_
  rfl
theorem vn157_20 {S : Nat → zSpc} (hS103 : ∀ x g o v gz, S 103 x g o v gz → sn103 x g o v gz) (hS104 : ∀ x g o v gz, S 104 x g o v gz → sn104 x g o v gz) (hS105 : ∀ x g o v gz, S 105 x g o v gz → sn105 x g o v gz) (hS106 : ∀ x g o v gz, S 106 x g o v gz → sn106 x g o v gz) (hS107 : ∀ x g o v gz, S 107 x g o v gz → sn107 x g o v gz) (hS109 : ∀ x g o v gz, S 109 x g o v gz → sn109 x g o v gz) (hS114 : ∀ x g o v gz, S 114 x g o v gz → sn114 x g o v gz) (hS115 : ∀ x g o v gz, S 115 x g o v gz → sn115 x g o v gz) (hS116 : ∀ x g o v gz, S 116 x g o v gz → sn116 x g o v gz) (hS135 : ∀ x g o v gz, S 135 x g o v gz → sn135 x g o v gz) (hS139 : ∀ x g o v gz, S 139 x g o v gz → sn139 x g o v gz) (hS145 : ∀ x g o v gz, S 145 x g o v gz → sn145 x g o v gz) (hS154 : ∀ x g o v gz, S 154 x g o v gz → sn154 x g o v gz) (hS155 : ∀ x g o v gz, S 155 x g o v gz → sn155 x g o v gz) (hS156 : ∀ x g o v gz, S 156 x g o v gz → sn156 x g o v gz) {a : List Int} {g : rHp} : ∀ (ρ : Nat → Int) (γ : Nat → rHp), zO 22 S a g q157_20 ρ γ → zGl (fun _ _ _ => True) (sn157 a g) q157_20 ρ γ := by
  intro ρ γ h
  obtain ⟨ha, hg, hr, hf, hm, hc, hl⟩ := h
  have ha : a = [ρ 0, ρ 1, ρ 2, ρ 3, ρ 4, ρ 5, ρ 6, ρ 7, ρ 8, ρ 9, ρ 10, ρ 11, ρ 12, ρ 13, ρ 14, ρ 15, ρ 16, ρ 17, ρ 18, ρ 19, ρ 20, ρ 21] := ha
  subst ha
  subst hg
  obtain ⟨r0, r1, r2, r3, r4, r5, r6, r7, r8, r9, r10, r11, r12, r13, r14, r15, r16, r17, r18, r19, r20, r21, r22, r23, r24, -⟩ := hr
  have r0 : (0 : Int) ≤ ρ 0 ∧ ρ 0 ≤ 60 := r0
  have r1 : (0 : Int) ≤ ρ 1 ∧ ρ 1 ≤ 60 := r1
  have r2 : (0 : Int) ≤ ρ 2 ∧ ρ 2 ≤ 7 := r2
  have r3 : (0 : Int) ≤ ρ 3 ∧ ρ 3 ≤ 2000 := r3
  have r4 : (0 : Int) ≤ ρ 4 ∧ ρ 4 ≤ 2000 := r4
  have r5 : (0 : Int) ≤ ρ 5 ∧ ρ 5 ≤ 8 := r5
  have r6 : ((-1) : Int) ≤ ρ 6 ∧ ρ 6 ≤ 7 := r6
  have r7 : ((-1) : Int) ≤ ρ 7 ∧ ρ 7 ≤ 19 := r7
  have r8 : (0 : Int) ≤ ρ 8 ∧ ρ 8 ≤ 2 := r8
  have r9 : ((-1) : Int) ≤ ρ 9 ∧ ρ 9 ≤ 19 := r9
  have r10 : (0 : Int) ≤ ρ 10 ∧ ρ 10 ≤ 4 := r10
  have r11 : (0 : Int) ≤ ρ 11 ∧ ρ 11 ≤ 20 := r11
  have r12 : ((-2147483648) : Int) ≤ ρ 12 ∧ ρ 12 ≤ 2147483647 := r12
  have r13 : ((-2147483648) : Int) ≤ ρ 13 ∧ ρ 13 ≤ 2147483647 := r13
  have r14 : ((-2147483648) : Int) ≤ ρ 14 ∧ ρ 14 ≤ 2147483647 := r14
  have r15 : (0 : Int) ≤ ρ 15 ∧ ρ 15 ≤ 8 := r15
  have r16 : (0 : Int) ≤ ρ 16 ∧ ρ 16 ≤ 32 := r16
  have r17 : (0 : Int) ≤ ρ 17 ∧ ρ 17 ≤ 5120 := r17
  have r18 : (0 : Int) ≤ ρ 18 ∧ ρ 18 ≤ 4 := r18
  have r19 : ((-2147483648) : Int) ≤ ρ 19 ∧ ρ 19 ≤ 2147483647 := r19
  have r20 : ((-1) : Int) ≤ ρ 20 ∧ ρ 20 ≤ 3 := r20
  have r21 : (0 : Int) ≤ ρ 21 ∧ ρ 21 ≤ 4 := r21
  have r22 : (65 : Int) ≤ ρ 22 ∧ ρ 22 ≤ 90 := r22
  have r23 : (0 : Int) ≤ ρ 23 ∧ ρ 23 ≤ 1999 := r23
  have r24 : (13 : Int) ≤ ρ 24 ∧ ρ 24 ≤ 2000 := r24
  obtain ⟨f0, f1, f2, f3, f4, -⟩ := hf
  have f0 : (0 : Int) ≤ -ρ 23 + ρ 4 + (-1) := f0
  have f1 : (0 : Int) ≤ ρ 24 + -ρ 23 + (-1) := f1
  have f2 : (0 : Int) ≤ -ρ 24 + ρ 4 := f2
  have f3 : (0 : Int) ≤ ρ 23 + -ρ 3 := f3
  have f4 : (0 : Int) ≤ ρ 4 + -ρ 3 + (-1) := f4
  obtain ⟨m0, m1, m2, m3, m4, m5, m6, m7, m8, m9, m10, m11, m12, m13, m14, m15, m16, m17, m18, m19, m20, m21, m22, m23, m24, m25, -⟩ := hm
  have m0 : γ 0 1 0 10 = ρ 0 := m0
  have m1 : γ 0 40 0 (ρ 0) = ρ 1 := m1
  have m2 : γ 0 9 (ρ 1) 2 = ρ 2 := m2
  have m3 : γ 0 2 0 6 = ρ 3 := m3
  have m4 : γ 0 2 0 3 = ρ 4 := m4
  have m5 : γ 0 10 (ρ 2 + 9 * ρ 1 + 1) 4 = ρ 5 := m5
  have m6 : γ 0 10 (ρ 2 + 9 * ρ 1 + 1) 11 = ρ 6 := m6
  have m7 : γ 0 10 (ρ 2 + 9 * ρ 1 + 1) 8 = ρ 7 := m7
  have m8 : γ 0 2 0 7 = ρ 8 := m8
  have m9 : γ 0 10 (9 * ρ 1) 8 = ρ 9 := m9
  have m10 : γ 0 10 (9 * ρ 1) 12 = ρ 10 := m10
  have m11 : γ 0 1 0 7 = ρ 11 := m11
  have m12 : γ 0 2 0 4 = ρ 12 := m12
  have m13 : γ 0 2 0 5 = ρ 13 := m13
  have m14 : γ 0 2 0 9 = ρ 14 := m14
  have m15 : γ 0 2 0 13 = ρ 15 := m15
  have m16 : γ 0 2 0 16 = ρ 16 := m16
  have m17 : γ 0 3 0 1 = ρ 17 := m17
  have m18 : γ 0 10 (ρ 2 + 9 * ρ 1 + 1) 5 = ρ 18 := m18
  have m19 : γ 0 10 (ρ 2 + 9 * ρ 1 + 1) 7 = ρ 19 := m19
  have m20 : γ 0 10 (ρ 2 + 9 * ρ 1 + 1) 9 = ρ 20 := m20
  have m21 : γ 0 10 (ρ 2 + 9 * ρ 1 + 1) 12 = ρ 21 := m21
  have m22 : γ 1 2 0 6 = ρ 23 := m22
  have m23 : γ 3 2 0 6 = ρ 24 := m23
  have m24 : γ 3 2 0 4 = ρ 23 := m24
  have m25 : γ 3 2 0 9 = ρ 23 := m25
  obtain ⟨⟨⟨-, c1⟩, c2⟩, c3⟩ := hc
  have c1 : ∀ (G : Nat) (k j : Int), ¬ rMdP m77_ G j → γ 1 G k j = γ 0 G k j := c1
  have c2 : ∀ (G : Nat) (k j : Int), ¬ rMdP m0_ G j → γ 2 G k j = γ 1 G k j := c2
  have c3 : ∀ (G : Nat) (k j : Int), ¬ rMdP m78_ G j → γ 3 G k j = γ 2 G k j := c3
  obtain ⟨l0, l1, l2, l3, -⟩ := hl
  have l0 : sn114 [ρ 3, ρ 4] (γ 0) 0 (ρ 22) (γ 1) := hS114 _ _ _ _ _ l0
  have l1 : ρ 22 ≠ 33 := l1
  have l2 : sn106 [ρ 22] (γ 1) 0 1 (γ 2) := hS106 _ _ _ _ _ l2
  have l3 : sn115 [ρ 23, ρ 4, ρ 12, ρ 14] (γ 2) 0 0 (γ 3) := hS115 _ _ _ _ _ l3
  show sn157 [ρ 0, ρ 1, ρ 2, ρ 3, ρ 4, ρ 5, ρ 6, ρ 7, ρ 8, ρ 9, ρ 10, ρ 11, ρ 12, ρ 13, ρ 14, ρ 15, ρ 16, ρ 17, ρ 18, ρ 19, ρ 20, ρ 21] (γ 0) 0 0 (γ 3)
  refine Eq.symm ?_
  show fn157 [] (γ 0) = _
  unfold fn157
  refine (zLet_eq m0).trans ?_
  refine (zLet_eq m1).trans ?_
  refine (zLet_eq m2).trans ?_
  refine (zLet_eq (show fn114 [] (γ 0) = (0, ρ 22, γ 1) from l0.symm)).trans ?_
  refine (zLet_eq (show _ = γ 1 from rfl)).trans ?_
  refine (if_pos (show (0 : Int) ≤ ρ 22 by omega)).trans ?_
  refine (zLet_eq (show _ = ρ 22 from rfl)).trans ?_
  refine (zLet_eq m22).trans ?_
  refine (if_pos (show ρ 22 ≠ 33 by omega)).trans ?_
  refine (zLet_eq (show fn106 [ρ 22] (γ 1) = (0, 1, γ 2) from l2.symm)).trans ?_
  refine (zLet_eq (show _ = γ 2 from rfl)).trans ?_
  refine (if_pos (show (1 : Int) ≤ 1 by omega)).trans ?_
  refine (zLet_eq (show fn115 [] (γ 2) = (0, 0, γ 3) from l3.symm)).trans ?_
  refine (zLet_eq (show _ = γ 3 from rfl)).trans ?_
  refine (if_neg (show ¬ ((1 : Int) ≤ 0) by omega)).trans ?_
  rfl
theorem vn157_21 {S : Nat → zSpc} (hS103 : ∀ x g o v gz, S 103 x g o v gz → sn103 x g o v gz) (hS104 : ∀ x g o v gz, S 104 x g o v gz → sn104 x g o v gz) (hS105 : ∀ x g o v gz, S 105 x g o v gz → sn105 x g o v gz) (hS106 : ∀ x g o v gz, S 106 x g o v gz → sn106 x g o v gz) (hS107 : ∀ x g o v gz, S 107 x g o v gz → sn107 x g o v gz) (hS109 : ∀ x g o v gz, S 109 x g o v gz → sn109 x g o v gz) (hS114 : ∀ x g o v gz, S 114 x g o v gz → sn114 x g o v gz) (hS115 : ∀ x g o v gz, S 115 x g o v gz → sn115 x g o v gz) (hS116 : ∀ x g o v gz, S 116 x g o v gz → sn116 x g o v gz) (hS135 : ∀ x g o v gz, S 135 x g o v gz → sn135 x g o v gz) (hS139 : ∀ x g o v gz, S 139 x g o v gz → sn139 x g o v gz) (hS145 : ∀ x g o v gz, S 145 x g o v gz → sn145 x g o v gz) (hS154 : ∀ x g o v gz, S 154 x g o v gz → sn154 x g o v gz) (hS155 : ∀ x g o v gz, S 155 x g o v gz → sn155 x g o v gz) (hS156 : ∀ x g o v gz, S 156 x g o v gz → sn156 x g o v gz) {a : List Int} {g : rHp} : ∀ (ρ : Nat → Int) (γ : Nat → rHp), zO 22 S a g q157_21 ρ γ → zGl (fun _ _ _ => True) (sn157 a g) q157_21 ρ γ := by
  intro ρ γ h
  obtain ⟨ha, hg, hr, hf, hm, hc, hl⟩ := h
  have ha : a = [ρ 0, ρ 1, ρ 2, ρ 3, ρ 4, ρ 5, ρ 6, ρ 7, ρ 8, ρ 9, ρ 10, ρ 11, ρ 12, ρ 13, ρ 14, ρ 15, ρ 16, ρ 17, ρ 18, ρ 19, ρ 20, ρ 21] := ha
  subst ha
  subst hg
  obtain ⟨r0, r1, r2, r3, r4, r5, r6, r7, r8, r9, r10, r11, r12, r13, r14, r15, r16, r17, r18, r19, r20, r21, r22, r23, r24, r25, r26, r27, r28, r29, r30, r31, r32, -⟩ := hr
  have r0 : (0 : Int) ≤ ρ 0 ∧ ρ 0 ≤ 60 := r0
  have r1 : (0 : Int) ≤ ρ 1 ∧ ρ 1 ≤ 60 := r1
  have r2 : (0 : Int) ≤ ρ 2 ∧ ρ 2 ≤ 7 := r2
  have r3 : (0 : Int) ≤ ρ 3 ∧ ρ 3 ≤ 2000 := r3
  have r4 : (0 : Int) ≤ ρ 4 ∧ ρ 4 ≤ 2000 := r4
  have r5 : (0 : Int) ≤ ρ 5 ∧ ρ 5 ≤ 8 := r5
  have r6 : ((-1) : Int) ≤ ρ 6 ∧ ρ 6 ≤ 7 := r6
  have r7 : ((-1) : Int) ≤ ρ 7 ∧ ρ 7 ≤ 19 := r7
  have r8 : (0 : Int) ≤ ρ 8 ∧ ρ 8 ≤ 2 := r8
  have r9 : ((-1) : Int) ≤ ρ 9 ∧ ρ 9 ≤ 19 := r9
  have r10 : (0 : Int) ≤ ρ 10 ∧ ρ 10 ≤ 4 := r10
  have r11 : (0 : Int) ≤ ρ 11 ∧ ρ 11 ≤ 20 := r11
  have r12 : ((-2147483648) : Int) ≤ ρ 12 ∧ ρ 12 ≤ 2147483647 := r12
  have r13 : ((-2147483648) : Int) ≤ ρ 13 ∧ ρ 13 ≤ 2147483647 := r13
  have r14 : ((-2147483648) : Int) ≤ ρ 14 ∧ ρ 14 ≤ 2147483647 := r14
  have r15 : (0 : Int) ≤ ρ 15 ∧ ρ 15 ≤ 8 := r15
  have r16 : (0 : Int) ≤ ρ 16 ∧ ρ 16 ≤ 32 := r16
  have r17 : (0 : Int) ≤ ρ 17 ∧ ρ 17 ≤ 5120 := r17
  have r18 : (0 : Int) ≤ ρ 18 ∧ ρ 18 ≤ 4 := r18
  have r19 : ((-2147483648) : Int) ≤ ρ 19 ∧ ρ 19 ≤ 2147483647 := r19
  have r20 : ((-1) : Int) ≤ ρ 20 ∧ ρ 20 ≤ 3 := r20
  have r21 : (0 : Int) ≤ ρ 21 ∧ ρ 21 ≤ 4 := r21
  have r22 : (65 : Int) ≤ ρ 22 ∧ ρ 22 ≤ 90 := r22
  have r23 : (0 : Int) ≤ ρ 23 ∧ ρ 23 ≤ 1999 := r23
  have r24 : (1 : Int) ≤ ρ 24 ∧ ρ 24 ≤ 2000 := r24
  have r25 : (0 : Int) ≤ ρ 25 ∧ ρ 25 ≤ 2000 := r25
  have r26 : ((-9223372036854775808) : Int) ≤ ρ 26 ∧ ρ 26 ≤ 9223372036854775807 := r26
  have r27 : (0 : Int) ≤ ρ 27 ∧ ρ 27 ≤ 2000 := r27
  have r28 : (3 : Int) ≤ ρ 28 ∧ ρ 28 ≤ 5 := r28
  have r29 : ((-2147483648) : Int) ≤ ρ 29 ∧ ρ 29 ≤ 2147483647 := r29
  have r30 : ((-2147483648) : Int) ≤ ρ 30 ∧ ρ 30 ≤ 2147483647 := r30
  have r31 : (0 : Int) ≤ ρ 31 ∧ ρ 31 ≤ 5120 := r31
  have r32 : (0 : Int) ≤ ρ 32 ∧ ρ 32 ≤ 2 := r32
  obtain ⟨f0, f1, f2, f3, f4, f5, f6, f7, f8, -⟩ := hf
  have f0 : (0 : Int) ≤ ρ 27 + -ρ 25 := f0
  have f1 : (0 : Int) ≤ ρ 31 + -ρ 17 := f1
  have f2 : (0 : Int) ≤ ρ 25 + -ρ 24 := f2
  have f3 : (0 : Int) ≤ ρ 25 + -ρ 4 := f3
  have f4 : (0 : Int) ≤ -ρ 23 + ρ 4 + (-1) := f4
  have f5 : (0 : Int) ≤ ρ 24 + -ρ 23 + (-1) := f5
  have f6 : (0 : Int) ≤ -ρ 24 + ρ 4 := f6
  have f7 : (0 : Int) ≤ ρ 23 + -ρ 3 := f7
  have f8 : (0 : Int) ≤ ρ 4 + -ρ 3 + (-1) := f8
  obtain ⟨m0, m1, m2, m3, m4, m5, m6, m7, m8, m9, m10, m11, m12, m13, m14, m15, m16, m17, m18, m19, m20, m21, m22, m23, m24, m25, m26, m27, m28, m29, m30, m31, m32, m33, m34, m35, m36, m37, m38, m39, -⟩ := hm
  have m0 : γ 0 1 0 10 = ρ 0 := m0
  have m1 : γ 0 40 0 (ρ 0) = ρ 1 := m1
  have m2 : γ 0 9 (ρ 1) 2 = ρ 2 := m2
  have m3 : γ 0 2 0 6 = ρ 3 := m3
  have m4 : γ 0 2 0 3 = ρ 4 := m4
  have m5 : γ 0 10 (ρ 2 + 9 * ρ 1 + 1) 4 = ρ 5 := m5
  have m6 : γ 0 10 (ρ 2 + 9 * ρ 1 + 1) 11 = ρ 6 := m6
  have m7 : γ 0 10 (ρ 2 + 9 * ρ 1 + 1) 8 = ρ 7 := m7
  have m8 : γ 0 2 0 7 = ρ 8 := m8
  have m9 : γ 0 10 (9 * ρ 1) 8 = ρ 9 := m9
  have m10 : γ 0 10 (9 * ρ 1) 12 = ρ 10 := m10
  have m11 : γ 0 1 0 7 = ρ 11 := m11
  have m12 : γ 0 2 0 4 = ρ 12 := m12
  have m13 : γ 0 2 0 5 = ρ 13 := m13
  have m14 : γ 0 2 0 9 = ρ 14 := m14
  have m15 : γ 0 2 0 13 = ρ 15 := m15
  have m16 : γ 0 2 0 16 = ρ 16 := m16
  have m17 : γ 0 3 0 1 = ρ 17 := m17
  have m18 : γ 0 10 (ρ 2 + 9 * ρ 1 + 1) 5 = ρ 18 := m18
  have m19 : γ 0 10 (ρ 2 + 9 * ρ 1 + 1) 7 = ρ 19 := m19
  have m20 : γ 0 10 (ρ 2 + 9 * ρ 1 + 1) 9 = ρ 20 := m20
  have m21 : γ 0 10 (ρ 2 + 9 * ρ 1 + 1) 12 = ρ 21 := m21
  have m22 : γ 1 2 0 6 = ρ 23 := m22
  have m23 : γ 3 2 0 6 = ρ 24 := m23
  have m24 : γ 3 2 0 4 = ρ 12 := m24
  have m25 : γ 3 2 0 9 = ρ 23 := m25
  have m26 : γ 4 2 0 6 = ρ 25 := m26
  have m27 : γ 3 2 0 8 = ρ 26 := m27
  have m28 : γ 6 2 0 6 = ρ 27 := m28
  have m29 : γ 6 10 (ρ 2 + 9 * ρ 1 + 1) 4 = ρ 28 := m29
  have m30 : γ 6 10 (9 * ρ 1) 8 = ρ 9 := m30
  have m31 : γ 6 10 (9 * ρ 1) 12 = ρ 10 := m31
  have m32 : γ 6 2 0 4 = ρ 29 := m32
  have m33 : γ 6 2 0 9 = ρ 30 := m33
  have m34 : γ 6 3 0 1 = ρ 31 := m34
  have m35 : γ 6 10 (ρ 2 + 9 * ρ 1 + 1) 5 = ρ 32 := m35
  have m36 : γ 6 10 (ρ 2 + 9 * ρ 1 + 1) 7 = ρ 23 := m36
  have m37 : γ 6 10 (ρ 2 + 9 * ρ 1 + 1) 8 = (-1) := m37
  have m38 : γ 6 10 (ρ 2 + 9 * ρ 1 + 1) 9 = (-1) := m38
  have m39 : γ 6 10 (ρ 2 + 9 * ρ 1 + 1) 12 = 0 := m39
  obtain ⟨⟨⟨⟨⟨⟨-, c1⟩, c2⟩, c3⟩, c4⟩, c5⟩, c6⟩ := hc
  have c1 : ∀ (G : Nat) (k j : Int), ¬ rMdP m77_ G j → γ 1 G k j = γ 0 G k j := c1
  have c2 : ∀ (G : Nat) (k j : Int), ¬ rMdP m0_ G j → γ 2 G k j = γ 1 G k j := c2
  have c3 : ∀ (G : Nat) (k j : Int), ¬ rMdP m78_ G j → γ 3 G k j = γ 2 G k j := c3
  have c4 : ∀ (G : Nat) (k j : Int), ¬ rMdP m77_ G j → γ 4 G k j = γ 3 G k j := c4
  have c5 : ∀ (G : Nat) (k j : Int), ¬ rMdP m0_ G j → γ 5 G k j = γ 4 G k j := c5
  have c6 : ∀ (G : Nat) (k j : Int), ¬ rMdP m104_ G j → γ 6 G k j = γ 5 G k j := c6
  obtain ⟨l0, l1, l2, l3, l4, l5, l6, -⟩ := hl
  have l0 : sn114 [ρ 3, ρ 4] (γ 0) 0 (ρ 22) (γ 1) := hS114 _ _ _ _ _ l0
  have l1 : ρ 22 ≠ 33 := l1
  have l2 : sn106 [ρ 22] (γ 1) 0 1 (γ 2) := hS106 _ _ _ _ _ l2
  have l3 : sn115 [ρ 23, ρ 4, ρ 12, ρ 14] (γ 2) 0 1 (γ 3) := hS115 _ _ _ _ _ l3
  have l4 : sn114 [ρ 24, ρ 4] (γ 3) 0 (-1) (γ 4) := hS114 _ _ _ _ _ l4
  have l5 : sn105 [(-1)] (γ 4) 0 0 (γ 5) := hS105 _ _ _ _ _ l5
  have l6 : sn155 [ρ 26, ρ 23, ρ 0, ρ 1, ρ 2, ρ 25, ρ 4, ρ 5, ρ 9, ρ 10, ρ 12, ρ 13, ρ 23, ρ 15, ρ 17, ρ 18, ρ 19, ρ 7, ρ 20, ρ 21] (γ 5) 0 0 (γ 6) := hS155 _ _ _ _ _ l6
  show sn157 [ρ 0, ρ 1, ρ 2, ρ 3, ρ 4, ρ 5, ρ 6, ρ 7, ρ 8, ρ 9, ρ 10, ρ 11, ρ 12, ρ 13, ρ 14, ρ 15, ρ 16, ρ 17, ρ 18, ρ 19, ρ 20, ρ 21] (γ 0) 0 0 (γ 6)
  refine Eq.symm ?_
  show fn157 [] (γ 0) = _
  unfold fn157
  refine (zLet_eq m0).trans ?_
  refine (zLet_eq m1).trans ?_
  refine (zLet_eq m2).trans ?_
  refine (zLet_eq (show fn114 [] (γ 0) = (0, ρ 22, γ 1) from l0.symm)).trans ?_
  refine (zLet_eq (show _ = γ 1 from rfl)).trans ?_
  refine (if_pos (show (0 : Int) ≤ ρ 22 by omega)).trans ?_
  refine (zLet_eq (show _ = ρ 22 from rfl)).trans ?_
  refine (zLet_eq m22).trans ?_
  refine (if_pos (show ρ 22 ≠ 33 by omega)).trans ?_
  refine (zLet_eq (show fn106 [ρ 22] (γ 1) = (0, 1, γ 2) from l2.symm)).trans ?_
  refine (zLet_eq (show _ = γ 2 from rfl)).trans ?_
  refine (if_pos (show (1 : Int) ≤ 1 by omega)).trans ?_
  refine (zLet_eq (show fn115 [] (γ 2) = (0, 1, γ 3) from l3.symm)).trans ?_
  refine (zLet_eq (show _ = γ 3 from rfl)).trans ?_
  refine (if_pos (show (1 : Int) ≤ 1 by omega)).trans ?_
  refine (zLet_eq (show fn114 [] (γ 3) = (0, (-1), γ 4) from l4.symm)).trans ?_
  refine (zLet_eq (show _ = γ 4 from rfl)).trans ?_
  refine (if_neg (show ¬ ((0 : Int) ≤ (-1)) by omega)).trans ?_
  refine (zLet_eq (show fn105 [(-1)] (γ 4) = (0, 0, γ 5) from l5.symm)).trans ?_
  refine (zLet_eq (show _ = γ 5 from rfl)).trans ?_
  refine (zLet_eq m27).trans ?_
  refine (zLet_eq (show fn155 [ρ 26, ρ 23] (γ 5) = (0, 0, γ 6) from l6.symm)).trans ?_
  refine (zLet_eq (show _ = γ 6 from rfl)).trans ?_
  rfl
theorem vn157_22 {S : Nat → zSpc} (hS103 : ∀ x g o v gz, S 103 x g o v gz → sn103 x g o v gz) (hS104 : ∀ x g o v gz, S 104 x g o v gz → sn104 x g o v gz) (hS105 : ∀ x g o v gz, S 105 x g o v gz → sn105 x g o v gz) (hS106 : ∀ x g o v gz, S 106 x g o v gz → sn106 x g o v gz) (hS107 : ∀ x g o v gz, S 107 x g o v gz → sn107 x g o v gz) (hS109 : ∀ x g o v gz, S 109 x g o v gz → sn109 x g o v gz) (hS114 : ∀ x g o v gz, S 114 x g o v gz → sn114 x g o v gz) (hS115 : ∀ x g o v gz, S 115 x g o v gz → sn115 x g o v gz) (hS116 : ∀ x g o v gz, S 116 x g o v gz → sn116 x g o v gz) (hS135 : ∀ x g o v gz, S 135 x g o v gz → sn135 x g o v gz) (hS139 : ∀ x g o v gz, S 139 x g o v gz → sn139 x g o v gz) (hS145 : ∀ x g o v gz, S 145 x g o v gz → sn145 x g o v gz) (hS154 : ∀ x g o v gz, S 154 x g o v gz → sn154 x g o v gz) (hS155 : ∀ x g o v gz, S 155 x g o v gz → sn155 x g o v gz) (hS156 : ∀ x g o v gz, S 156 x g o v gz → sn156 x g o v gz) {a : List Int} {g : rHp} : ∀ (ρ : Nat → Int) (γ : Nat → rHp), zO 22 S a g q157_22 ρ γ → zGl (fun _ _ _ => True) (sn157 a g) q157_22 ρ γ := by
  intro ρ γ h
  obtain ⟨ha, hg, hr, hf, hm, hc, hl⟩ := h
  have ha : a = [ρ 0, ρ 1, ρ 2, ρ 3, ρ 4, ρ 5, ρ 6, ρ 7, ρ 8, ρ 9, ρ 10, ρ 11, ρ 12, ρ 13, ρ 14, ρ 15, ρ 16, ρ 17, ρ 18, ρ 19, ρ 20, ρ 21] := ha
  subst ha
  subst hg
  obtain ⟨r0, r1, r2, r3, r4, r5, r6, r7, r8, r9, r10, r11, r12, r13, r14, r15, r16, r17, r18, r19, r20, r21, r22, r23, r24, r25, r26, r27, r28, r29, r30, r31, r32, r33, -⟩ := hr
  have r0 : (0 : Int) ≤ ρ 0 ∧ ρ 0 ≤ 60 := r0
  have r1 : (0 : Int) ≤ ρ 1 ∧ ρ 1 ≤ 60 := r1
  have r2 : (0 : Int) ≤ ρ 2 ∧ ρ 2 ≤ 7 := r2
  have r3 : (0 : Int) ≤ ρ 3 ∧ ρ 3 ≤ 2000 := r3
  have r4 : (0 : Int) ≤ ρ 4 ∧ ρ 4 ≤ 2000 := r4
  have r5 : (0 : Int) ≤ ρ 5 ∧ ρ 5 ≤ 8 := r5
  have r6 : ((-1) : Int) ≤ ρ 6 ∧ ρ 6 ≤ 7 := r6
  have r7 : ((-1) : Int) ≤ ρ 7 ∧ ρ 7 ≤ 19 := r7
  have r8 : (0 : Int) ≤ ρ 8 ∧ ρ 8 ≤ 2 := r8
  have r9 : ((-1) : Int) ≤ ρ 9 ∧ ρ 9 ≤ 19 := r9
  have r10 : (0 : Int) ≤ ρ 10 ∧ ρ 10 ≤ 4 := r10
  have r11 : (0 : Int) ≤ ρ 11 ∧ ρ 11 ≤ 20 := r11
  have r12 : ((-2147483648) : Int) ≤ ρ 12 ∧ ρ 12 ≤ 2147483647 := r12
  have r13 : ((-2147483648) : Int) ≤ ρ 13 ∧ ρ 13 ≤ 2147483647 := r13
  have r14 : ((-2147483648) : Int) ≤ ρ 14 ∧ ρ 14 ≤ 2147483647 := r14
  have r15 : (0 : Int) ≤ ρ 15 ∧ ρ 15 ≤ 8 := r15
  have r16 : (0 : Int) ≤ ρ 16 ∧ ρ 16 ≤ 32 := r16
  have r17 : (0 : Int) ≤ ρ 17 ∧ ρ 17 ≤ 5120 := r17
  have r18 : (0 : Int) ≤ ρ 18 ∧ ρ 18 ≤ 4 := r18
  have r19 : ((-2147483648) : Int) ≤ ρ 19 ∧ ρ 19 ≤ 2147483647 := r19
  have r20 : ((-1) : Int) ≤ ρ 20 ∧ ρ 20 ≤ 3 := r20
  have r21 : (0 : Int) ≤ ρ 21 ∧ ρ 21 ≤ 4 := r21
  have r22 : (65 : Int) ≤ ρ 22 ∧ ρ 22 ≤ 90 := r22
  have r23 : (0 : Int) ≤ ρ 23 ∧ ρ 23 ≤ 1999 := r23
  have r24 : (1 : Int) ≤ ρ 24 ∧ ρ 24 ≤ 2000 := r24
  have r25 : (0 : Int) ≤ ρ 25 ∧ ρ 25 ≤ 255 := r25
  have r26 : (0 : Int) ≤ ρ 26 ∧ ρ 26 ≤ 2000 := r26
  have r27 : ((-9223372036854775808) : Int) ≤ ρ 27 ∧ ρ 27 ≤ 9223372036854775807 := r27
  have r28 : (0 : Int) ≤ ρ 28 ∧ ρ 28 ≤ 2000 := r28
  have r29 : (3 : Int) ≤ ρ 29 ∧ ρ 29 ≤ 5 := r29
  have r30 : ((-2147483648) : Int) ≤ ρ 30 ∧ ρ 30 ≤ 2147483647 := r30
  have r31 : ((-2147483648) : Int) ≤ ρ 31 ∧ ρ 31 ≤ 2147483647 := r31
  have r32 : (0 : Int) ≤ ρ 32 ∧ ρ 32 ≤ 5120 := r32
  have r33 : (0 : Int) ≤ ρ 33 ∧ ρ 33 ≤ 2 := r33
  obtain ⟨f0, f1, f2, f3, f4, f5, f6, f7, f8, f9, -⟩ := hf
  have f0 : (0 : Int) ≤ ρ 28 + -ρ 26 := f0
  have f1 : (0 : Int) ≤ ρ 32 + -ρ 17 := f1
  have f2 : (0 : Int) ≤ ρ 26 + -ρ 24 := f2
  have f3 : (0 : Int) ≤ -ρ 26 + ρ 4 + (-1) := f3
  have f4 : (0 : Int) ≤ -ρ 24 + ρ 4 + (-1) := f4
  have f5 : (0 : Int) ≤ -ρ 23 + ρ 4 + (-1) := f5
  have f6 : (0 : Int) ≤ ρ 24 + -ρ 23 + (-1) := f6
  have f7 : (0 : Int) ≤ -ρ 24 + ρ 4 := f7
  have f8 : (0 : Int) ≤ ρ 23 + -ρ 3 := f8
  have f9 : (0 : Int) ≤ ρ 4 + -ρ 3 + (-1) := f9
  obtain ⟨m0, m1, m2, m3, m4, m5, m6, m7, m8, m9, m10, m11, m12, m13, m14, m15, m16, m17, m18, m19, m20, m21, m22, m23, m24, m25, m26, m27, m28, m29, m30, m31, m32, m33, m34, m35, m36, m37, m38, m39, -⟩ := hm
  have m0 : γ 0 1 0 10 = ρ 0 := m0
  have m1 : γ 0 40 0 (ρ 0) = ρ 1 := m1
  have m2 : γ 0 9 (ρ 1) 2 = ρ 2 := m2
  have m3 : γ 0 2 0 6 = ρ 3 := m3
  have m4 : γ 0 2 0 3 = ρ 4 := m4
  have m5 : γ 0 10 (ρ 2 + 9 * ρ 1 + 1) 4 = ρ 5 := m5
  have m6 : γ 0 10 (ρ 2 + 9 * ρ 1 + 1) 11 = ρ 6 := m6
  have m7 : γ 0 10 (ρ 2 + 9 * ρ 1 + 1) 8 = ρ 7 := m7
  have m8 : γ 0 2 0 7 = ρ 8 := m8
  have m9 : γ 0 10 (9 * ρ 1) 8 = ρ 9 := m9
  have m10 : γ 0 10 (9 * ρ 1) 12 = ρ 10 := m10
  have m11 : γ 0 1 0 7 = ρ 11 := m11
  have m12 : γ 0 2 0 4 = ρ 12 := m12
  have m13 : γ 0 2 0 5 = ρ 13 := m13
  have m14 : γ 0 2 0 9 = ρ 14 := m14
  have m15 : γ 0 2 0 13 = ρ 15 := m15
  have m16 : γ 0 2 0 16 = ρ 16 := m16
  have m17 : γ 0 3 0 1 = ρ 17 := m17
  have m18 : γ 0 10 (ρ 2 + 9 * ρ 1 + 1) 5 = ρ 18 := m18
  have m19 : γ 0 10 (ρ 2 + 9 * ρ 1 + 1) 7 = ρ 19 := m19
  have m20 : γ 0 10 (ρ 2 + 9 * ρ 1 + 1) 9 = ρ 20 := m20
  have m21 : γ 0 10 (ρ 2 + 9 * ρ 1 + 1) 12 = ρ 21 := m21
  have m22 : γ 1 2 0 6 = ρ 23 := m22
  have m23 : γ 3 2 0 6 = ρ 24 := m23
  have m24 : γ 3 2 0 4 = ρ 12 := m24
  have m25 : γ 3 2 0 9 = ρ 23 := m25
  have m26 : γ 4 2 0 6 = ρ 26 := m26
  have m27 : γ 3 2 0 8 = ρ 27 := m27
  have m28 : γ 6 2 0 6 = ρ 28 := m28
  have m29 : γ 6 10 (ρ 2 + 9 * ρ 1 + 1) 4 = ρ 29 := m29
  have m30 : γ 6 10 (9 * ρ 1) 8 = ρ 9 := m30
  have m31 : γ 6 10 (9 * ρ 1) 12 = ρ 10 := m31
  have m32 : γ 6 2 0 4 = ρ 30 := m32
  have m33 : γ 6 2 0 9 = ρ 31 := m33
  have m34 : γ 6 3 0 1 = ρ 32 := m34
  have m35 : γ 6 10 (ρ 2 + 9 * ρ 1 + 1) 5 = ρ 33 := m35
  have m36 : γ 6 10 (ρ 2 + 9 * ρ 1 + 1) 7 = ρ 23 := m36
  have m37 : γ 6 10 (ρ 2 + 9 * ρ 1 + 1) 8 = (-1) := m37
  have m38 : γ 6 10 (ρ 2 + 9 * ρ 1 + 1) 9 = (-1) := m38
  have m39 : γ 6 10 (ρ 2 + 9 * ρ 1 + 1) 12 = 0 := m39
  obtain ⟨⟨⟨⟨⟨⟨-, c1⟩, c2⟩, c3⟩, c4⟩, c5⟩, c6⟩ := hc
  have c1 : ∀ (G : Nat) (k j : Int), ¬ rMdP m77_ G j → γ 1 G k j = γ 0 G k j := c1
  have c2 : ∀ (G : Nat) (k j : Int), ¬ rMdP m0_ G j → γ 2 G k j = γ 1 G k j := c2
  have c3 : ∀ (G : Nat) (k j : Int), ¬ rMdP m78_ G j → γ 3 G k j = γ 2 G k j := c3
  have c4 : ∀ (G : Nat) (k j : Int), ¬ rMdP m77_ G j → γ 4 G k j = γ 3 G k j := c4
  have c5 : ∀ (G : Nat) (k j : Int), ¬ rMdP m0_ G j → γ 5 G k j = γ 4 G k j := c5
  have c6 : ∀ (G : Nat) (k j : Int), ¬ rMdP m104_ G j → γ 6 G k j = γ 5 G k j := c6
  obtain ⟨l0, l1, l2, l3, l4, l5, l6, -⟩ := hl
  have l0 : sn114 [ρ 3, ρ 4] (γ 0) 0 (ρ 22) (γ 1) := hS114 _ _ _ _ _ l0
  have l1 : ρ 22 ≠ 33 := l1
  have l2 : sn106 [ρ 22] (γ 1) 0 1 (γ 2) := hS106 _ _ _ _ _ l2
  have l3 : sn115 [ρ 23, ρ 4, ρ 12, ρ 14] (γ 2) 0 1 (γ 3) := hS115 _ _ _ _ _ l3
  have l4 : sn114 [ρ 24, ρ 4] (γ 3) 0 (ρ 25) (γ 4) := hS114 _ _ _ _ _ l4
  have l5 : sn105 [ρ 25] (γ 4) 0 0 (γ 5) := hS105 _ _ _ _ _ l5
  have l6 : sn155 [ρ 27, ρ 23, ρ 0, ρ 1, ρ 2, ρ 26, ρ 4, ρ 5, ρ 9, ρ 10, ρ 12, ρ 13, ρ 23, ρ 15, ρ 17, ρ 18, ρ 19, ρ 7, ρ 20, ρ 21] (γ 5) 0 0 (γ 6) := hS155 _ _ _ _ _ l6
  show sn157 [ρ 0, ρ 1, ρ 2, ρ 3, ρ 4, ρ 5, ρ 6, ρ 7, ρ 8, ρ 9, ρ 10, ρ 11, ρ 12, ρ 13, ρ 14, ρ 15, ρ 16, ρ 17, ρ 18, ρ 19, ρ 20, ρ 21] (γ 0) 0 0 (γ 6)
  refine Eq.symm ?_
  show fn157 [] (γ 0) = _
  unfold fn157
  refine (zLet_eq m0).trans ?_
  refine (zLet_eq m1).trans ?_
  refine (zLet_eq m2).trans ?_
  refine (zLet_eq (show fn114 [] (γ 0) = (0, ρ 22, γ 1) from l0.symm)).trans ?_
  refine (zLet_eq (show _ = γ 1 from rfl)).trans ?_
  refine (if_pos (show (0 : Int) ≤ ρ 22 by omega)).trans ?_
  refine (zLet_eq (show _ = ρ 22 from rfl)).trans ?_
  refine (zLet_eq m22).trans ?_
  refine (if_pos (show ρ 22 ≠ 33 by omega)).trans ?_
  refine (zLet_eq (show fn106 [ρ 22] (γ 1) = (0, 1, γ 2) from l2.symm)).trans ?_
  refine (zLet_eq (show _ = γ 2 from rfl)).trans ?_
  refine (if_pos (show (1 : Int) ≤ 1 by omega)).trans ?_
  refine (zLet_eq (show fn115 [] (γ 2) = (0, 1, γ 3) from l3.symm)).trans ?_
  refine (zLet_eq (show _ = γ 3 from rfl)).trans ?_
  refine (if_pos (show (1 : Int) ≤ 1 by omega)).trans ?_
  refine (zLet_eq (show fn114 [] (γ 3) = (0, ρ 25, γ 4) from l4.symm)).trans ?_
  refine (zLet_eq (show _ = γ 4 from rfl)).trans ?_
  refine (if_pos (show (0 : Int) ≤ ρ 25 by omega)).trans ?_
  refine (zLet_eq (show _ = ρ 25 from rfl)).trans ?_
  refine (zLet_eq (show fn105 [ρ 25] (γ 4) = (0, 0, γ 5) from l5.symm)).trans ?_
  refine (zLet_eq (show _ = γ 5 from rfl)).trans ?_
  refine (if_neg (show ¬ ((1 : Int) ≤ 0) by omega)).trans ?_
  refine (zLet_eq m27).trans ?_
  refine (zLet_eq (show fn155 [ρ 27, ρ 23] (γ 5) = (0, 0, γ 6) from l6.symm)).trans ?_
  refine (zLet_eq (show _ = γ 6 from rfl)).trans ?_
  refine (if_neg (show ¬ ((1 : Int) ≤ 0) by omega)).trans ?_
  rfl
theorem vn157_23 {S : Nat → zSpc} (hS103 : ∀ x g o v gz, S 103 x g o v gz → sn103 x g o v gz) (hS104 : ∀ x g o v gz, S 104 x g o v gz → sn104 x g o v gz) (hS105 : ∀ x g o v gz, S 105 x g o v gz → sn105 x g o v gz) (hS106 : ∀ x g o v gz, S 106 x g o v gz → sn106 x g o v gz) (hS107 : ∀ x g o v gz, S 107 x g o v gz → sn107 x g o v gz) (hS109 : ∀ x g o v gz, S 109 x g o v gz → sn109 x g o v gz) (hS114 : ∀ x g o v gz, S 114 x g o v gz → sn114 x g o v gz) (hS115 : ∀ x g o v gz, S 115 x g o v gz → sn115 x g o v gz) (hS116 : ∀ x g o v gz, S 116 x g o v gz → sn116 x g o v gz) (hS135 : ∀ x g o v gz, S 135 x g o v gz → sn135 x g o v gz) (hS139 : ∀ x g o v gz, S 139 x g o v gz → sn139 x g o v gz) (hS145 : ∀ x g o v gz, S 145 x g o v gz → sn145 x g o v gz) (hS154 : ∀ x g o v gz, S 154 x g o v gz → sn154 x g o v gz) (hS155 : ∀ x g o v gz, S 155 x g o v gz → sn155 x g o v gz) (hS156 : ∀ x g o v gz, S 156 x g o v gz → sn156 x g o v gz) {a : List Int} {g : rHp} : ∀ (ρ : Nat → Int) (γ : Nat → rHp), zO 22 S a g q157_23 ρ γ → zGl (fun _ _ _ => True) (sn157 a g) q157_23 ρ γ := by
  intro ρ γ h
  obtain ⟨ha, hg, hr, hf, hm, hc, hl⟩ := h
  have ha : a = [ρ 0, ρ 1, ρ 2, ρ 3, ρ 4, ρ 5, ρ 6, ρ 7, ρ 8, ρ 9, ρ 10, ρ 11, ρ 12, ρ 13, ρ 14, ρ 15, ρ 16, ρ 17, ρ 18, ρ 19, ρ 20, ρ 21] := ha
  subst ha
  subst hg
  obtain ⟨r0, r1, r2, r3, r4, r5, r6, r7, r8, r9, r10, r11, r12, r13, r14, r15, r16, r17, r18, r19, r20, r21, r22, r23, r24, r25, r26, r27, r28, r29, r30, r31, r32, -⟩ := hr
  have r0 : (0 : Int) ≤ ρ 0 ∧ ρ 0 ≤ 60 := r0
  have r1 : (0 : Int) ≤ ρ 1 ∧ ρ 1 ≤ 60 := r1
  have r2 : (0 : Int) ≤ ρ 2 ∧ ρ 2 ≤ 7 := r2
  have r3 : (0 : Int) ≤ ρ 3 ∧ ρ 3 ≤ 2000 := r3
  have r4 : (0 : Int) ≤ ρ 4 ∧ ρ 4 ≤ 2000 := r4
  have r5 : (0 : Int) ≤ ρ 5 ∧ ρ 5 ≤ 8 := r5
  have r6 : ((-1) : Int) ≤ ρ 6 ∧ ρ 6 ≤ 7 := r6
  have r7 : ((-1) : Int) ≤ ρ 7 ∧ ρ 7 ≤ 19 := r7
  have r8 : (0 : Int) ≤ ρ 8 ∧ ρ 8 ≤ 2 := r8
  have r9 : ((-1) : Int) ≤ ρ 9 ∧ ρ 9 ≤ 19 := r9
  have r10 : (0 : Int) ≤ ρ 10 ∧ ρ 10 ≤ 4 := r10
  have r11 : (0 : Int) ≤ ρ 11 ∧ ρ 11 ≤ 20 := r11
  have r12 : ((-2147483648) : Int) ≤ ρ 12 ∧ ρ 12 ≤ 2147483647 := r12
  have r13 : ((-2147483648) : Int) ≤ ρ 13 ∧ ρ 13 ≤ 2147483647 := r13
  have r14 : ((-2147483648) : Int) ≤ ρ 14 ∧ ρ 14 ≤ 2147483647 := r14
  have r15 : (0 : Int) ≤ ρ 15 ∧ ρ 15 ≤ 8 := r15
  have r16 : (0 : Int) ≤ ρ 16 ∧ ρ 16 ≤ 32 := r16
  have r17 : (0 : Int) ≤ ρ 17 ∧ ρ 17 ≤ 5120 := r17
  have r18 : (0 : Int) ≤ ρ 18 ∧ ρ 18 ≤ 4 := r18
  have r19 : ((-2147483648) : Int) ≤ ρ 19 ∧ ρ 19 ≤ 2147483647 := r19
  have r20 : ((-1) : Int) ≤ ρ 20 ∧ ρ 20 ≤ 3 := r20
  have r21 : (0 : Int) ≤ ρ 21 ∧ ρ 21 ≤ 4 := r21
  have r22 : (65 : Int) ≤ ρ 22 ∧ ρ 22 ≤ 90 := r22
  have r23 : (0 : Int) ≤ ρ 23 ∧ ρ 23 ≤ 1999 := r23
  have r24 : (1 : Int) ≤ ρ 24 ∧ ρ 24 ≤ 2000 := r24
  have r25 : (0 : Int) ≤ ρ 25 ∧ ρ 25 ≤ 255 := r25
  have r26 : (0 : Int) ≤ ρ 26 ∧ ρ 26 ≤ 2000 := r26
  have r27 : ((-9223372036854775808) : Int) ≤ ρ 27 ∧ ρ 27 ≤ 9223372036854775807 := r27
  have r28 : (2 : Int) ≤ ρ 28 ∧ ρ 28 ≤ 2000 := r28
  have r29 : (3 : Int) ≤ ρ 29 ∧ ρ 29 ≤ 5 := r29
  have r30 : ((-2147483648) : Int) ≤ ρ 30 ∧ ρ 30 ≤ 2147483647 := r30
  have r31 : (0 : Int) ≤ ρ 31 ∧ ρ 31 ≤ 5120 := r31
  have r32 : (1 : Int) ≤ ρ 32 ∧ ρ 32 ≤ 2 := r32
  obtain ⟨f0, f1, f2, f3, f4, f5, f6, f7, f8, f9, f10, -⟩ := hf
  have f0 : (0 : Int) ≤ ρ 28 + -ρ 26 + (-1) := f0
  have f1 : (0 : Int) ≤ ρ 31 + -ρ 17 := f1
  have f2 : (0 : Int) ≤ -ρ 32 + ρ 4 := f2
  have f3 : (0 : Int) ≤ -ρ 26 + ρ 4 + (-1) := f3
  have f4 : (0 : Int) ≤ ρ 26 + -ρ 24 := f4
  have f5 : (0 : Int) ≤ -ρ 24 + ρ 4 + (-1) := f5
  have f6 : (0 : Int) ≤ -ρ 23 + ρ 4 + (-1) := f6
  have f7 : (0 : Int) ≤ ρ 24 + -ρ 23 + (-1) := f7
  have f8 : (0 : Int) ≤ -ρ 24 + ρ 4 := f8
  have f9 : (0 : Int) ≤ ρ 23 + -ρ 3 := f9
  have f10 : (0 : Int) ≤ ρ 4 + -ρ 3 + (-1) := f10
  obtain ⟨m0, m1, m2, m3, m4, m5, m6, m7, m8, m9, m10, m11, m12, m13, m14, m15, m16, m17, m18, m19, m20, m21, m22, m23, m24, m25, m26, m27, m28, m29, m30, m31, m32, m33, m34, m35, m36, m37, m38, m39, -⟩ := hm
  have m0 : γ 0 1 0 10 = ρ 0 := m0
  have m1 : γ 0 40 0 (ρ 0) = ρ 1 := m1
  have m2 : γ 0 9 (ρ 1) 2 = ρ 2 := m2
  have m3 : γ 0 2 0 6 = ρ 3 := m3
  have m4 : γ 0 2 0 3 = ρ 4 := m4
  have m5 : γ 0 10 (ρ 2 + 9 * ρ 1 + 1) 4 = ρ 5 := m5
  have m6 : γ 0 10 (ρ 2 + 9 * ρ 1 + 1) 11 = ρ 6 := m6
  have m7 : γ 0 10 (ρ 2 + 9 * ρ 1 + 1) 8 = ρ 7 := m7
  have m8 : γ 0 2 0 7 = ρ 8 := m8
  have m9 : γ 0 10 (9 * ρ 1) 8 = ρ 9 := m9
  have m10 : γ 0 10 (9 * ρ 1) 12 = ρ 10 := m10
  have m11 : γ 0 1 0 7 = ρ 11 := m11
  have m12 : γ 0 2 0 4 = ρ 12 := m12
  have m13 : γ 0 2 0 5 = ρ 13 := m13
  have m14 : γ 0 2 0 9 = ρ 14 := m14
  have m15 : γ 0 2 0 13 = ρ 15 := m15
  have m16 : γ 0 2 0 16 = ρ 16 := m16
  have m17 : γ 0 3 0 1 = ρ 17 := m17
  have m18 : γ 0 10 (ρ 2 + 9 * ρ 1 + 1) 5 = ρ 18 := m18
  have m19 : γ 0 10 (ρ 2 + 9 * ρ 1 + 1) 7 = ρ 19 := m19
  have m20 : γ 0 10 (ρ 2 + 9 * ρ 1 + 1) 9 = ρ 20 := m20
  have m21 : γ 0 10 (ρ 2 + 9 * ρ 1 + 1) 12 = ρ 21 := m21
  have m22 : γ 1 2 0 6 = ρ 23 := m22
  have m23 : γ 3 2 0 6 = ρ 24 := m23
  have m24 : γ 3 2 0 4 = ρ 12 := m24
  have m25 : γ 3 2 0 9 = ρ 23 := m25
  have m26 : γ 4 2 0 6 = ρ 26 := m26
  have m27 : γ 3 2 0 8 = ρ 27 := m27
  have m28 : γ 6 2 0 6 = ρ 28 := m28
  have m29 : γ 6 10 (ρ 2 + 9 * ρ 1 + 1) 4 = ρ 29 := m29
  have m30 : γ 6 10 (9 * ρ 1) 8 = ρ 9 := m30
  have m31 : γ 6 10 (9 * ρ 1) 12 = ρ 10 := m31
  have m32 : γ 6 2 0 4 = ρ 12 := m32
  have m33 : γ 6 2 0 9 = ρ 30 := m33
  have m34 : γ 6 3 0 1 = ρ 31 := m34
  have m35 : γ 6 10 (ρ 2 + 9 * ρ 1 + 1) 5 = ρ 32 := m35
  have m36 : γ 6 10 (ρ 2 + 9 * ρ 1 + 1) 7 = ρ 23 := m36
  have m37 : γ 6 10 (ρ 2 + 9 * ρ 1 + 1) 8 = (-1) := m37
  have m38 : γ 6 10 (ρ 2 + 9 * ρ 1 + 1) 9 = (-1) := m38
  have m39 : γ 6 10 (ρ 2 + 9 * ρ 1 + 1) 12 = 0 := m39
  obtain ⟨⟨⟨⟨⟨⟨-, c1⟩, c2⟩, c3⟩, c4⟩, c5⟩, c6⟩ := hc
  have c1 : ∀ (G : Nat) (k j : Int), ¬ rMdP m77_ G j → γ 1 G k j = γ 0 G k j := c1
  have c2 : ∀ (G : Nat) (k j : Int), ¬ rMdP m0_ G j → γ 2 G k j = γ 1 G k j := c2
  have c3 : ∀ (G : Nat) (k j : Int), ¬ rMdP m78_ G j → γ 3 G k j = γ 2 G k j := c3
  have c4 : ∀ (G : Nat) (k j : Int), ¬ rMdP m77_ G j → γ 4 G k j = γ 3 G k j := c4
  have c5 : ∀ (G : Nat) (k j : Int), ¬ rMdP m0_ G j → γ 5 G k j = γ 4 G k j := c5
  have c6 : ∀ (G : Nat) (k j : Int), ¬ rMdP m104_ G j → γ 6 G k j = γ 5 G k j := c6
  obtain ⟨l0, l1, l2, l3, l4, l5, l6, -⟩ := hl
  have l0 : sn114 [ρ 3, ρ 4] (γ 0) 0 (ρ 22) (γ 1) := hS114 _ _ _ _ _ l0
  have l1 : ρ 22 ≠ 33 := l1
  have l2 : sn106 [ρ 22] (γ 1) 0 1 (γ 2) := hS106 _ _ _ _ _ l2
  have l3 : sn115 [ρ 23, ρ 4, ρ 12, ρ 14] (γ 2) 0 1 (γ 3) := hS115 _ _ _ _ _ l3
  have l4 : sn114 [ρ 24, ρ 4] (γ 3) 0 (ρ 25) (γ 4) := hS114 _ _ _ _ _ l4
  have l5 : sn105 [ρ 25] (γ 4) 0 0 (γ 5) := hS105 _ _ _ _ _ l5
  have l6 : sn155 [ρ 27, ρ 23, ρ 0, ρ 1, ρ 2, ρ 26, ρ 4, ρ 5, ρ 9, ρ 10, ρ 12, ρ 13, ρ 23, ρ 15, ρ 17, ρ 18, ρ 19, ρ 7, ρ 20, ρ 21] (γ 5) 0 1 (γ 6) := hS155 _ _ _ _ _ l6
  show sn157 [ρ 0, ρ 1, ρ 2, ρ 3, ρ 4, ρ 5, ρ 6, ρ 7, ρ 8, ρ 9, ρ 10, ρ 11, ρ 12, ρ 13, ρ 14, ρ 15, ρ 16, ρ 17, ρ 18, ρ 19, ρ 20, ρ 21] (γ 0) 0 1 (γ 6)
  refine Eq.symm ?_
  show fn157 [] (γ 0) = _
  unfold fn157
  refine (zLet_eq m0).trans ?_
  refine (zLet_eq m1).trans ?_
  refine (zLet_eq m2).trans ?_
  refine (zLet_eq (show fn114 [] (γ 0) = (0, ρ 22, γ 1) from l0.symm)).trans ?_
  refine (zLet_eq (show _ = γ 1 from rfl)).trans ?_
  refine (if_pos (show (0 : Int) ≤ ρ 22 by omega)).trans ?_
  refine (zLet_eq (show _ = ρ 22 from rfl)).trans ?_
  refine (zLet_eq m22).trans ?_
  refine (if_pos (show ρ 22 ≠ 33 by omega)).trans ?_
  refine (zLet_eq (show fn106 [ρ 22] (γ 1) = (0, 1, γ 2) from l2.symm)).trans ?_
  refine (zLet_eq (show _ = γ 2 from rfl)).trans ?_
  refine (if_pos (show (1 : Int) ≤ 1 by omega)).trans ?_
  refine (zLet_eq (show fn115 [] (γ 2) = (0, 1, γ 3) from l3.symm)).trans ?_
  refine (zLet_eq (show _ = γ 3 from rfl)).trans ?_
  refine (if_pos (show (1 : Int) ≤ 1 by omega)).trans ?_
  refine (zLet_eq (show fn114 [] (γ 3) = (0, ρ 25, γ 4) from l4.symm)).trans ?_
  refine (zLet_eq (show _ = γ 4 from rfl)).trans ?_
  refine (if_pos (show (0 : Int) ≤ ρ 25 by omega)).trans ?_
  refine (zLet_eq (show _ = ρ 25 from rfl)).trans ?_
  refine (zLet_eq (show fn105 [ρ 25] (γ 4) = (0, 0, γ 5) from l5.symm)).trans ?_
  refine (zLet_eq (show _ = γ 5 from rfl)).trans ?_
  refine (if_neg (show ¬ ((1 : Int) ≤ 0) by omega)).trans ?_
  refine (zLet_eq m27).trans ?_
  refine (zLet_eq (show fn155 [ρ 27, ρ 23] (γ 5) = (0, 1, γ 6) from l6.symm)).trans ?_
  refine (zLet_eq (show _ = γ 6 from rfl)).trans ?_
  refine (if_pos (show (1 : Int) ≤ 1 by omega)).trans ?_
  rfl
theorem vn157_24 {S : Nat → zSpc} (hS103 : ∀ x g o v gz, S 103 x g o v gz → sn103 x g o v gz) (hS104 : ∀ x g o v gz, S 104 x g o v gz → sn104 x g o v gz) (hS105 : ∀ x g o v gz, S 105 x g o v gz → sn105 x g o v gz) (hS106 : ∀ x g o v gz, S 106 x g o v gz → sn106 x g o v gz) (hS107 : ∀ x g o v gz, S 107 x g o v gz → sn107 x g o v gz) (hS109 : ∀ x g o v gz, S 109 x g o v gz → sn109 x g o v gz) (hS114 : ∀ x g o v gz, S 114 x g o v gz → sn114 x g o v gz) (hS115 : ∀ x g o v gz, S 115 x g o v gz → sn115 x g o v gz) (hS116 : ∀ x g o v gz, S 116 x g o v gz → sn116 x g o v gz) (hS135 : ∀ x g o v gz, S 135 x g o v gz → sn135 x g o v gz) (hS139 : ∀ x g o v gz, S 139 x g o v gz → sn139 x g o v gz) (hS145 : ∀ x g o v gz, S 145 x g o v gz → sn145 x g o v gz) (hS154 : ∀ x g o v gz, S 154 x g o v gz → sn154 x g o v gz) (hS155 : ∀ x g o v gz, S 155 x g o v gz → sn155 x g o v gz) (hS156 : ∀ x g o v gz, S 156 x g o v gz → sn156 x g o v gz) {a : List Int} {g : rHp} : ∀ (ρ : Nat → Int) (γ : Nat → rHp), zO 22 S a g q157_24 ρ γ → zGl (fun _ _ _ => True) (sn157 a g) q157_24 ρ γ := by
  intro ρ γ h
  obtain ⟨ha, hg, hr, hf, hm, hc, hl⟩ := h
  have ha : a = [ρ 0, ρ 1, ρ 2, ρ 3, ρ 4, ρ 5, ρ 6, ρ 7, ρ 8, ρ 9, ρ 10, ρ 11, ρ 12, ρ 13, ρ 14, ρ 15, ρ 16, ρ 17, ρ 18, ρ 19, ρ 20, ρ 21] := ha
  subst ha
  subst hg
  obtain ⟨r0, r1, r2, r3, r4, r5, r6, r7, r8, r9, r10, r11, r12, r13, r14, r15, r16, r17, r18, r19, r20, r21, r22, r23, r24, r25, r26, r27, r28, r29, r30, r31, r32, r33, r34, r35, r36, r37, r38, r39, -⟩ := hr
  have r0 : (0 : Int) ≤ ρ 0 ∧ ρ 0 ≤ 60 := r0
  have r1 : (0 : Int) ≤ ρ 1 ∧ ρ 1 ≤ 60 := r1
  have r2 : (0 : Int) ≤ ρ 2 ∧ ρ 2 ≤ 7 := r2
  have r3 : (0 : Int) ≤ ρ 3 ∧ ρ 3 ≤ 2000 := r3
  have r4 : (0 : Int) ≤ ρ 4 ∧ ρ 4 ≤ 2000 := r4
  have r5 : (0 : Int) ≤ ρ 5 ∧ ρ 5 ≤ 8 := r5
  have r6 : ((-1) : Int) ≤ ρ 6 ∧ ρ 6 ≤ 7 := r6
  have r7 : ((-1) : Int) ≤ ρ 7 ∧ ρ 7 ≤ 19 := r7
  have r8 : (0 : Int) ≤ ρ 8 ∧ ρ 8 ≤ 2 := r8
  have r9 : ((-1) : Int) ≤ ρ 9 ∧ ρ 9 ≤ 19 := r9
  have r10 : (0 : Int) ≤ ρ 10 ∧ ρ 10 ≤ 4 := r10
  have r11 : (0 : Int) ≤ ρ 11 ∧ ρ 11 ≤ 20 := r11
  have r12 : ((-2147483648) : Int) ≤ ρ 12 ∧ ρ 12 ≤ 2147483647 := r12
  have r13 : ((-2147483648) : Int) ≤ ρ 13 ∧ ρ 13 ≤ 2147483647 := r13
  have r14 : ((-2147483648) : Int) ≤ ρ 14 ∧ ρ 14 ≤ 2147483647 := r14
  have r15 : (0 : Int) ≤ ρ 15 ∧ ρ 15 ≤ 8 := r15
  have r16 : (0 : Int) ≤ ρ 16 ∧ ρ 16 ≤ 32 := r16
  have r17 : (0 : Int) ≤ ρ 17 ∧ ρ 17 ≤ 5120 := r17
  have r18 : (0 : Int) ≤ ρ 18 ∧ ρ 18 ≤ 4 := r18
  have r19 : ((-2147483648) : Int) ≤ ρ 19 ∧ ρ 19 ≤ 2147483647 := r19
  have r20 : ((-1) : Int) ≤ ρ 20 ∧ ρ 20 ≤ 3 := r20
  have r21 : (0 : Int) ≤ ρ 21 ∧ ρ 21 ≤ 4 := r21
  have r22 : (65 : Int) ≤ ρ 22 ∧ ρ 22 ≤ 90 := r22
  have r23 : (0 : Int) ≤ ρ 23 ∧ ρ 23 ≤ 1999 := r23
  have r24 : (1 : Int) ≤ ρ 24 ∧ ρ 24 ≤ 2000 := r24
  have r25 : (97 : Int) ≤ ρ 25 ∧ ρ 25 ≤ 122 := r25
  have r26 : (0 : Int) ≤ ρ 26 ∧ ρ 26 ≤ 1999 := r26
  have r27 : ((-9223372036854775808) : Int) ≤ ρ 27 ∧ ρ 27 ≤ 9223372036854775807 := r27
  have r28 : (1 : Int) ≤ ρ 28 ∧ ρ 28 ≤ 2000 := r28
  have r29 : (0 : Int) ≤ ρ 29 ∧ ρ 29 ≤ 8 := r29
  have r30 : ((-1) : Int) ≤ ρ 30 ∧ ρ 30 ≤ 7 := r30
  have r31 : ((-2147483648) : Int) ≤ ρ 31 ∧ ρ 31 ≤ 2147483647 := r31
  have r32 : ((-2147483648) : Int) ≤ ρ 32 ∧ ρ 32 ≤ 2147483647 := r32
  have r33 : (0 : Int) ≤ ρ 33 ∧ ρ 33 ≤ 8 := r33
  have r34 : (0 : Int) ≤ ρ 34 ∧ ρ 34 ≤ 5120 := r34
  have r35 : (0 : Int) ≤ ρ 35 ∧ ρ 35 ≤ 4 := r35
  have r36 : ((-2147483648) : Int) ≤ ρ 36 ∧ ρ 36 ≤ 2147483647 := r36
  have r37 : ((-1) : Int) ≤ ρ 37 ∧ ρ 37 ≤ 19 := r37
  have r38 : ((-1) : Int) ≤ ρ 38 ∧ ρ 38 ≤ 3 := r38
  have r39 : (0 : Int) ≤ ρ 39 ∧ ρ 39 ≤ 4 := r39
  obtain ⟨f0, f1, f2, f3, f4, f5, f6, f7, f8, f9, f10, f11, f12, f13, -⟩ := hf
  have f0 : (0 : Int) ≤ -ρ 26 + ρ 4 + (-1) := f0
  have f1 : (0 : Int) ≤ ρ 28 + -ρ 26 + (-1) := f1
  have f2 : (0 : Int) ≤ ρ 33 + -ρ 15 := f2
  have f3 : (0 : Int) ≤ ρ 34 + -ρ 17 := f3
  have f4 : (0 : Int) ≤ -ρ 37 + ρ 7 := f4
  have f5 : (0 : Int) ≤ -ρ 38 + ρ 20 := f5
  have f6 : (0 : Int) ≤ -ρ 39 + ρ 21 := f6
  have f7 : (0 : Int) ≤ ρ 26 + -ρ 24 := f7
  have f8 : (0 : Int) ≤ -ρ 24 + ρ 4 + (-1) := f8
  have f9 : (0 : Int) ≤ -ρ 23 + ρ 4 + (-1) := f9
  have f10 : (0 : Int) ≤ ρ 24 + -ρ 23 + (-1) := f10
  have f11 : (0 : Int) ≤ -ρ 24 + ρ 4 := f11
  have f12 : (0 : Int) ≤ ρ 23 + -ρ 3 := f12
  have f13 : (0 : Int) ≤ ρ 4 + -ρ 3 + (-1) := f13
  obtain ⟨m0, m1, m2, m3, m4, m5, m6, m7, m8, m9, m10, m11, m12, m13, m14, m15, m16, m17, m18, m19, m20, m21, m22, m23, m24, m25, m26, m27, m28, m29, m30, m31, m32, m33, m34, m35, m36, m37, m38, m39, m40, m41, m42, -⟩ := hm
  have m0 : γ 0 1 0 10 = ρ 0 := m0
  have m1 : γ 0 40 0 (ρ 0) = ρ 1 := m1
  have m2 : γ 0 9 (ρ 1) 2 = ρ 2 := m2
  have m3 : γ 0 2 0 6 = ρ 3 := m3
  have m4 : γ 0 2 0 3 = ρ 4 := m4
  have m5 : γ 0 10 (ρ 2 + 9 * ρ 1 + 1) 4 = ρ 5 := m5
  have m6 : γ 0 10 (ρ 2 + 9 * ρ 1 + 1) 11 = ρ 6 := m6
  have m7 : γ 0 10 (ρ 2 + 9 * ρ 1 + 1) 8 = ρ 7 := m7
  have m8 : γ 0 2 0 7 = ρ 8 := m8
  have m9 : γ 0 10 (9 * ρ 1) 8 = ρ 9 := m9
  have m10 : γ 0 10 (9 * ρ 1) 12 = ρ 10 := m10
  have m11 : γ 0 1 0 7 = ρ 11 := m11
  have m12 : γ 0 2 0 4 = ρ 12 := m12
  have m13 : γ 0 2 0 5 = ρ 13 := m13
  have m14 : γ 0 2 0 9 = ρ 14 := m14
  have m15 : γ 0 2 0 13 = ρ 15 := m15
  have m16 : γ 0 2 0 16 = ρ 16 := m16
  have m17 : γ 0 3 0 1 = ρ 17 := m17
  have m18 : γ 0 10 (ρ 2 + 9 * ρ 1 + 1) 5 = ρ 18 := m18
  have m19 : γ 0 10 (ρ 2 + 9 * ρ 1 + 1) 7 = ρ 19 := m19
  have m20 : γ 0 10 (ρ 2 + 9 * ρ 1 + 1) 9 = ρ 20 := m20
  have m21 : γ 0 10 (ρ 2 + 9 * ρ 1 + 1) 12 = ρ 21 := m21
  have m22 : γ 1 2 0 6 = ρ 23 := m22
  have m23 : γ 3 2 0 6 = ρ 24 := m23
  have m24 : γ 3 2 0 4 = ρ 12 := m24
  have m25 : γ 3 2 0 9 = ρ 23 := m25
  have m26 : γ 4 2 0 6 = ρ 26 := m26
  have m27 : γ 3 2 0 8 = ρ 27 := m27
  have m28 : γ 6 2 0 6 = ρ 28 := m28
  have m29 : γ 6 10 (ρ 2 + 9 * ρ 1 + 1) 4 = ρ 29 := m29
  have m30 : γ 6 10 (ρ 2 + 9 * ρ 1 + 1) 11 = ρ 30 := m30
  have m31 : γ 6 10 (9 * ρ 1) 8 = ρ 9 := m31
  have m32 : γ 6 10 (9 * ρ 1) 12 = ρ 10 := m32
  have m33 : γ 6 2 0 4 = ρ 31 := m33
  have m34 : γ 6 2 0 5 = ρ 13 := m34
  have m35 : γ 6 2 0 9 = ρ 32 := m35
  have m36 : γ 6 2 0 13 = ρ 33 := m36
  have m37 : γ 6 3 0 1 = ρ 34 := m37
  have m38 : γ 6 10 (ρ 2 + 9 * ρ 1 + 1) 5 = ρ 35 := m38
  have m39 : γ 6 10 (ρ 2 + 9 * ρ 1 + 1) 7 = ρ 36 := m39
  have m40 : γ 6 10 (ρ 2 + 9 * ρ 1 + 1) 8 = ρ 37 := m40
  have m41 : γ 6 10 (ρ 2 + 9 * ρ 1 + 1) 9 = ρ 38 := m41
  have m42 : γ 6 10 (ρ 2 + 9 * ρ 1 + 1) 12 = ρ 39 := m42
  obtain ⟨⟨⟨⟨⟨⟨-, c1⟩, c2⟩, c3⟩, c4⟩, c5⟩, c6⟩ := hc
  have c1 : ∀ (G : Nat) (k j : Int), ¬ rMdP m77_ G j → γ 1 G k j = γ 0 G k j := c1
  have c2 : ∀ (G : Nat) (k j : Int), ¬ rMdP m0_ G j → γ 2 G k j = γ 1 G k j := c2
  have c3 : ∀ (G : Nat) (k j : Int), ¬ rMdP m78_ G j → γ 3 G k j = γ 2 G k j := c3
  have c4 : ∀ (G : Nat) (k j : Int), ¬ rMdP m77_ G j → γ 4 G k j = γ 3 G k j := c4
  have c5 : ∀ (G : Nat) (k j : Int), ¬ rMdP m0_ G j → γ 5 G k j = γ 4 G k j := c5
  have c6 : ∀ (G : Nat) (k j : Int), ¬ rMdP m105_ G j → γ 6 G k j = γ 5 G k j := c6
  obtain ⟨l0, l1, l2, l3, l4, l5, l6, -⟩ := hl
  have l0 : sn114 [ρ 3, ρ 4] (γ 0) 0 (ρ 22) (γ 1) := hS114 _ _ _ _ _ l0
  have l1 : ρ 22 ≠ 33 := l1
  have l2 : sn106 [ρ 22] (γ 1) 0 1 (γ 2) := hS106 _ _ _ _ _ l2
  have l3 : sn115 [ρ 23, ρ 4, ρ 12, ρ 14] (γ 2) 0 1 (γ 3) := hS115 _ _ _ _ _ l3
  have l4 : sn114 [ρ 24, ρ 4] (γ 3) 0 (ρ 25) (γ 4) := hS114 _ _ _ _ _ l4
  have l5 : sn105 [ρ 25] (γ 4) 0 1 (γ 5) := hS105 _ _ _ _ _ l5
  have l6 : sn156 [ρ 27, ρ 23, ρ 0, ρ 1, ρ 2, ρ 26, ρ 4, ρ 5, ρ 6, ρ 9, ρ 10, ρ 12, ρ 13, ρ 23, ρ 15, ρ 17, ρ 18, ρ 19, ρ 7, ρ 20, ρ 21] (γ 5) 0 0 (γ 6) := hS156 _ _ _ _ _ l6
  show sn157 [ρ 0, ρ 1, ρ 2, ρ 3, ρ 4, ρ 5, ρ 6, ρ 7, ρ 8, ρ 9, ρ 10, ρ 11, ρ 12, ρ 13, ρ 14, ρ 15, ρ 16, ρ 17, ρ 18, ρ 19, ρ 20, ρ 21] (γ 0) 0 0 (γ 6)
  refine Eq.symm ?_
  show fn157 [] (γ 0) = _
  unfold fn157
  refine (zLet_eq m0).trans ?_
  refine (zLet_eq m1).trans ?_
  refine (zLet_eq m2).trans ?_
  refine (zLet_eq (show fn114 [] (γ 0) = (0, ρ 22, γ 1) from l0.symm)).trans ?_
  refine (zLet_eq (show _ = γ 1 from rfl)).trans ?_
  refine (if_pos (show (0 : Int) ≤ ρ 22 by omega)).trans ?_
  refine (zLet_eq (show _ = ρ 22 from rfl)).trans ?_
  refine (zLet_eq m22).trans ?_
  refine (if_pos (show ρ 22 ≠ 33 by omega)).trans ?_
  refine (zLet_eq (show fn106 [ρ 22] (γ 1) = (0, 1, γ 2) from l2.symm)).trans ?_
  refine (zLet_eq (show _ = γ 2 from rfl)).trans ?_
  refine (if_pos (show (1 : Int) ≤ 1 by omega)).trans ?_
  refine (zLet_eq (show fn115 [] (γ 2) = (0, 1, γ 3) from l3.symm)).trans ?_
  refine (zLet_eq (show _ = γ 3 from rfl)).trans ?_
  refine (if_pos (show (1 : Int) ≤ 1 by omega)).trans ?_
  refine (zLet_eq (show fn114 [] (γ 3) = (0, ρ 25, γ 4) from l4.symm)).trans ?_
  refine (zLet_eq (show _ = γ 4 from rfl)).trans ?_
  refine (if_pos (show (0 : Int) ≤ ρ 25 by omega)).trans ?_
  refine (zLet_eq (show _ = ρ 25 from rfl)).trans ?_
  refine (zLet_eq (show fn105 [ρ 25] (γ 4) = (0, 1, γ 5) from l5.symm)).trans ?_
  refine (zLet_eq (show _ = γ 5 from rfl)).trans ?_
  refine (if_pos (show (1 : Int) ≤ 1 by omega)).trans ?_
  refine (zLet_eq m27).trans ?_
  refine (zLet_eq (show fn156 [ρ 27, ρ 23] (γ 5) = (0, 0, γ 6) from l6.symm)).trans ?_
  refine (zLet_eq (show _ = γ 6 from rfl)).trans ?_
  refine (if_neg (show ¬ ((1 : Int) ≤ 0) by omega)).trans ?_
  rfl
theorem vn157_25 {S : Nat → zSpc} (hS103 : ∀ x g o v gz, S 103 x g o v gz → sn103 x g o v gz) (hS104 : ∀ x g o v gz, S 104 x g o v gz → sn104 x g o v gz) (hS105 : ∀ x g o v gz, S 105 x g o v gz → sn105 x g o v gz) (hS106 : ∀ x g o v gz, S 106 x g o v gz → sn106 x g o v gz) (hS107 : ∀ x g o v gz, S 107 x g o v gz → sn107 x g o v gz) (hS109 : ∀ x g o v gz, S 109 x g o v gz → sn109 x g o v gz) (hS114 : ∀ x g o v gz, S 114 x g o v gz → sn114 x g o v gz) (hS115 : ∀ x g o v gz, S 115 x g o v gz → sn115 x g o v gz) (hS116 : ∀ x g o v gz, S 116 x g o v gz → sn116 x g o v gz) (hS135 : ∀ x g o v gz, S 135 x g o v gz → sn135 x g o v gz) (hS139 : ∀ x g o v gz, S 139 x g o v gz → sn139 x g o v gz) (hS145 : ∀ x g o v gz, S 145 x g o v gz → sn145 x g o v gz) (hS154 : ∀ x g o v gz, S 154 x g o v gz → sn154 x g o v gz) (hS155 : ∀ x g o v gz, S 155 x g o v gz → sn155 x g o v gz) (hS156 : ∀ x g o v gz, S 156 x g o v gz → sn156 x g o v gz) {a : List Int} {g : rHp} : ∀ (ρ : Nat → Int) (γ : Nat → rHp), zO 22 S a g q157_25 ρ γ → zGl (fun _ _ _ => True) (sn157 a g) q157_25 ρ γ := by
  intro ρ γ h
  obtain ⟨ha, hg, hr, hf, hm, hc, hl⟩ := h
  have ha : a = [ρ 0, ρ 1, ρ 2, ρ 3, ρ 4, ρ 5, ρ 6, ρ 7, ρ 8, ρ 9, ρ 10, ρ 11, ρ 12, ρ 13, ρ 14, ρ 15, ρ 16, ρ 17, ρ 18, ρ 19, ρ 20, ρ 21] := ha
  subst ha
  subst hg
  obtain ⟨r0, r1, r2, r3, r4, r5, r6, r7, r8, r9, r10, r11, r12, r13, r14, r15, r16, r17, r18, r19, r20, r21, r22, r23, r24, r25, r26, r27, r28, r29, r30, r31, r32, r33, r34, r35, -⟩ := hr
  have r0 : (0 : Int) ≤ ρ 0 ∧ ρ 0 ≤ 60 := r0
  have r1 : (0 : Int) ≤ ρ 1 ∧ ρ 1 ≤ 60 := r1
  have r2 : (0 : Int) ≤ ρ 2 ∧ ρ 2 ≤ 7 := r2
  have r3 : (0 : Int) ≤ ρ 3 ∧ ρ 3 ≤ 2000 := r3
  have r4 : (0 : Int) ≤ ρ 4 ∧ ρ 4 ≤ 2000 := r4
  have r5 : (0 : Int) ≤ ρ 5 ∧ ρ 5 ≤ 8 := r5
  have r6 : ((-1) : Int) ≤ ρ 6 ∧ ρ 6 ≤ 7 := r6
  have r7 : ((-1) : Int) ≤ ρ 7 ∧ ρ 7 ≤ 19 := r7
  have r8 : (0 : Int) ≤ ρ 8 ∧ ρ 8 ≤ 2 := r8
  have r9 : ((-1) : Int) ≤ ρ 9 ∧ ρ 9 ≤ 19 := r9
  have r10 : (0 : Int) ≤ ρ 10 ∧ ρ 10 ≤ 4 := r10
  have r11 : (0 : Int) ≤ ρ 11 ∧ ρ 11 ≤ 20 := r11
  have r12 : ((-2147483648) : Int) ≤ ρ 12 ∧ ρ 12 ≤ 2147483647 := r12
  have r13 : ((-2147483648) : Int) ≤ ρ 13 ∧ ρ 13 ≤ 2147483647 := r13
  have r14 : ((-2147483648) : Int) ≤ ρ 14 ∧ ρ 14 ≤ 2147483647 := r14
  have r15 : (0 : Int) ≤ ρ 15 ∧ ρ 15 ≤ 8 := r15
  have r16 : (0 : Int) ≤ ρ 16 ∧ ρ 16 ≤ 32 := r16
  have r17 : (0 : Int) ≤ ρ 17 ∧ ρ 17 ≤ 5120 := r17
  have r18 : (0 : Int) ≤ ρ 18 ∧ ρ 18 ≤ 4 := r18
  have r19 : ((-2147483648) : Int) ≤ ρ 19 ∧ ρ 19 ≤ 2147483647 := r19
  have r20 : ((-1) : Int) ≤ ρ 20 ∧ ρ 20 ≤ 3 := r20
  have r21 : (0 : Int) ≤ ρ 21 ∧ ρ 21 ≤ 4 := r21
  have r22 : (65 : Int) ≤ ρ 22 ∧ ρ 22 ≤ 90 := r22
  have r23 : (0 : Int) ≤ ρ 23 ∧ ρ 23 ≤ 1999 := r23
  have r24 : (1 : Int) ≤ ρ 24 ∧ ρ 24 ≤ 2000 := r24
  have r25 : (97 : Int) ≤ ρ 25 ∧ ρ 25 ≤ 122 := r25
  have r26 : (0 : Int) ≤ ρ 26 ∧ ρ 26 ≤ 1999 := r26
  have r27 : ((-9223372036854775808) : Int) ≤ ρ 27 ∧ ρ 27 ≤ 9223372036854775807 := r27
  have r28 : (4 : Int) ≤ ρ 28 ∧ ρ 28 ≤ 2000 := r28
  have r29 : (6 : Int) ≤ ρ 29 ∧ ρ 29 ≤ 8 := r29
  have r30 : (0 : Int) ≤ ρ 30 ∧ ρ 30 ≤ 7 := r30
  have r31 : ((-2147483648) : Int) ≤ ρ 31 ∧ ρ 31 ≤ 2147483647 := r31
  have r32 : ((-2147483648) : Int) ≤ ρ 32 ∧ ρ 32 ≤ 2147483647 := r32
  have r33 : (1 : Int) ≤ ρ 33 ∧ ρ 33 ≤ 8 := r33
  have r34 : (0 : Int) ≤ ρ 34 ∧ ρ 34 ≤ 5120 := r34
  have r35 : (1 : Int) ≤ ρ 35 ∧ ρ 35 ≤ 2 := r35
  obtain ⟨f0, f1, f2, f3, f4, f5, f6, f7, f8, f9, f10, f11, f12, f13, f14, -⟩ := hf
  have f0 : (0 : Int) ≤ -ρ 26 + ρ 4 + (-1) := f0
  have f1 : (0 : Int) ≤ ρ 28 + -ρ 26 + (-1) := f1
  have f2 : (0 : Int) ≤ ρ 33 + -ρ 30 + (-1) := f2
  have f3 : (0 : Int) ≤ ρ 33 + -ρ 15 := f3
  have f4 : (0 : Int) ≤ ρ 34 + -ρ 17 := f4
  have f5 : (0 : Int) ≤ -ρ 35 + ρ 4 := f5
  have f6 : (0 : Int) ≤ -ρ 20 + ρ 4 := f6
  have f7 : (0 : Int) ≤ -ρ 30 + ρ 15 := f7
  have f8 : (0 : Int) ≤ ρ 26 + -ρ 24 := f8
  have f9 : (0 : Int) ≤ -ρ 24 + ρ 4 + (-1) := f9
  have f10 : (0 : Int) ≤ -ρ 23 + ρ 4 + (-1) := f10
  have f11 : (0 : Int) ≤ ρ 24 + -ρ 23 + (-1) := f11
  have f12 : (0 : Int) ≤ -ρ 24 + ρ 4 := f12
  have f13 : (0 : Int) ≤ ρ 23 + -ρ 3 := f13
  have f14 : (0 : Int) ≤ ρ 4 + -ρ 3 + (-1) := f14
  obtain ⟨m0, m1, m2, m3, m4, m5, m6, m7, m8, m9, m10, m11, m12, m13, m14, m15, m16, m17, m18, m19, m20, m21, m22, m23, m24, m25, m26, m27, m28, m29, m30, m31, m32, m33, m34, m35, m36, m37, m38, m39, m40, m41, m42, -⟩ := hm
  have m0 : γ 0 1 0 10 = ρ 0 := m0
  have m1 : γ 0 40 0 (ρ 0) = ρ 1 := m1
  have m2 : γ 0 9 (ρ 1) 2 = ρ 2 := m2
  have m3 : γ 0 2 0 6 = ρ 3 := m3
  have m4 : γ 0 2 0 3 = ρ 4 := m4
  have m5 : γ 0 10 (ρ 2 + 9 * ρ 1 + 1) 4 = ρ 5 := m5
  have m6 : γ 0 10 (ρ 2 + 9 * ρ 1 + 1) 11 = ρ 6 := m6
  have m7 : γ 0 10 (ρ 2 + 9 * ρ 1 + 1) 8 = ρ 7 := m7
  have m8 : γ 0 2 0 7 = ρ 8 := m8
  have m9 : γ 0 10 (9 * ρ 1) 8 = ρ 9 := m9
  have m10 : γ 0 10 (9 * ρ 1) 12 = ρ 10 := m10
  have m11 : γ 0 1 0 7 = ρ 11 := m11
  have m12 : γ 0 2 0 4 = ρ 12 := m12
  have m13 : γ 0 2 0 5 = ρ 13 := m13
  have m14 : γ 0 2 0 9 = ρ 14 := m14
  have m15 : γ 0 2 0 13 = ρ 15 := m15
  have m16 : γ 0 2 0 16 = ρ 16 := m16
  have m17 : γ 0 3 0 1 = ρ 17 := m17
  have m18 : γ 0 10 (ρ 2 + 9 * ρ 1 + 1) 5 = ρ 18 := m18
  have m19 : γ 0 10 (ρ 2 + 9 * ρ 1 + 1) 7 = ρ 19 := m19
  have m20 : γ 0 10 (ρ 2 + 9 * ρ 1 + 1) 9 = ρ 20 := m20
  have m21 : γ 0 10 (ρ 2 + 9 * ρ 1 + 1) 12 = ρ 21 := m21
  have m22 : γ 1 2 0 6 = ρ 23 := m22
  have m23 : γ 3 2 0 6 = ρ 24 := m23
  have m24 : γ 3 2 0 4 = ρ 12 := m24
  have m25 : γ 3 2 0 9 = ρ 23 := m25
  have m26 : γ 4 2 0 6 = ρ 26 := m26
  have m27 : γ 3 2 0 8 = ρ 27 := m27
  have m28 : γ 6 2 0 6 = ρ 28 := m28
  have m29 : γ 6 10 (ρ 2 + 9 * ρ 1 + 1) 4 = ρ 29 := m29
  have m30 : γ 6 10 (ρ 2 + 9 * ρ 1 + 1) 11 = ρ 30 := m30
  have m31 : γ 6 10 (9 * ρ 1) 8 = ρ 9 := m31
  have m32 : γ 6 10 (9 * ρ 1) 12 = ρ 10 := m32
  have m33 : γ 6 2 0 4 = ρ 12 := m33
  have m34 : γ 6 2 0 5 = ρ 31 := m34
  have m35 : γ 6 2 0 9 = ρ 32 := m35
  have m36 : γ 6 2 0 13 = ρ 33 := m36
  have m37 : γ 6 3 0 1 = ρ 34 := m37
  have m38 : γ 6 10 (ρ 2 + 9 * ρ 1 + 1) 5 = ρ 35 := m38
  have m39 : γ 6 10 (ρ 2 + 9 * ρ 1 + 1) 7 = ρ 23 := m39
  have m40 : γ 6 10 (ρ 2 + 9 * ρ 1 + 1) 8 = (-1) := m40
  have m41 : γ 6 10 (ρ 2 + 9 * ρ 1 + 1) 9 = (-1) := m41
  have m42 : γ 6 10 (ρ 2 + 9 * ρ 1 + 1) 12 = 0 := m42
  obtain ⟨⟨⟨⟨⟨⟨-, c1⟩, c2⟩, c3⟩, c4⟩, c5⟩, c6⟩ := hc
  have c1 : ∀ (G : Nat) (k j : Int), ¬ rMdP m77_ G j → γ 1 G k j = γ 0 G k j := c1
  have c2 : ∀ (G : Nat) (k j : Int), ¬ rMdP m0_ G j → γ 2 G k j = γ 1 G k j := c2
  have c3 : ∀ (G : Nat) (k j : Int), ¬ rMdP m78_ G j → γ 3 G k j = γ 2 G k j := c3
  have c4 : ∀ (G : Nat) (k j : Int), ¬ rMdP m77_ G j → γ 4 G k j = γ 3 G k j := c4
  have c5 : ∀ (G : Nat) (k j : Int), ¬ rMdP m0_ G j → γ 5 G k j = γ 4 G k j := c5
  have c6 : ∀ (G : Nat) (k j : Int), ¬ rMdP m105_ G j → γ 6 G k j = γ 5 G k j := c6
  obtain ⟨l0, l1, l2, l3, l4, l5, l6, -⟩ := hl
  have l0 : sn114 [ρ 3, ρ 4] (γ 0) 0 (ρ 22) (γ 1) := hS114 _ _ _ _ _ l0
  have l1 : ρ 22 ≠ 33 := l1
  have l2 : sn106 [ρ 22] (γ 1) 0 1 (γ 2) := hS106 _ _ _ _ _ l2
  have l3 : sn115 [ρ 23, ρ 4, ρ 12, ρ 14] (γ 2) 0 1 (γ 3) := hS115 _ _ _ _ _ l3
  have l4 : sn114 [ρ 24, ρ 4] (γ 3) 0 (ρ 25) (γ 4) := hS114 _ _ _ _ _ l4
  have l5 : sn105 [ρ 25] (γ 4) 0 1 (γ 5) := hS105 _ _ _ _ _ l5
  have l6 : sn156 [ρ 27, ρ 23, ρ 0, ρ 1, ρ 2, ρ 26, ρ 4, ρ 5, ρ 6, ρ 9, ρ 10, ρ 12, ρ 13, ρ 23, ρ 15, ρ 17, ρ 18, ρ 19, ρ 7, ρ 20, ρ 21] (γ 5) 0 1 (γ 6) := hS156 _ _ _ _ _ l6
  show sn157 [ρ 0, ρ 1, ρ 2, ρ 3, ρ 4, ρ 5, ρ 6, ρ 7, ρ 8, ρ 9, ρ 10, ρ 11, ρ 12, ρ 13, ρ 14, ρ 15, ρ 16, ρ 17, ρ 18, ρ 19, ρ 20, ρ 21] (γ 0) 0 1 (γ 6)
  refine Eq.symm ?_
  show fn157 [] (γ 0) = _
  unfold fn157
  refine (zLet_eq m0).trans ?_
  refine (zLet_eq m1).trans ?_
  refine (zLet_eq m2).trans ?_
  refine (zLet_eq (show fn114 [] (γ 0) = (0, ρ 22, γ 1) from l0.symm)).trans ?_
  refine (zLet_eq (show _ = γ 1 from rfl)).trans ?_
  refine (if_pos (show (0 : Int) ≤ ρ 22 by omega)).trans ?_
  refine (zLet_eq (show _ = ρ 22 from rfl)).trans ?_
  refine (zLet_eq m22).trans ?_
  refine (if_pos (show ρ 22 ≠ 33 by omega)).trans ?_
  refine (zLet_eq (show fn106 [ρ 22] (γ 1) = (0, 1, γ 2) from l2.symm)).trans ?_
  refine (zLet_eq (show _ = γ 2 from rfl)).trans ?_
  refine (if_pos (show (1 : Int) ≤ 1 by omega)).trans ?_
  refine (zLet_eq (show fn115 [] (γ 2) = (0, 1, γ 3) from l3.symm)).trans ?_
  refine (zLet_eq (show _ = γ 3 from rfl)).trans ?_
  refine (if_pos (show (1 : Int) ≤ 1 by omega)).trans ?_
  refine (zLet_eq (show fn114 [] (γ 3) = (0, ρ 25, γ 4) from l4.symm)).trans ?_
  refine (zLet_eq (show _ = γ 4 from rfl)).trans ?_
  refine (if_pos (show (0 : Int) ≤ ρ 25 by omega)).trans ?_
  refine (zLet_eq (show _ = ρ 25 from rfl)).trans ?_
  refine (zLet_eq (show fn105 [ρ 25] (γ 4) = (0, 1, γ 5) from l5.symm)).trans ?_
  refine (zLet_eq (show _ = γ 5 from rfl)).trans ?_
  refine (if_pos (show (1 : Int) ≤ 1 by omega)).trans ?_
  refine (zLet_eq m27).trans ?_
  refine (zLet_eq (show fn156 [ρ 27, ρ 23] (γ 5) = (0, 1, γ 6) from l6.symm)).trans ?_
  refine (zLet_eq (show _ = γ 6 from rfl)).trans ?_
  refine (if_pos (show (1 : Int) ≤ 1 by omega)).trans ?_
  rfl
theorem vn157_26 {S : Nat → zSpc} (hS103 : ∀ x g o v gz, S 103 x g o v gz → sn103 x g o v gz) (hS104 : ∀ x g o v gz, S 104 x g o v gz → sn104 x g o v gz) (hS105 : ∀ x g o v gz, S 105 x g o v gz → sn105 x g o v gz) (hS106 : ∀ x g o v gz, S 106 x g o v gz → sn106 x g o v gz) (hS107 : ∀ x g o v gz, S 107 x g o v gz → sn107 x g o v gz) (hS109 : ∀ x g o v gz, S 109 x g o v gz → sn109 x g o v gz) (hS114 : ∀ x g o v gz, S 114 x g o v gz → sn114 x g o v gz) (hS115 : ∀ x g o v gz, S 115 x g o v gz → sn115 x g o v gz) (hS116 : ∀ x g o v gz, S 116 x g o v gz → sn116 x g o v gz) (hS135 : ∀ x g o v gz, S 135 x g o v gz → sn135 x g o v gz) (hS139 : ∀ x g o v gz, S 139 x g o v gz → sn139 x g o v gz) (hS145 : ∀ x g o v gz, S 145 x g o v gz → sn145 x g o v gz) (hS154 : ∀ x g o v gz, S 154 x g o v gz → sn154 x g o v gz) (hS155 : ∀ x g o v gz, S 155 x g o v gz → sn155 x g o v gz) (hS156 : ∀ x g o v gz, S 156 x g o v gz → sn156 x g o v gz) {a : List Int} {g : rHp} : ∀ (ρ : Nat → Int) (γ : Nat → rHp), zO 22 S a g q157_26 ρ γ → zGl (fun _ _ _ => True) (sn157 a g) q157_26 ρ γ := by
  intro ρ γ h
  obtain ⟨ha, hg, hr, hf, hm, hc, hl⟩ := h
  have ha : a = [ρ 0, ρ 1, ρ 2, ρ 3, ρ 4, ρ 5, ρ 6, ρ 7, ρ 8, ρ 9, ρ 10, ρ 11, ρ 12, ρ 13, ρ 14, ρ 15, ρ 16, ρ 17, ρ 18, ρ 19, ρ 20, ρ 21] := ha
  subst ha
  subst hg
  obtain ⟨r0, r1, r2, r3, r4, r5, r6, r7, r8, r9, r10, r11, r12, r13, r14, r15, r16, r17, r18, r19, r20, r21, r22, r23, r24, -⟩ := hr
  have r0 : (0 : Int) ≤ ρ 0 ∧ ρ 0 ≤ 60 := r0
  have r1 : (0 : Int) ≤ ρ 1 ∧ ρ 1 ≤ 60 := r1
  have r2 : (0 : Int) ≤ ρ 2 ∧ ρ 2 ≤ 7 := r2
  have r3 : (0 : Int) ≤ ρ 3 ∧ ρ 3 ≤ 2000 := r3
  have r4 : (0 : Int) ≤ ρ 4 ∧ ρ 4 ≤ 2000 := r4
  have r5 : (0 : Int) ≤ ρ 5 ∧ ρ 5 ≤ 8 := r5
  have r6 : ((-1) : Int) ≤ ρ 6 ∧ ρ 6 ≤ 7 := r6
  have r7 : ((-1) : Int) ≤ ρ 7 ∧ ρ 7 ≤ 19 := r7
  have r8 : (0 : Int) ≤ ρ 8 ∧ ρ 8 ≤ 2 := r8
  have r9 : ((-1) : Int) ≤ ρ 9 ∧ ρ 9 ≤ 19 := r9
  have r10 : (0 : Int) ≤ ρ 10 ∧ ρ 10 ≤ 4 := r10
  have r11 : (0 : Int) ≤ ρ 11 ∧ ρ 11 ≤ 20 := r11
  have r12 : ((-2147483648) : Int) ≤ ρ 12 ∧ ρ 12 ≤ 2147483647 := r12
  have r13 : ((-2147483648) : Int) ≤ ρ 13 ∧ ρ 13 ≤ 2147483647 := r13
  have r14 : ((-2147483648) : Int) ≤ ρ 14 ∧ ρ 14 ≤ 2147483647 := r14
  have r15 : (0 : Int) ≤ ρ 15 ∧ ρ 15 ≤ 8 := r15
  have r16 : (0 : Int) ≤ ρ 16 ∧ ρ 16 ≤ 32 := r16
  have r17 : (0 : Int) ≤ ρ 17 ∧ ρ 17 ≤ 5120 := r17
  have r18 : (0 : Int) ≤ ρ 18 ∧ ρ 18 ≤ 4 := r18
  have r19 : ((-2147483648) : Int) ≤ ρ 19 ∧ ρ 19 ≤ 2147483647 := r19
  have r20 : ((-1) : Int) ≤ ρ 20 ∧ ρ 20 ≤ 3 := r20
  have r21 : (0 : Int) ≤ ρ 21 ∧ ρ 21 ≤ 4 := r21
  have r22 : (33 : Int) ≤ ρ 22 ∧ ρ 22 ≤ 33 := r22
  have r23 : (0 : Int) ≤ ρ 23 ∧ ρ 23 ≤ 2000 := r23
  have r24 : (0 : Int) ≤ ρ 24 ∧ ρ 24 ≤ 2000 := r24
  obtain ⟨f0, f1, f2, f3, f4, -⟩ := hf
  have f0 : (0 : Int) ≤ ρ 24 + -ρ 23 + (-1) := f0
  have f1 : (0 : Int) ≤ ρ 24 + -ρ 4 := f1
  have f2 : (0 : Int) ≤ ρ 23 + -ρ 3 := f2
  have f3 : (0 : Int) ≤ -ρ 23 + ρ 4 + (-1) := f3
  have f4 : (0 : Int) ≤ ρ 4 + -ρ 3 + (-1) := f4
  obtain ⟨m0, m1, m2, m3, m4, m5, m6, m7, m8, m9, m10, m11, m12, m13, m14, m15, m16, m17, m18, m19, m20, m21, m22, m23, m24, -⟩ := hm
  have m0 : γ 0 1 0 10 = ρ 0 := m0
  have m1 : γ 0 40 0 (ρ 0) = ρ 1 := m1
  have m2 : γ 0 9 (ρ 1) 2 = ρ 2 := m2
  have m3 : γ 0 2 0 6 = ρ 3 := m3
  have m4 : γ 0 2 0 3 = ρ 4 := m4
  have m5 : γ 0 10 (ρ 2 + 9 * ρ 1 + 1) 4 = ρ 5 := m5
  have m6 : γ 0 10 (ρ 2 + 9 * ρ 1 + 1) 11 = ρ 6 := m6
  have m7 : γ 0 10 (ρ 2 + 9 * ρ 1 + 1) 8 = ρ 7 := m7
  have m8 : γ 0 2 0 7 = ρ 8 := m8
  have m9 : γ 0 10 (9 * ρ 1) 8 = ρ 9 := m9
  have m10 : γ 0 10 (9 * ρ 1) 12 = ρ 10 := m10
  have m11 : γ 0 1 0 7 = ρ 11 := m11
  have m12 : γ 0 2 0 4 = ρ 12 := m12
  have m13 : γ 0 2 0 5 = ρ 13 := m13
  have m14 : γ 0 2 0 9 = ρ 14 := m14
  have m15 : γ 0 2 0 13 = ρ 15 := m15
  have m16 : γ 0 2 0 16 = ρ 16 := m16
  have m17 : γ 0 3 0 1 = ρ 17 := m17
  have m18 : γ 0 10 (ρ 2 + 9 * ρ 1 + 1) 5 = ρ 18 := m18
  have m19 : γ 0 10 (ρ 2 + 9 * ρ 1 + 1) 7 = ρ 19 := m19
  have m20 : γ 0 10 (ρ 2 + 9 * ρ 1 + 1) 9 = ρ 20 := m20
  have m21 : γ 0 10 (ρ 2 + 9 * ρ 1 + 1) 12 = ρ 21 := m21
  have m22 : γ 1 2 0 6 = ρ 23 := m22
  have m23 : γ 3 2 0 6 = ρ 24 := m23
  have m24 : γ 5 2 0 4 = ρ 24 := m24
  obtain ⟨⟨⟨⟨⟨-, c1⟩, c2⟩, c3⟩, c4⟩, c5⟩ := hc
  have c1 : ∀ (G : Nat) (k j : Int), ¬ rMdP m77_ G j → γ 1 G k j = γ 0 G k j := c1
  have c2 : γ 2 = rUp (γ 1) 2 0 6 (ρ 23 + 1) := c2
  have c3 : ∀ (G : Nat) (k j : Int), ¬ rMdP m77_ G j → γ 3 G k j = γ 2 G k j := c3
  have c4 : ∀ (G : Nat) (k j : Int), ¬ rMdP m0_ G j → γ 4 G k j = γ 3 G k j := c4
  have c5 : ∀ (G : Nat) (k j : Int), ¬ rMdP m72_ G j → γ 5 G k j = γ 4 G k j := c5
  obtain ⟨l0, l1, l2, l3, -⟩ := hl
  have l0 : sn114 [ρ 3, ρ 4] (γ 0) 0 (ρ 22) (γ 1) := hS114 _ _ _ _ _ l0
  have l1 : sn114 [ρ 23 + 1, ρ 4] (γ 2) 0 (-1) (γ 3) := hS114 _ _ _ _ _ l1
  have l2 : sn105 [(-1)] (γ 3) 0 0 (γ 4) := hS105 _ _ _ _ _ l2
  have l3 : sn109 [ρ 24, ρ 12] (γ 4) 0 0 (γ 5) := hS109 _ _ _ _ _ l3
  show sn157 [ρ 0, ρ 1, ρ 2, ρ 3, ρ 4, ρ 5, ρ 6, ρ 7, ρ 8, ρ 9, ρ 10, ρ 11, ρ 12, ρ 13, ρ 14, ρ 15, ρ 16, ρ 17, ρ 18, ρ 19, ρ 20, ρ 21] (γ 0) 0 0 (γ 5)
  refine Eq.symm ?_
  show fn157 [] (γ 0) = _
  unfold fn157
  refine (zLet_eq m0).trans ?_
  refine (zLet_eq m1).trans ?_
  refine (zLet_eq m2).trans ?_
  refine (zLet_eq (show fn114 [] (γ 0) = (0, ρ 22, γ 1) from l0.symm)).trans ?_
  refine (zLet_eq (show _ = γ 1 from rfl)).trans ?_
  refine (if_pos (show (0 : Int) ≤ ρ 22 by omega)).trans ?_
  refine (zLet_eq (show _ = ρ 22 from rfl)).trans ?_
  refine (zLet_eq m22).trans ?_
  refine (if_neg (show ¬ (ρ 22 ≠ 33) by omega)).trans ?_
  refine (zLet_eq c2.symm).trans ?_
  refine (zLet_eq (show fn114 [] (γ 2) = (0, (-1), γ 3) from l1.symm)).trans ?_
  refine (zLet_eq (show _ = γ 3 from rfl)).trans ?_
  refine (if_neg (show ¬ ((0 : Int) ≤ (-1)) by omega)).trans ?_
  refine (zLet_eq m23).trans ?_
  refine (zLet_eq (show fn105 [(-1)] (γ 3) = (0, 0, γ 4) from l2.symm)).trans ?_
  refine (zLet_eq (show _ = γ 4 from rfl)).trans ?_
  refine (zLet_eq (show fn109 [ρ 24] (γ 4) = (0, 0, γ 5) from l3.symm)).trans ?_
  refine (zLet_eq (show _ = γ 5 from rfl)).trans ?_
  rfl
theorem vn157_27 {S : Nat → zSpc} (hS103 : ∀ x g o v gz, S 103 x g o v gz → sn103 x g o v gz) (hS104 : ∀ x g o v gz, S 104 x g o v gz → sn104 x g o v gz) (hS105 : ∀ x g o v gz, S 105 x g o v gz → sn105 x g o v gz) (hS106 : ∀ x g o v gz, S 106 x g o v gz → sn106 x g o v gz) (hS107 : ∀ x g o v gz, S 107 x g o v gz → sn107 x g o v gz) (hS109 : ∀ x g o v gz, S 109 x g o v gz → sn109 x g o v gz) (hS114 : ∀ x g o v gz, S 114 x g o v gz → sn114 x g o v gz) (hS115 : ∀ x g o v gz, S 115 x g o v gz → sn115 x g o v gz) (hS116 : ∀ x g o v gz, S 116 x g o v gz → sn116 x g o v gz) (hS135 : ∀ x g o v gz, S 135 x g o v gz → sn135 x g o v gz) (hS139 : ∀ x g o v gz, S 139 x g o v gz → sn139 x g o v gz) (hS145 : ∀ x g o v gz, S 145 x g o v gz → sn145 x g o v gz) (hS154 : ∀ x g o v gz, S 154 x g o v gz → sn154 x g o v gz) (hS155 : ∀ x g o v gz, S 155 x g o v gz → sn155 x g o v gz) (hS156 : ∀ x g o v gz, S 156 x g o v gz → sn156 x g o v gz) {a : List Int} {g : rHp} : ∀ (ρ : Nat → Int) (γ : Nat → rHp), zO 22 S a g q157_27 ρ γ → zGl (fun _ _ _ => True) (sn157 a g) q157_27 ρ γ := by
  intro ρ γ h
  obtain ⟨ha, hg, hr, hf, hm, hc, hl⟩ := h
  have ha : a = [ρ 0, ρ 1, ρ 2, ρ 3, ρ 4, ρ 5, ρ 6, ρ 7, ρ 8, ρ 9, ρ 10, ρ 11, ρ 12, ρ 13, ρ 14, ρ 15, ρ 16, ρ 17, ρ 18, ρ 19, ρ 20, ρ 21] := ha
  subst ha
  subst hg
  obtain ⟨r0, r1, r2, r3, r4, r5, r6, r7, r8, r9, r10, r11, r12, r13, r14, r15, r16, r17, r18, r19, r20, r21, r22, r23, r24, r25, -⟩ := hr
  have r0 : (0 : Int) ≤ ρ 0 ∧ ρ 0 ≤ 60 := r0
  have r1 : (0 : Int) ≤ ρ 1 ∧ ρ 1 ≤ 60 := r1
  have r2 : (0 : Int) ≤ ρ 2 ∧ ρ 2 ≤ 7 := r2
  have r3 : (0 : Int) ≤ ρ 3 ∧ ρ 3 ≤ 2000 := r3
  have r4 : (0 : Int) ≤ ρ 4 ∧ ρ 4 ≤ 2000 := r4
  have r5 : (0 : Int) ≤ ρ 5 ∧ ρ 5 ≤ 8 := r5
  have r6 : ((-1) : Int) ≤ ρ 6 ∧ ρ 6 ≤ 7 := r6
  have r7 : ((-1) : Int) ≤ ρ 7 ∧ ρ 7 ≤ 19 := r7
  have r8 : (0 : Int) ≤ ρ 8 ∧ ρ 8 ≤ 2 := r8
  have r9 : ((-1) : Int) ≤ ρ 9 ∧ ρ 9 ≤ 19 := r9
  have r10 : (0 : Int) ≤ ρ 10 ∧ ρ 10 ≤ 4 := r10
  have r11 : (0 : Int) ≤ ρ 11 ∧ ρ 11 ≤ 20 := r11
  have r12 : ((-2147483648) : Int) ≤ ρ 12 ∧ ρ 12 ≤ 2147483647 := r12
  have r13 : ((-2147483648) : Int) ≤ ρ 13 ∧ ρ 13 ≤ 2147483647 := r13
  have r14 : ((-2147483648) : Int) ≤ ρ 14 ∧ ρ 14 ≤ 2147483647 := r14
  have r15 : (0 : Int) ≤ ρ 15 ∧ ρ 15 ≤ 8 := r15
  have r16 : (0 : Int) ≤ ρ 16 ∧ ρ 16 ≤ 32 := r16
  have r17 : (0 : Int) ≤ ρ 17 ∧ ρ 17 ≤ 5120 := r17
  have r18 : (0 : Int) ≤ ρ 18 ∧ ρ 18 ≤ 4 := r18
  have r19 : ((-2147483648) : Int) ≤ ρ 19 ∧ ρ 19 ≤ 2147483647 := r19
  have r20 : ((-1) : Int) ≤ ρ 20 ∧ ρ 20 ≤ 3 := r20
  have r21 : (0 : Int) ≤ ρ 21 ∧ ρ 21 ≤ 4 := r21
  have r22 : (33 : Int) ≤ ρ 22 ∧ ρ 22 ≤ 33 := r22
  have r23 : (0 : Int) ≤ ρ 23 ∧ ρ 23 ≤ 2000 := r23
  have r24 : (0 : Int) ≤ ρ 24 ∧ ρ 24 ≤ 255 := r24
  have r25 : (0 : Int) ≤ ρ 25 ∧ ρ 25 ≤ 2000 := r25
  obtain ⟨f0, f1, f2, f3, f4, f5, -⟩ := hf
  have f0 : (0 : Int) ≤ ρ 25 + -ρ 23 + (-1) := f0
  have f1 : (0 : Int) ≤ -ρ 25 + ρ 4 + (-1) := f1
  have f2 : (0 : Int) ≤ -ρ 23 + ρ 4 + (-2) := f2
  have f3 : (0 : Int) ≤ ρ 23 + -ρ 3 := f3
  have f4 : (0 : Int) ≤ -ρ 23 + ρ 4 + (-1) := f4
  have f5 : (0 : Int) ≤ ρ 4 + -ρ 3 + (-1) := f5
  obtain ⟨m0, m1, m2, m3, m4, m5, m6, m7, m8, m9, m10, m11, m12, m13, m14, m15, m16, m17, m18, m19, m20, m21, m22, m23, m24, -⟩ := hm
  have m0 : γ 0 1 0 10 = ρ 0 := m0
  have m1 : γ 0 40 0 (ρ 0) = ρ 1 := m1
  have m2 : γ 0 9 (ρ 1) 2 = ρ 2 := m2
  have m3 : γ 0 2 0 6 = ρ 3 := m3
  have m4 : γ 0 2 0 3 = ρ 4 := m4
  have m5 : γ 0 10 (ρ 2 + 9 * ρ 1 + 1) 4 = ρ 5 := m5
  have m6 : γ 0 10 (ρ 2 + 9 * ρ 1 + 1) 11 = ρ 6 := m6
  have m7 : γ 0 10 (ρ 2 + 9 * ρ 1 + 1) 8 = ρ 7 := m7
  have m8 : γ 0 2 0 7 = ρ 8 := m8
  have m9 : γ 0 10 (9 * ρ 1) 8 = ρ 9 := m9
  have m10 : γ 0 10 (9 * ρ 1) 12 = ρ 10 := m10
  have m11 : γ 0 1 0 7 = ρ 11 := m11
  have m12 : γ 0 2 0 4 = ρ 12 := m12
  have m13 : γ 0 2 0 5 = ρ 13 := m13
  have m14 : γ 0 2 0 9 = ρ 14 := m14
  have m15 : γ 0 2 0 13 = ρ 15 := m15
  have m16 : γ 0 2 0 16 = ρ 16 := m16
  have m17 : γ 0 3 0 1 = ρ 17 := m17
  have m18 : γ 0 10 (ρ 2 + 9 * ρ 1 + 1) 5 = ρ 18 := m18
  have m19 : γ 0 10 (ρ 2 + 9 * ρ 1 + 1) 7 = ρ 19 := m19
  have m20 : γ 0 10 (ρ 2 + 9 * ρ 1 + 1) 9 = ρ 20 := m20
  have m21 : γ 0 10 (ρ 2 + 9 * ρ 1 + 1) 12 = ρ 21 := m21
  have m22 : γ 1 2 0 6 = ρ 23 := m22
  have m23 : γ 3 2 0 6 = ρ 25 := m23
  have m24 : γ 5 2 0 4 = ρ 25 := m24
  obtain ⟨⟨⟨⟨⟨-, c1⟩, c2⟩, c3⟩, c4⟩, c5⟩ := hc
  have c1 : ∀ (G : Nat) (k j : Int), ¬ rMdP m77_ G j → γ 1 G k j = γ 0 G k j := c1
  have c2 : γ 2 = rUp (γ 1) 2 0 6 (ρ 23 + 1) := c2
  have c3 : ∀ (G : Nat) (k j : Int), ¬ rMdP m77_ G j → γ 3 G k j = γ 2 G k j := c3
  have c4 : ∀ (G : Nat) (k j : Int), ¬ rMdP m0_ G j → γ 4 G k j = γ 3 G k j := c4
  have c5 : ∀ (G : Nat) (k j : Int), ¬ rMdP m72_ G j → γ 5 G k j = γ 4 G k j := c5
  obtain ⟨l0, l1, l2, l3, -⟩ := hl
  have l0 : sn114 [ρ 3, ρ 4] (γ 0) 0 (ρ 22) (γ 1) := hS114 _ _ _ _ _ l0
  have l1 : sn114 [ρ 23 + 1, ρ 4] (γ 2) 0 (ρ 24) (γ 3) := hS114 _ _ _ _ _ l1
  have l2 : sn105 [ρ 24] (γ 3) 0 0 (γ 4) := hS105 _ _ _ _ _ l2
  have l3 : sn109 [ρ 25, ρ 12] (γ 4) 0 0 (γ 5) := hS109 _ _ _ _ _ l3
  show sn157 [ρ 0, ρ 1, ρ 2, ρ 3, ρ 4, ρ 5, ρ 6, ρ 7, ρ 8, ρ 9, ρ 10, ρ 11, ρ 12, ρ 13, ρ 14, ρ 15, ρ 16, ρ 17, ρ 18, ρ 19, ρ 20, ρ 21] (γ 0) 0 0 (γ 5)
  refine Eq.symm ?_
  show fn157 [] (γ 0) = _
  unfold fn157
  refine (zLet_eq m0).trans ?_
  refine (zLet_eq m1).trans ?_
  refine (zLet_eq m2).trans ?_
  refine (zLet_eq (show fn114 [] (γ 0) = (0, ρ 22, γ 1) from l0.symm)).trans ?_
  refine (zLet_eq (show _ = γ 1 from rfl)).trans ?_
  refine (if_pos (show (0 : Int) ≤ ρ 22 by omega)).trans ?_
  refine (zLet_eq (show _ = ρ 22 from rfl)).trans ?_
  refine (zLet_eq m22).trans ?_
  refine (if_neg (show ¬ (ρ 22 ≠ 33) by omega)).trans ?_
  refine (zLet_eq c2.symm).trans ?_
  refine (zLet_eq (show fn114 [] (γ 2) = (0, ρ 24, γ 3) from l1.symm)).trans ?_
  refine (zLet_eq (show _ = γ 3 from rfl)).trans ?_
  refine (if_pos (show (0 : Int) ≤ ρ 24 by omega)).trans ?_
  refine (zLet_eq (show _ = ρ 24 from rfl)).trans ?_
  refine (zLet_eq m23).trans ?_
  refine (zLet_eq (show fn105 [ρ 24] (γ 3) = (0, 0, γ 4) from l2.symm)).trans ?_
  refine (zLet_eq (show _ = γ 4 from rfl)).trans ?_
  refine (if_neg (show ¬ ((1 : Int) ≤ 0) by omega)).trans ?_
  refine (zLet_eq (show fn109 [ρ 25] (γ 4) = (0, 0, γ 5) from l3.symm)).trans ?_
  refine (zLet_eq (show _ = γ 5 from rfl)).trans ?_
  rfl
theorem vn157_28 {S : Nat → zSpc} (hS103 : ∀ x g o v gz, S 103 x g o v gz → sn103 x g o v gz) (hS104 : ∀ x g o v gz, S 104 x g o v gz → sn104 x g o v gz) (hS105 : ∀ x g o v gz, S 105 x g o v gz → sn105 x g o v gz) (hS106 : ∀ x g o v gz, S 106 x g o v gz → sn106 x g o v gz) (hS107 : ∀ x g o v gz, S 107 x g o v gz → sn107 x g o v gz) (hS109 : ∀ x g o v gz, S 109 x g o v gz → sn109 x g o v gz) (hS114 : ∀ x g o v gz, S 114 x g o v gz → sn114 x g o v gz) (hS115 : ∀ x g o v gz, S 115 x g o v gz → sn115 x g o v gz) (hS116 : ∀ x g o v gz, S 116 x g o v gz → sn116 x g o v gz) (hS135 : ∀ x g o v gz, S 135 x g o v gz → sn135 x g o v gz) (hS139 : ∀ x g o v gz, S 139 x g o v gz → sn139 x g o v gz) (hS145 : ∀ x g o v gz, S 145 x g o v gz → sn145 x g o v gz) (hS154 : ∀ x g o v gz, S 154 x g o v gz → sn154 x g o v gz) (hS155 : ∀ x g o v gz, S 155 x g o v gz → sn155 x g o v gz) (hS156 : ∀ x g o v gz, S 156 x g o v gz → sn156 x g o v gz) {a : List Int} {g : rHp} : ∀ (ρ : Nat → Int) (γ : Nat → rHp), zO 22 S a g q157_28 ρ γ → zGl (fun _ _ _ => True) (sn157 a g) q157_28 ρ γ := by
  intro ρ γ h
  obtain ⟨ha, hg, hr, hf, hm, hc, hl⟩ := h
  have ha : a = [ρ 0, ρ 1, ρ 2, ρ 3, ρ 4, ρ 5, ρ 6, ρ 7, ρ 8, ρ 9, ρ 10, ρ 11, ρ 12, ρ 13, ρ 14, ρ 15, ρ 16, ρ 17, ρ 18, ρ 19, ρ 20, ρ 21] := ha
  subst ha
  subst hg
  obtain ⟨r0, r1, r2, r3, r4, r5, r6, r7, r8, r9, r10, r11, r12, r13, r14, r15, r16, r17, r18, r19, r20, r21, r22, r23, r24, r25, r26, -⟩ := hr
  have r0 : (0 : Int) ≤ ρ 0 ∧ ρ 0 ≤ 60 := r0
  have r1 : (0 : Int) ≤ ρ 1 ∧ ρ 1 ≤ 60 := r1
  have r2 : (0 : Int) ≤ ρ 2 ∧ ρ 2 ≤ 7 := r2
  have r3 : (0 : Int) ≤ ρ 3 ∧ ρ 3 ≤ 2000 := r3
  have r4 : (0 : Int) ≤ ρ 4 ∧ ρ 4 ≤ 2000 := r4
  have r5 : (0 : Int) ≤ ρ 5 ∧ ρ 5 ≤ 8 := r5
  have r6 : ((-1) : Int) ≤ ρ 6 ∧ ρ 6 ≤ 7 := r6
  have r7 : ((-1) : Int) ≤ ρ 7 ∧ ρ 7 ≤ 19 := r7
  have r8 : (0 : Int) ≤ ρ 8 ∧ ρ 8 ≤ 2 := r8
  have r9 : ((-1) : Int) ≤ ρ 9 ∧ ρ 9 ≤ 19 := r9
  have r10 : (0 : Int) ≤ ρ 10 ∧ ρ 10 ≤ 4 := r10
  have r11 : (0 : Int) ≤ ρ 11 ∧ ρ 11 ≤ 20 := r11
  have r12 : ((-2147483648) : Int) ≤ ρ 12 ∧ ρ 12 ≤ 2147483647 := r12
  have r13 : ((-2147483648) : Int) ≤ ρ 13 ∧ ρ 13 ≤ 2147483647 := r13
  have r14 : ((-2147483648) : Int) ≤ ρ 14 ∧ ρ 14 ≤ 2147483647 := r14
  have r15 : (0 : Int) ≤ ρ 15 ∧ ρ 15 ≤ 8 := r15
  have r16 : (0 : Int) ≤ ρ 16 ∧ ρ 16 ≤ 32 := r16
  have r17 : (0 : Int) ≤ ρ 17 ∧ ρ 17 ≤ 5120 := r17
  have r18 : (0 : Int) ≤ ρ 18 ∧ ρ 18 ≤ 4 := r18
  have r19 : ((-2147483648) : Int) ≤ ρ 19 ∧ ρ 19 ≤ 2147483647 := r19
  have r20 : ((-1) : Int) ≤ ρ 20 ∧ ρ 20 ≤ 3 := r20
  have r21 : (0 : Int) ≤ ρ 21 ∧ ρ 21 ≤ 4 := r21
  have r22 : (33 : Int) ≤ ρ 22 ∧ ρ 22 ≤ 33 := r22
  have r23 : (0 : Int) ≤ ρ 23 ∧ ρ 23 ≤ 2000 := r23
  have r24 : (97 : Int) ≤ ρ 24 ∧ ρ 24 ≤ 122 := r24
  have r25 : (0 : Int) ≤ ρ 25 ∧ ρ 25 ≤ 1999 := r25
  have r26 : (13 : Int) ≤ ρ 26 ∧ ρ 26 ≤ 2000 := r26
  obtain ⟨f0, f1, f2, f3, f4, f5, f6, f7, -⟩ := hf
  have f0 : (0 : Int) ≤ -ρ 25 + ρ 4 + (-1) := f0
  have f1 : (0 : Int) ≤ ρ 26 + -ρ 25 + (-1) := f1
  have f2 : (0 : Int) ≤ -ρ 26 + ρ 4 := f2
  have f3 : (0 : Int) ≤ ρ 25 + -ρ 23 + (-1) := f3
  have f4 : (0 : Int) ≤ -ρ 23 + ρ 4 + (-2) := f4
  have f5 : (0 : Int) ≤ ρ 23 + -ρ 3 := f5
  have f6 : (0 : Int) ≤ -ρ 23 + ρ 4 + (-1) := f6
  have f7 : (0 : Int) ≤ ρ 4 + -ρ 3 + (-1) := f7
  obtain ⟨m0, m1, m2, m3, m4, m5, m6, m7, m8, m9, m10, m11, m12, m13, m14, m15, m16, m17, m18, m19, m20, m21, m22, m23, m24, m25, m26, -⟩ := hm
  have m0 : γ 0 1 0 10 = ρ 0 := m0
  have m1 : γ 0 40 0 (ρ 0) = ρ 1 := m1
  have m2 : γ 0 9 (ρ 1) 2 = ρ 2 := m2
  have m3 : γ 0 2 0 6 = ρ 3 := m3
  have m4 : γ 0 2 0 3 = ρ 4 := m4
  have m5 : γ 0 10 (ρ 2 + 9 * ρ 1 + 1) 4 = ρ 5 := m5
  have m6 : γ 0 10 (ρ 2 + 9 * ρ 1 + 1) 11 = ρ 6 := m6
  have m7 : γ 0 10 (ρ 2 + 9 * ρ 1 + 1) 8 = ρ 7 := m7
  have m8 : γ 0 2 0 7 = ρ 8 := m8
  have m9 : γ 0 10 (9 * ρ 1) 8 = ρ 9 := m9
  have m10 : γ 0 10 (9 * ρ 1) 12 = ρ 10 := m10
  have m11 : γ 0 1 0 7 = ρ 11 := m11
  have m12 : γ 0 2 0 4 = ρ 12 := m12
  have m13 : γ 0 2 0 5 = ρ 13 := m13
  have m14 : γ 0 2 0 9 = ρ 14 := m14
  have m15 : γ 0 2 0 13 = ρ 15 := m15
  have m16 : γ 0 2 0 16 = ρ 16 := m16
  have m17 : γ 0 3 0 1 = ρ 17 := m17
  have m18 : γ 0 10 (ρ 2 + 9 * ρ 1 + 1) 5 = ρ 18 := m18
  have m19 : γ 0 10 (ρ 2 + 9 * ρ 1 + 1) 7 = ρ 19 := m19
  have m20 : γ 0 10 (ρ 2 + 9 * ρ 1 + 1) 9 = ρ 20 := m20
  have m21 : γ 0 10 (ρ 2 + 9 * ρ 1 + 1) 12 = ρ 21 := m21
  have m22 : γ 1 2 0 6 = ρ 23 := m22
  have m23 : γ 3 2 0 6 = ρ 25 := m23
  have m24 : γ 5 2 0 6 = ρ 26 := m24
  have m25 : γ 5 2 0 4 = ρ 25 := m25
  have m26 : γ 5 2 0 9 = ρ 25 := m26
  obtain ⟨⟨⟨⟨⟨-, c1⟩, c2⟩, c3⟩, c4⟩, c5⟩ := hc
  have c1 : ∀ (G : Nat) (k j : Int), ¬ rMdP m77_ G j → γ 1 G k j = γ 0 G k j := c1
  have c2 : γ 2 = rUp (γ 1) 2 0 6 (ρ 23 + 1) := c2
  have c3 : ∀ (G : Nat) (k j : Int), ¬ rMdP m77_ G j → γ 3 G k j = γ 2 G k j := c3
  have c4 : ∀ (G : Nat) (k j : Int), ¬ rMdP m0_ G j → γ 4 G k j = γ 3 G k j := c4
  have c5 : ∀ (G : Nat) (k j : Int), ¬ rMdP m78_ G j → γ 5 G k j = γ 4 G k j := c5
  obtain ⟨l0, l1, l2, l3, -⟩ := hl
  have l0 : sn114 [ρ 3, ρ 4] (γ 0) 0 (ρ 22) (γ 1) := hS114 _ _ _ _ _ l0
  have l1 : sn114 [ρ 23 + 1, ρ 4] (γ 2) 0 (ρ 24) (γ 3) := hS114 _ _ _ _ _ l1
  have l2 : sn105 [ρ 24] (γ 3) 0 1 (γ 4) := hS105 _ _ _ _ _ l2
  have l3 : sn115 [ρ 25, ρ 4, ρ 12, ρ 14] (γ 4) 0 0 (γ 5) := hS115 _ _ _ _ _ l3
  show sn157 [ρ 0, ρ 1, ρ 2, ρ 3, ρ 4, ρ 5, ρ 6, ρ 7, ρ 8, ρ 9, ρ 10, ρ 11, ρ 12, ρ 13, ρ 14, ρ 15, ρ 16, ρ 17, ρ 18, ρ 19, ρ 20, ρ 21] (γ 0) 0 0 (γ 5)
  refine Eq.symm ?_
  show fn157 [] (γ 0) = _
  unfold fn157
  refine (zLet_eq m0).trans ?_
  refine (zLet_eq m1).trans ?_
  refine (zLet_eq m2).trans ?_
  refine (zLet_eq (show fn114 [] (γ 0) = (0, ρ 22, γ 1) from l0.symm)).trans ?_
  refine (zLet_eq (show _ = γ 1 from rfl)).trans ?_
  refine (if_pos (show (0 : Int) ≤ ρ 22 by omega)).trans ?_
  refine (zLet_eq (show _ = ρ 22 from rfl)).trans ?_
  refine (zLet_eq m22).trans ?_
  refine (if_neg (show ¬ (ρ 22 ≠ 33) by omega)).trans ?_
  refine (zLet_eq c2.symm).trans ?_
  refine (zLet_eq (show fn114 [] (γ 2) = (0, ρ 24, γ 3) from l1.symm)).trans ?_
  refine (zLet_eq (show _ = γ 3 from rfl)).trans ?_
  refine (if_pos (show (0 : Int) ≤ ρ 24 by omega)).trans ?_
  refine (zLet_eq (show _ = ρ 24 from rfl)).trans ?_
  refine (zLet_eq m23).trans ?_
  refine (zLet_eq (show fn105 [ρ 24] (γ 3) = (0, 1, γ 4) from l2.symm)).trans ?_
  refine (zLet_eq (show _ = γ 4 from rfl)).trans ?_
  refine (if_pos (show (1 : Int) ≤ 1 by omega)).trans ?_
  refine (zLet_eq (show fn115 [] (γ 4) = (0, 0, γ 5) from l3.symm)).trans ?_
  refine (zLet_eq (show _ = γ 5 from rfl)).trans ?_
  refine (if_neg (show ¬ ((1 : Int) ≤ 0) by omega)).trans ?_
  rfl
theorem vn157_29 {S : Nat → zSpc} (hS103 : ∀ x g o v gz, S 103 x g o v gz → sn103 x g o v gz) (hS104 : ∀ x g o v gz, S 104 x g o v gz → sn104 x g o v gz) (hS105 : ∀ x g o v gz, S 105 x g o v gz → sn105 x g o v gz) (hS106 : ∀ x g o v gz, S 106 x g o v gz → sn106 x g o v gz) (hS107 : ∀ x g o v gz, S 107 x g o v gz → sn107 x g o v gz) (hS109 : ∀ x g o v gz, S 109 x g o v gz → sn109 x g o v gz) (hS114 : ∀ x g o v gz, S 114 x g o v gz → sn114 x g o v gz) (hS115 : ∀ x g o v gz, S 115 x g o v gz → sn115 x g o v gz) (hS116 : ∀ x g o v gz, S 116 x g o v gz → sn116 x g o v gz) (hS135 : ∀ x g o v gz, S 135 x g o v gz → sn135 x g o v gz) (hS139 : ∀ x g o v gz, S 139 x g o v gz → sn139 x g o v gz) (hS145 : ∀ x g o v gz, S 145 x g o v gz → sn145 x g o v gz) (hS154 : ∀ x g o v gz, S 154 x g o v gz → sn154 x g o v gz) (hS155 : ∀ x g o v gz, S 155 x g o v gz → sn155 x g o v gz) (hS156 : ∀ x g o v gz, S 156 x g o v gz → sn156 x g o v gz) {a : List Int} {g : rHp} : ∀ (ρ : Nat → Int) (γ : Nat → rHp), zO 22 S a g q157_29 ρ γ → zGl (fun _ _ _ => True) (sn157 a g) q157_29 ρ γ := by
  intro ρ γ h
  obtain ⟨ha, hg, hr, hf, hm, hc, hl⟩ := h
  have ha : a = [ρ 0, ρ 1, ρ 2, ρ 3, ρ 4, ρ 5, ρ 6, ρ 7, ρ 8, ρ 9, ρ 10, ρ 11, ρ 12, ρ 13, ρ 14, ρ 15, ρ 16, ρ 17, ρ 18, ρ 19, ρ 20, ρ 21] := ha
  subst ha
  subst hg
  obtain ⟨r0, r1, r2, r3, r4, r5, r6, r7, r8, r9, r10, r11, r12, r13, r14, r15, r16, r17, r18, r19, r20, r21, r22, r23, r24, r25, r26, r27, r28, r29, r30, r31, r32, r33, r34, r35, r36, r37, r38, -⟩ := hr
  have r0 : (0 : Int) ≤ ρ 0 ∧ ρ 0 ≤ 60 := r0
  have r1 : (0 : Int) ≤ ρ 1 ∧ ρ 1 ≤ 60 := r1
  have r2 : (0 : Int) ≤ ρ 2 ∧ ρ 2 ≤ 7 := r2
  have r3 : (0 : Int) ≤ ρ 3 ∧ ρ 3 ≤ 2000 := r3
  have r4 : (0 : Int) ≤ ρ 4 ∧ ρ 4 ≤ 2000 := r4
  have r5 : (0 : Int) ≤ ρ 5 ∧ ρ 5 ≤ 8 := r5
  have r6 : ((-1) : Int) ≤ ρ 6 ∧ ρ 6 ≤ 7 := r6
  have r7 : ((-1) : Int) ≤ ρ 7 ∧ ρ 7 ≤ 19 := r7
  have r8 : (0 : Int) ≤ ρ 8 ∧ ρ 8 ≤ 2 := r8
  have r9 : ((-1) : Int) ≤ ρ 9 ∧ ρ 9 ≤ 19 := r9
  have r10 : (0 : Int) ≤ ρ 10 ∧ ρ 10 ≤ 4 := r10
  have r11 : (0 : Int) ≤ ρ 11 ∧ ρ 11 ≤ 20 := r11
  have r12 : ((-2147483648) : Int) ≤ ρ 12 ∧ ρ 12 ≤ 2147483647 := r12
  have r13 : ((-2147483648) : Int) ≤ ρ 13 ∧ ρ 13 ≤ 2147483647 := r13
  have r14 : ((-2147483648) : Int) ≤ ρ 14 ∧ ρ 14 ≤ 2147483647 := r14
  have r15 : (0 : Int) ≤ ρ 15 ∧ ρ 15 ≤ 8 := r15
  have r16 : (0 : Int) ≤ ρ 16 ∧ ρ 16 ≤ 32 := r16
  have r17 : (0 : Int) ≤ ρ 17 ∧ ρ 17 ≤ 5120 := r17
  have r18 : (0 : Int) ≤ ρ 18 ∧ ρ 18 ≤ 4 := r18
  have r19 : ((-2147483648) : Int) ≤ ρ 19 ∧ ρ 19 ≤ 2147483647 := r19
  have r20 : ((-1) : Int) ≤ ρ 20 ∧ ρ 20 ≤ 3 := r20
  have r21 : (0 : Int) ≤ ρ 21 ∧ ρ 21 ≤ 4 := r21
  have r22 : (33 : Int) ≤ ρ 22 ∧ ρ 22 ≤ 33 := r22
  have r23 : (0 : Int) ≤ ρ 23 ∧ ρ 23 ≤ 2000 := r23
  have r24 : (97 : Int) ≤ ρ 24 ∧ ρ 24 ≤ 122 := r24
  have r25 : (0 : Int) ≤ ρ 25 ∧ ρ 25 ≤ 1999 := r25
  have r26 : (1 : Int) ≤ ρ 26 ∧ ρ 26 ≤ 2000 := r26
  have r27 : (0 : Int) ≤ ρ 27 ∧ ρ 27 ≤ 2000 := r27
  have r28 : (0 : Int) ≤ ρ 28 ∧ ρ 28 ≤ 4 := r28
  have r29 : ((-1) : Int) ≤ ρ 29 ∧ ρ 29 ≤ (-1) := r29
  have r30 : (0 : Int) ≤ ρ 30 ∧ ρ 30 ≤ 20 := r30
  have r31 : ((-2147483648) : Int) ≤ ρ 31 ∧ ρ 31 ≤ 2147483647 := r31
  have r32 : ((-2147483648) : Int) ≤ ρ 32 ∧ ρ 32 ≤ 2147483647 := r32
  have r33 : ((-2147483648) : Int) ≤ ρ 33 ∧ ρ 33 ≤ 2147483647 := r33
  have r34 : (0 : Int) ≤ ρ 34 ∧ ρ 34 ≤ 8 := r34
  have r35 : (0 : Int) ≤ ρ 35 ∧ ρ 35 ≤ 32 := r35
  have r36 : (0 : Int) ≤ ρ 36 ∧ ρ 36 ≤ 5120 := r36
  have r37 : ((-1) : Int) ≤ ρ 37 ∧ ρ 37 ≤ 3 := r37
  have r38 : (0 : Int) ≤ ρ 38 ∧ ρ 38 ≤ 0 := r38
  obtain ⟨f0, f1, f2, f3, f4, f5, f6, f7, f8, f9, f10, f11, f12, f13, f14, f15, f16, -⟩ := hf
  have f0 : (0 : Int) ≤ -ρ 28 + ρ 27 := f0
  have f1 : (0 : Int) ≤ -ρ 37 + ρ 27 + (-1) := f1
  have f2 : (0 : Int) ≤ ρ 27 + -ρ 26 := f2
  have f3 : (0 : Int) ≤ ρ 30 + -ρ 11 := f3
  have f4 : (0 : Int) ≤ ρ 34 + -ρ 15 := f4
  have f5 : (0 : Int) ≤ ρ 35 + -ρ 16 := f5
  have f6 : (0 : Int) ≤ ρ 36 + -ρ 17 := f6
  have f7 : (0 : Int) ≤ -ρ 28 + ρ 4 := f7
  have f8 : (0 : Int) ≤ -ρ 37 + ρ 4 + (-1) := f8
  have f9 : (0 : Int) ≤ -ρ 25 + ρ 4 + (-1) := f9
  have f10 : (0 : Int) ≤ ρ 26 + -ρ 25 + (-1) := f10
  have f11 : (0 : Int) ≤ -ρ 26 + ρ 4 := f11
  have f12 : (0 : Int) ≤ ρ 25 + -ρ 23 + (-1) := f12
  have f13 : (0 : Int) ≤ -ρ 23 + ρ 4 + (-2) := f13
  have f14 : (0 : Int) ≤ ρ 23 + -ρ 3 := f14
  have f15 : (0 : Int) ≤ -ρ 23 + ρ 4 + (-1) := f15
  have f16 : (0 : Int) ≤ ρ 4 + -ρ 3 + (-1) := f16
  obtain ⟨m0, m1, m2, m3, m4, m5, m6, m7, m8, m9, m10, m11, m12, m13, m14, m15, m16, m17, m18, m19, m20, m21, m22, m23, m24, m25, m26, m27, m28, m29, m30, m31, m32, m33, m34, m35, m36, m37, m38, m39, m40, m41, m42, -⟩ := hm
  have m0 : γ 0 1 0 10 = ρ 0 := m0
  have m1 : γ 0 40 0 (ρ 0) = ρ 1 := m1
  have m2 : γ 0 9 (ρ 1) 2 = ρ 2 := m2
  have m3 : γ 0 2 0 6 = ρ 3 := m3
  have m4 : γ 0 2 0 3 = ρ 4 := m4
  have m5 : γ 0 10 (ρ 2 + 9 * ρ 1 + 1) 4 = ρ 5 := m5
  have m6 : γ 0 10 (ρ 2 + 9 * ρ 1 + 1) 11 = ρ 6 := m6
  have m7 : γ 0 10 (ρ 2 + 9 * ρ 1 + 1) 8 = ρ 7 := m7
  have m8 : γ 0 2 0 7 = ρ 8 := m8
  have m9 : γ 0 10 (9 * ρ 1) 8 = ρ 9 := m9
  have m10 : γ 0 10 (9 * ρ 1) 12 = ρ 10 := m10
  have m11 : γ 0 1 0 7 = ρ 11 := m11
  have m12 : γ 0 2 0 4 = ρ 12 := m12
  have m13 : γ 0 2 0 5 = ρ 13 := m13
  have m14 : γ 0 2 0 9 = ρ 14 := m14
  have m15 : γ 0 2 0 13 = ρ 15 := m15
  have m16 : γ 0 2 0 16 = ρ 16 := m16
  have m17 : γ 0 3 0 1 = ρ 17 := m17
  have m18 : γ 0 10 (ρ 2 + 9 * ρ 1 + 1) 5 = ρ 18 := m18
  have m19 : γ 0 10 (ρ 2 + 9 * ρ 1 + 1) 7 = ρ 19 := m19
  have m20 : γ 0 10 (ρ 2 + 9 * ρ 1 + 1) 9 = ρ 20 := m20
  have m21 : γ 0 10 (ρ 2 + 9 * ρ 1 + 1) 12 = ρ 21 := m21
  have m22 : γ 1 2 0 6 = ρ 23 := m22
  have m23 : γ 3 2 0 6 = ρ 25 := m23
  have m24 : γ 5 2 0 6 = ρ 26 := m24
  have m25 : γ 5 2 0 4 = ρ 12 := m25
  have m26 : γ 5 2 0 9 = ρ 25 := m26
  have m27 : γ 6 2 0 6 = ρ 27 := m27
  have m28 : γ 6 10 (ρ 2 + 9 * ρ 1 + 1) 5 = ρ 28 := m28
  have m29 : γ 6 10 (ρ 2 + 9 * ρ 1 + 1) 4 = 2 := m29
  have m30 : γ 6 10 (ρ 2 + 9 * ρ 1 + 1) 8 = ρ 29 := m30
  have m31 : γ 6 10 (9 * ρ 1) 8 = ρ 9 := m31
  have m32 : γ 6 10 (9 * ρ 1) 12 = ρ 10 := m32
  have m33 : γ 6 1 0 7 = ρ 30 := m33
  have m34 : γ 6 2 0 4 = ρ 31 := m34
  have m35 : γ 6 2 0 5 = ρ 32 := m35
  have m36 : γ 6 2 0 9 = ρ 33 := m36
  have m37 : γ 6 2 0 13 = ρ 34 := m37
  have m38 : γ 6 2 0 16 = ρ 35 := m38
  have m39 : γ 6 3 0 1 = ρ 36 := m39
  have m40 : γ 6 10 (ρ 2 + 9 * ρ 1 + 1) 7 = ρ 25 := m40
  have m41 : γ 6 10 (ρ 2 + 9 * ρ 1 + 1) 9 = ρ 37 := m41
  have m42 : γ 6 10 (ρ 2 + 9 * ρ 1 + 1) 12 = ρ 38 := m42
  obtain ⟨⟨⟨⟨⟨⟨-, c1⟩, c2⟩, c3⟩, c4⟩, c5⟩, c6⟩ := hc
  have c1 : ∀ (G : Nat) (k j : Int), ¬ rMdP m77_ G j → γ 1 G k j = γ 0 G k j := c1
  have c2 : γ 2 = rUp (γ 1) 2 0 6 (ρ 23 + 1) := c2
  have c3 : ∀ (G : Nat) (k j : Int), ¬ rMdP m77_ G j → γ 3 G k j = γ 2 G k j := c3
  have c4 : ∀ (G : Nat) (k j : Int), ¬ rMdP m0_ G j → γ 4 G k j = γ 3 G k j := c4
  have c5 : ∀ (G : Nat) (k j : Int), ¬ rMdP m78_ G j → γ 5 G k j = γ 4 G k j := c5
  have c6 : ∀ (G : Nat) (k j : Int), ¬ rMdP m98_ G j → γ 6 G k j = γ 5 G k j := c6
  obtain ⟨l0, l1, l2, l3, l4, -⟩ := hl
  have l0 : sn114 [ρ 3, ρ 4] (γ 0) 0 (ρ 22) (γ 1) := hS114 _ _ _ _ _ l0
  have l1 : sn114 [ρ 23 + 1, ρ 4] (γ 2) 0 (ρ 24) (γ 3) := hS114 _ _ _ _ _ l1
  have l2 : sn105 [ρ 24] (γ 3) 0 1 (γ 4) := hS105 _ _ _ _ _ l2
  have l3 : sn115 [ρ 25, ρ 4, ρ 12, ρ 14] (γ 4) 0 1 (γ 5) := hS115 _ _ _ _ _ l3
  have l4 : sn145 [2, ρ 0, ρ 1, ρ 2, ρ 26, ρ 4, ρ 18, ρ 5, ρ 8, ρ 7, ρ 9, ρ 10, ρ 11, ρ 12, ρ 13, ρ 25, ρ 15, ρ 16, ρ 17, ρ 19, ρ 20, ρ 21] (γ 5) 0 0 (γ 6) := hS145 _ _ _ _ _ l4
  show sn157 [ρ 0, ρ 1, ρ 2, ρ 3, ρ 4, ρ 5, ρ 6, ρ 7, ρ 8, ρ 9, ρ 10, ρ 11, ρ 12, ρ 13, ρ 14, ρ 15, ρ 16, ρ 17, ρ 18, ρ 19, ρ 20, ρ 21] (γ 0) 0 0 (γ 6)
  refine Eq.symm ?_
  show fn157 [] (γ 0) = _
  unfold fn157
  refine (zLet_eq m0).trans ?_
  refine (zLet_eq m1).trans ?_
  refine (zLet_eq m2).trans ?_
  refine (zLet_eq (show fn114 [] (γ 0) = (0, ρ 22, γ 1) from l0.symm)).trans ?_
  refine (zLet_eq (show _ = γ 1 from rfl)).trans ?_
  refine (if_pos (show (0 : Int) ≤ ρ 22 by omega)).trans ?_
  refine (zLet_eq (show _ = ρ 22 from rfl)).trans ?_
  refine (zLet_eq m22).trans ?_
  refine (if_neg (show ¬ (ρ 22 ≠ 33) by omega)).trans ?_
  refine (zLet_eq c2.symm).trans ?_
  refine (zLet_eq (show fn114 [] (γ 2) = (0, ρ 24, γ 3) from l1.symm)).trans ?_
  refine (zLet_eq (show _ = γ 3 from rfl)).trans ?_
  refine (if_pos (show (0 : Int) ≤ ρ 24 by omega)).trans ?_
  refine (zLet_eq (show _ = ρ 24 from rfl)).trans ?_
  refine (zLet_eq m23).trans ?_
  refine (zLet_eq (show fn105 [ρ 24] (γ 3) = (0, 1, γ 4) from l2.symm)).trans ?_
  refine (zLet_eq (show _ = γ 4 from rfl)).trans ?_
  refine (if_pos (show (1 : Int) ≤ 1 by omega)).trans ?_
  refine (zLet_eq (show fn115 [] (γ 4) = (0, 1, γ 5) from l3.symm)).trans ?_
  refine (zLet_eq (show _ = γ 5 from rfl)).trans ?_
  refine (if_pos (show (1 : Int) ≤ 1 by omega)).trans ?_
  refine (zLet_eq (show fn145 [2] (γ 5) = (0, 0, γ 6) from l4.symm)).trans ?_
  refine (zLet_eq (show _ = γ 6 from rfl)).trans ?_
  refine (if_neg (show ¬ ((1 : Int) ≤ 0) by omega)).trans ?_
  rfl
theorem vn157_30 {S : Nat → zSpc} (hS103 : ∀ x g o v gz, S 103 x g o v gz → sn103 x g o v gz) (hS104 : ∀ x g o v gz, S 104 x g o v gz → sn104 x g o v gz) (hS105 : ∀ x g o v gz, S 105 x g o v gz → sn105 x g o v gz) (hS106 : ∀ x g o v gz, S 106 x g o v gz → sn106 x g o v gz) (hS107 : ∀ x g o v gz, S 107 x g o v gz → sn107 x g o v gz) (hS109 : ∀ x g o v gz, S 109 x g o v gz → sn109 x g o v gz) (hS114 : ∀ x g o v gz, S 114 x g o v gz → sn114 x g o v gz) (hS115 : ∀ x g o v gz, S 115 x g o v gz → sn115 x g o v gz) (hS116 : ∀ x g o v gz, S 116 x g o v gz → sn116 x g o v gz) (hS135 : ∀ x g o v gz, S 135 x g o v gz → sn135 x g o v gz) (hS139 : ∀ x g o v gz, S 139 x g o v gz → sn139 x g o v gz) (hS145 : ∀ x g o v gz, S 145 x g o v gz → sn145 x g o v gz) (hS154 : ∀ x g o v gz, S 154 x g o v gz → sn154 x g o v gz) (hS155 : ∀ x g o v gz, S 155 x g o v gz → sn155 x g o v gz) (hS156 : ∀ x g o v gz, S 156 x g o v gz → sn156 x g o v gz) {a : List Int} {g : rHp} : ∀ (ρ : Nat → Int) (γ : Nat → rHp), zO 22 S a g q157_30 ρ γ → zGl (fun _ _ _ => True) (sn157 a g) q157_30 ρ γ := by
  intro ρ γ h
  obtain ⟨ha, hg, hr, hf, hm, hc, hl⟩ := h
  have ha : a = [ρ 0, ρ 1, ρ 2, ρ 3, ρ 4, ρ 5, ρ 6, ρ 7, ρ 8, ρ 9, ρ 10, ρ 11, ρ 12, ρ 13, ρ 14, ρ 15, ρ 16, ρ 17, ρ 18, ρ 19, ρ 20, ρ 21] := ha
  subst ha
  subst hg
  obtain ⟨r0, r1, r2, r3, r4, r5, r6, r7, r8, r9, r10, r11, r12, r13, r14, r15, r16, r17, r18, r19, r20, r21, r22, r23, r24, r25, r26, r27, r28, r29, r30, r31, r32, r33, r34, r35, r36, -⟩ := hr
  have r0 : (0 : Int) ≤ ρ 0 ∧ ρ 0 ≤ 60 := r0
  have r1 : (0 : Int) ≤ ρ 1 ∧ ρ 1 ≤ 60 := r1
  have r2 : (0 : Int) ≤ ρ 2 ∧ ρ 2 ≤ 7 := r2
  have r3 : (0 : Int) ≤ ρ 3 ∧ ρ 3 ≤ 2000 := r3
  have r4 : (3 : Int) ≤ ρ 4 ∧ ρ 4 ≤ 2000 := r4
  have r5 : (0 : Int) ≤ ρ 5 ∧ ρ 5 ≤ 8 := r5
  have r6 : ((-1) : Int) ≤ ρ 6 ∧ ρ 6 ≤ 7 := r6
  have r7 : ((-1) : Int) ≤ ρ 7 ∧ ρ 7 ≤ 19 := r7
  have r8 : (1 : Int) ≤ ρ 8 ∧ ρ 8 ≤ 1 := r8
  have r9 : ((-1) : Int) ≤ ρ 9 ∧ ρ 9 ≤ 19 := r9
  have r10 : (0 : Int) ≤ ρ 10 ∧ ρ 10 ≤ 4 := r10
  have r11 : (0 : Int) ≤ ρ 11 ∧ ρ 11 ≤ 20 := r11
  have r12 : ((-2147483648) : Int) ≤ ρ 12 ∧ ρ 12 ≤ 2147483647 := r12
  have r13 : ((-2147483648) : Int) ≤ ρ 13 ∧ ρ 13 ≤ 2147483647 := r13
  have r14 : ((-2147483648) : Int) ≤ ρ 14 ∧ ρ 14 ≤ 2147483647 := r14
  have r15 : (0 : Int) ≤ ρ 15 ∧ ρ 15 ≤ 8 := r15
  have r16 : (0 : Int) ≤ ρ 16 ∧ ρ 16 ≤ 32 := r16
  have r17 : (0 : Int) ≤ ρ 17 ∧ ρ 17 ≤ 5120 := r17
  have r18 : (0 : Int) ≤ ρ 18 ∧ ρ 18 ≤ 4 := r18
  have r19 : ((-2147483648) : Int) ≤ ρ 19 ∧ ρ 19 ≤ 2147483647 := r19
  have r20 : ((-1) : Int) ≤ ρ 20 ∧ ρ 20 ≤ 3 := r20
  have r21 : (0 : Int) ≤ ρ 21 ∧ ρ 21 ≤ 4 := r21
  have r22 : (33 : Int) ≤ ρ 22 ∧ ρ 22 ≤ 33 := r22
  have r23 : (0 : Int) ≤ ρ 23 ∧ ρ 23 ≤ 2000 := r23
  have r24 : (97 : Int) ≤ ρ 24 ∧ ρ 24 ≤ 122 := r24
  have r25 : (0 : Int) ≤ ρ 25 ∧ ρ 25 ≤ 1999 := r25
  have r26 : (1 : Int) ≤ ρ 26 ∧ ρ 26 ≤ 2000 := r26
  have r27 : (3 : Int) ≤ ρ 27 ∧ ρ 27 ≤ 2000 := r27
  have r28 : (1 : Int) ≤ ρ 28 ∧ ρ 28 ≤ 4 := r28
  have r29 : ((-1) : Int) ≤ ρ 29 ∧ ρ 29 ≤ (-1) := r29
  have r30 : ((-2147483648) : Int) ≤ ρ 30 ∧ ρ 30 ≤ 2147483647 := r30
  have r31 : ((-2147483648) : Int) ≤ ρ 31 ∧ ρ 31 ≤ 2147483647 := r31
  have r32 : (0 : Int) ≤ ρ 32 ∧ ρ 32 ≤ 8 := r32
  have r33 : (0 : Int) ≤ ρ 33 ∧ ρ 33 ≤ 32 := r33
  have r34 : (0 : Int) ≤ ρ 34 ∧ ρ 34 ≤ 5120 := r34
  have r35 : ((-1) : Int) ≤ ρ 35 ∧ ρ 35 ≤ 3 := r35
  have r36 : (0 : Int) ≤ ρ 36 ∧ ρ 36 ≤ 0 := r36
  obtain ⟨f0, f1, f2, f3, f4, f5, f6, f7, f8, f9, f10, f11, f12, f13, f14, f15, f16, -⟩ := hf
  have f0 : (0 : Int) ≤ -ρ 28 + ρ 27 + (-1) := f0
  have f1 : (0 : Int) ≤ -ρ 35 + ρ 27 + (-1) := f1
  have f2 : (0 : Int) ≤ ρ 27 + -ρ 26 + (-1) := f2
  have f3 : (0 : Int) ≤ ρ 32 + -ρ 15 := f3
  have f4 : (0 : Int) ≤ ρ 33 + -ρ 16 := f4
  have f5 : (0 : Int) ≤ ρ 34 + -ρ 17 := f5
  have f6 : (0 : Int) ≤ -ρ 27 + ρ 4 := f6
  have f7 : (0 : Int) ≤ -ρ 26 + ρ 4 + (-1) := f7
  have f8 : (0 : Int) ≤ -ρ 20 + ρ 4 := f8
  have f9 : (0 : Int) ≤ -ρ 25 + ρ 4 + (-1) := f9
  have f10 : (0 : Int) ≤ ρ 26 + -ρ 25 + (-1) := f10
  have f11 : (0 : Int) ≤ -ρ 26 + ρ 4 := f11
  have f12 : (0 : Int) ≤ ρ 25 + -ρ 23 + (-1) := f12
  have f13 : (0 : Int) ≤ -ρ 23 + ρ 4 + (-2) := f13
  have f14 : (0 : Int) ≤ ρ 23 + -ρ 3 := f14
  have f15 : (0 : Int) ≤ -ρ 23 + ρ 4 + (-1) := f15
  have f16 : (0 : Int) ≤ ρ 4 + -ρ 3 + (-1) := f16
  obtain ⟨m0, m1, m2, m3, m4, m5, m6, m7, m8, m9, m10, m11, m12, m13, m14, m15, m16, m17, m18, m19, m20, m21, m22, m23, m24, m25, m26, m27, m28, m29, m30, m31, m32, m33, m34, m35, m36, m37, m38, m39, m40, m41, m42, -⟩ := hm
  have m0 : γ 0 1 0 10 = ρ 0 := m0
  have m1 : γ 0 40 0 (ρ 0) = ρ 1 := m1
  have m2 : γ 0 9 (ρ 1) 2 = ρ 2 := m2
  have m3 : γ 0 2 0 6 = ρ 3 := m3
  have m4 : γ 0 2 0 3 = ρ 4 := m4
  have m5 : γ 0 10 (ρ 2 + 9 * ρ 1 + 1) 4 = ρ 5 := m5
  have m6 : γ 0 10 (ρ 2 + 9 * ρ 1 + 1) 11 = ρ 6 := m6
  have m7 : γ 0 10 (ρ 2 + 9 * ρ 1 + 1) 8 = ρ 7 := m7
  have m8 : γ 0 2 0 7 = ρ 8 := m8
  have m9 : γ 0 10 (9 * ρ 1) 8 = ρ 9 := m9
  have m10 : γ 0 10 (9 * ρ 1) 12 = ρ 10 := m10
  have m11 : γ 0 1 0 7 = ρ 11 := m11
  have m12 : γ 0 2 0 4 = ρ 12 := m12
  have m13 : γ 0 2 0 5 = ρ 13 := m13
  have m14 : γ 0 2 0 9 = ρ 14 := m14
  have m15 : γ 0 2 0 13 = ρ 15 := m15
  have m16 : γ 0 2 0 16 = ρ 16 := m16
  have m17 : γ 0 3 0 1 = ρ 17 := m17
  have m18 : γ 0 10 (ρ 2 + 9 * ρ 1 + 1) 5 = ρ 18 := m18
  have m19 : γ 0 10 (ρ 2 + 9 * ρ 1 + 1) 7 = ρ 19 := m19
  have m20 : γ 0 10 (ρ 2 + 9 * ρ 1 + 1) 9 = ρ 20 := m20
  have m21 : γ 0 10 (ρ 2 + 9 * ρ 1 + 1) 12 = ρ 21 := m21
  have m22 : γ 1 2 0 6 = ρ 23 := m22
  have m23 : γ 3 2 0 6 = ρ 25 := m23
  have m24 : γ 5 2 0 6 = ρ 26 := m24
  have m25 : γ 5 2 0 4 = ρ 12 := m25
  have m26 : γ 5 2 0 9 = ρ 25 := m26
  have m27 : γ 6 2 0 6 = ρ 27 := m27
  have m28 : γ 6 10 (ρ 2 + 9 * ρ 1 + 1) 5 = ρ 28 := m28
  have m29 : γ 6 10 (ρ 2 + 9 * ρ 1 + 1) 4 = 2 := m29
  have m30 : γ 6 10 (ρ 2 + 9 * ρ 1 + 1) 8 = ρ 29 := m30
  have m31 : γ 6 10 (9 * ρ 1) 8 = ρ 9 := m31
  have m32 : γ 6 10 (9 * ρ 1) 12 = ρ 10 := m32
  have m33 : γ 6 1 0 7 = ρ 11 := m33
  have m34 : γ 6 2 0 4 = ρ 12 := m34
  have m35 : γ 6 2 0 5 = ρ 30 := m35
  have m36 : γ 6 2 0 9 = ρ 31 := m36
  have m37 : γ 6 2 0 13 = ρ 32 := m37
  have m38 : γ 6 2 0 16 = ρ 33 := m38
  have m39 : γ 6 3 0 1 = ρ 34 := m39
  have m40 : γ 6 10 (ρ 2 + 9 * ρ 1 + 1) 7 = ρ 25 := m40
  have m41 : γ 6 10 (ρ 2 + 9 * ρ 1 + 1) 9 = ρ 35 := m41
  have m42 : γ 6 10 (ρ 2 + 9 * ρ 1 + 1) 12 = ρ 36 := m42
  obtain ⟨⟨⟨⟨⟨⟨-, c1⟩, c2⟩, c3⟩, c4⟩, c5⟩, c6⟩ := hc
  have c1 : ∀ (G : Nat) (k j : Int), ¬ rMdP m77_ G j → γ 1 G k j = γ 0 G k j := c1
  have c2 : γ 2 = rUp (γ 1) 2 0 6 (ρ 23 + 1) := c2
  have c3 : ∀ (G : Nat) (k j : Int), ¬ rMdP m77_ G j → γ 3 G k j = γ 2 G k j := c3
  have c4 : ∀ (G : Nat) (k j : Int), ¬ rMdP m0_ G j → γ 4 G k j = γ 3 G k j := c4
  have c5 : ∀ (G : Nat) (k j : Int), ¬ rMdP m78_ G j → γ 5 G k j = γ 4 G k j := c5
  have c6 : ∀ (G : Nat) (k j : Int), ¬ rMdP m98_ G j → γ 6 G k j = γ 5 G k j := c6
  obtain ⟨l0, l1, l2, l3, l4, -⟩ := hl
  have l0 : sn114 [ρ 3, ρ 4] (γ 0) 0 (ρ 22) (γ 1) := hS114 _ _ _ _ _ l0
  have l1 : sn114 [ρ 23 + 1, ρ 4] (γ 2) 0 (ρ 24) (γ 3) := hS114 _ _ _ _ _ l1
  have l2 : sn105 [ρ 24] (γ 3) 0 1 (γ 4) := hS105 _ _ _ _ _ l2
  have l3 : sn115 [ρ 25, ρ 4, ρ 12, ρ 14] (γ 4) 0 1 (γ 5) := hS115 _ _ _ _ _ l3
  have l4 : sn145 [2, ρ 0, ρ 1, ρ 2, ρ 26, ρ 4, ρ 18, ρ 5, ρ 8, ρ 7, ρ 9, ρ 10, ρ 11, ρ 12, ρ 13, ρ 25, ρ 15, ρ 16, ρ 17, ρ 19, ρ 20, ρ 21] (γ 5) 0 1 (γ 6) := hS145 _ _ _ _ _ l4
  show sn157 [ρ 0, ρ 1, ρ 2, ρ 3, ρ 4, ρ 5, ρ 6, ρ 7, ρ 8, ρ 9, ρ 10, ρ 11, ρ 12, ρ 13, ρ 14, ρ 15, ρ 16, ρ 17, ρ 18, ρ 19, ρ 20, ρ 21] (γ 0) 0 1 (γ 6)
  refine Eq.symm ?_
  show fn157 [] (γ 0) = _
  unfold fn157
  refine (zLet_eq m0).trans ?_
  refine (zLet_eq m1).trans ?_
  refine (zLet_eq m2).trans ?_
  refine (zLet_eq (show fn114 [] (γ 0) = (0, ρ 22, γ 1) from l0.symm)).trans ?_
  refine (zLet_eq (show _ = γ 1 from rfl)).trans ?_
  refine (if_pos (show (0 : Int) ≤ ρ 22 by omega)).trans ?_
  refine (zLet_eq (show _ = ρ 22 from rfl)).trans ?_
  refine (zLet_eq m22).trans ?_
  refine (if_neg (show ¬ (ρ 22 ≠ 33) by omega)).trans ?_
  refine (zLet_eq c2.symm).trans ?_
  refine (zLet_eq (show fn114 [] (γ 2) = (0, ρ 24, γ 3) from l1.symm)).trans ?_
  refine (zLet_eq (show _ = γ 3 from rfl)).trans ?_
  refine (if_pos (show (0 : Int) ≤ ρ 24 by omega)).trans ?_
  refine (zLet_eq (show _ = ρ 24 from rfl)).trans ?_
  refine (zLet_eq m23).trans ?_
  refine (zLet_eq (show fn105 [ρ 24] (γ 3) = (0, 1, γ 4) from l2.symm)).trans ?_
  refine (zLet_eq (show _ = γ 4 from rfl)).trans ?_
  refine (if_pos (show (1 : Int) ≤ 1 by omega)).trans ?_
  refine (zLet_eq (show fn115 [] (γ 4) = (0, 1, γ 5) from l3.symm)).trans ?_
  refine (zLet_eq (show _ = γ 5 from rfl)).trans ?_
  refine (if_pos (show (1 : Int) ≤ 1 by omega)).trans ?_
  refine (zLet_eq (show fn145 [2] (γ 5) = (0, 1, γ 6) from l4.symm)).trans ?_
  refine (zLet_eq (show _ = γ 6 from rfl)).trans ?_
  refine (if_pos (show (1 : Int) ≤ 1 by omega)).trans ?_
  rfl
theorem vn157_31 {S : Nat → zSpc} (hS103 : ∀ x g o v gz, S 103 x g o v gz → sn103 x g o v gz) (hS104 : ∀ x g o v gz, S 104 x g o v gz → sn104 x g o v gz) (hS105 : ∀ x g o v gz, S 105 x g o v gz → sn105 x g o v gz) (hS106 : ∀ x g o v gz, S 106 x g o v gz → sn106 x g o v gz) (hS107 : ∀ x g o v gz, S 107 x g o v gz → sn107 x g o v gz) (hS109 : ∀ x g o v gz, S 109 x g o v gz → sn109 x g o v gz) (hS114 : ∀ x g o v gz, S 114 x g o v gz → sn114 x g o v gz) (hS115 : ∀ x g o v gz, S 115 x g o v gz → sn115 x g o v gz) (hS116 : ∀ x g o v gz, S 116 x g o v gz → sn116 x g o v gz) (hS135 : ∀ x g o v gz, S 135 x g o v gz → sn135 x g o v gz) (hS139 : ∀ x g o v gz, S 139 x g o v gz → sn139 x g o v gz) (hS145 : ∀ x g o v gz, S 145 x g o v gz → sn145 x g o v gz) (hS154 : ∀ x g o v gz, S 154 x g o v gz → sn154 x g o v gz) (hS155 : ∀ x g o v gz, S 155 x g o v gz → sn155 x g o v gz) (hS156 : ∀ x g o v gz, S 156 x g o v gz → sn156 x g o v gz) {a : List Int} {g : rHp} : ∀ (ρ : Nat → Int) (γ : Nat → rHp), zO 22 S a g q157_31 ρ γ → zGl (fun _ _ _ => True) (sn157 a g) q157_31 ρ γ := by
  intro ρ γ h
  obtain ⟨ha, hg, hr, hf, hm, hc, hl⟩ := h
  have ha : a = [ρ 0, ρ 1, ρ 2, ρ 3, ρ 4, ρ 5, ρ 6, ρ 7, ρ 8, ρ 9, ρ 10, ρ 11, ρ 12, ρ 13, ρ 14, ρ 15, ρ 16, ρ 17, ρ 18, ρ 19, ρ 20, ρ 21] := ha
  subst ha
  subst hg
  obtain ⟨r0, r1, r2, r3, r4, r5, r6, r7, r8, r9, r10, r11, r12, r13, r14, r15, r16, r17, r18, r19, r20, r21, r22, r23, r24, r25, r26, r27, r28, r29, r30, r31, r32, r33, r34, r35, r36, r37, -⟩ := hr
  have r0 : (0 : Int) ≤ ρ 0 ∧ ρ 0 ≤ 60 := r0
  have r1 : (0 : Int) ≤ ρ 1 ∧ ρ 1 ≤ 60 := r1
  have r2 : (0 : Int) ≤ ρ 2 ∧ ρ 2 ≤ 7 := r2
  have r3 : (0 : Int) ≤ ρ 3 ∧ ρ 3 ≤ 2000 := r3
  have r4 : (3 : Int) ≤ ρ 4 ∧ ρ 4 ≤ 2000 := r4
  have r5 : (0 : Int) ≤ ρ 5 ∧ ρ 5 ≤ 8 := r5
  have r6 : ((-1) : Int) ≤ ρ 6 ∧ ρ 6 ≤ 7 := r6
  have r7 : ((-1) : Int) ≤ ρ 7 ∧ ρ 7 ≤ 19 := r7
  have r8 : (0 : Int) ≤ ρ 8 ∧ ρ 8 ≤ 2 := r8
  have r9 : ((-1) : Int) ≤ ρ 9 ∧ ρ 9 ≤ 19 := r9
  have r10 : (0 : Int) ≤ ρ 10 ∧ ρ 10 ≤ 4 := r10
  have r11 : (0 : Int) ≤ ρ 11 ∧ ρ 11 ≤ 20 := r11
  have r12 : ((-2147483648) : Int) ≤ ρ 12 ∧ ρ 12 ≤ 2147483647 := r12
  have r13 : ((-2147483648) : Int) ≤ ρ 13 ∧ ρ 13 ≤ 2147483647 := r13
  have r14 : ((-2147483648) : Int) ≤ ρ 14 ∧ ρ 14 ≤ 2147483647 := r14
  have r15 : (0 : Int) ≤ ρ 15 ∧ ρ 15 ≤ 8 := r15
  have r16 : (0 : Int) ≤ ρ 16 ∧ ρ 16 ≤ 32 := r16
  have r17 : (0 : Int) ≤ ρ 17 ∧ ρ 17 ≤ 5120 := r17
  have r18 : (0 : Int) ≤ ρ 18 ∧ ρ 18 ≤ 4 := r18
  have r19 : ((-2147483648) : Int) ≤ ρ 19 ∧ ρ 19 ≤ 2147483647 := r19
  have r20 : ((-1) : Int) ≤ ρ 20 ∧ ρ 20 ≤ 3 := r20
  have r21 : (0 : Int) ≤ ρ 21 ∧ ρ 21 ≤ 4 := r21
  have r22 : (33 : Int) ≤ ρ 22 ∧ ρ 22 ≤ 33 := r22
  have r23 : (0 : Int) ≤ ρ 23 ∧ ρ 23 ≤ 2000 := r23
  have r24 : (97 : Int) ≤ ρ 24 ∧ ρ 24 ≤ 122 := r24
  have r25 : (0 : Int) ≤ ρ 25 ∧ ρ 25 ≤ 1999 := r25
  have r26 : (1 : Int) ≤ ρ 26 ∧ ρ 26 ≤ 2000 := r26
  have r27 : (3 : Int) ≤ ρ 27 ∧ ρ 27 ≤ 2000 := r27
  have r28 : (1 : Int) ≤ ρ 28 ∧ ρ 28 ≤ 4 := r28
  have r29 : (0 : Int) ≤ ρ 29 ∧ ρ 29 ≤ 19 := r29
  have r30 : (1 : Int) ≤ ρ 30 ∧ ρ 30 ≤ 20 := r30
  have r31 : ((-2147483648) : Int) ≤ ρ 31 ∧ ρ 31 ≤ 2147483647 := r31
  have r32 : ((-2147483648) : Int) ≤ ρ 32 ∧ ρ 32 ≤ 2147483647 := r32
  have r33 : (0 : Int) ≤ ρ 33 ∧ ρ 33 ≤ 8 := r33
  have r34 : (0 : Int) ≤ ρ 34 ∧ ρ 34 ≤ 32 := r34
  have r35 : (0 : Int) ≤ ρ 35 ∧ ρ 35 ≤ 5120 := r35
  have r36 : ((-1) : Int) ≤ ρ 36 ∧ ρ 36 ≤ 3 := r36
  have r37 : (0 : Int) ≤ ρ 37 ∧ ρ 37 ≤ 0 := r37
  obtain ⟨f0, f1, f2, f3, f4, f5, f6, f7, f8, f9, f10, f11, f12, f13, f14, f15, f16, f17, f18, f19, f20, -⟩ := hf
  have f0 : (0 : Int) ≤ -ρ 28 + ρ 27 + (-1) := f0
  have f1 : (0 : Int) ≤ -ρ 36 + ρ 27 + (-1) := f1
  have f2 : (0 : Int) ≤ ρ 27 + -ρ 26 + (-1) := f2
  have f3 : (0 : Int) ≤ ρ 30 + -ρ 29 + (-1) := f3
  have f4 : (0 : Int) ≤ ρ 30 + -ρ 11 := f4
  have f5 : (0 : Int) ≤ ρ 33 + -ρ 15 := f5
  have f6 : (0 : Int) ≤ ρ 34 + -ρ 16 := f6
  have f7 : (0 : Int) ≤ ρ 35 + -ρ 17 := f7
  have f8 : (0 : Int) ≤ -ρ 27 + ρ 4 := f8
  have f9 : (0 : Int) ≤ -ρ 26 + ρ 4 + (-1) := f9
  have f10 : (0 : Int) ≤ -ρ 8 + ρ 4 + (-1) := f10
  have f11 : (0 : Int) ≤ -ρ 20 + ρ 4 := f11
  have f12 : (0 : Int) ≤ -ρ 29 + ρ 11 := f12
  have f13 : (0 : Int) ≤ -ρ 25 + ρ 4 + (-1) := f13
  have f14 : (0 : Int) ≤ ρ 26 + -ρ 25 + (-1) := f14
  have f15 : (0 : Int) ≤ -ρ 26 + ρ 4 := f15
  have f16 : (0 : Int) ≤ ρ 25 + -ρ 23 + (-1) := f16
  have f17 : (0 : Int) ≤ -ρ 23 + ρ 4 + (-2) := f17
  have f18 : (0 : Int) ≤ ρ 23 + -ρ 3 := f18
  have f19 : (0 : Int) ≤ -ρ 23 + ρ 4 + (-1) := f19
  have f20 : (0 : Int) ≤ ρ 4 + -ρ 3 + (-1) := f20
  obtain ⟨m0, m1, m2, m3, m4, m5, m6, m7, m8, m9, m10, m11, m12, m13, m14, m15, m16, m17, m18, m19, m20, m21, m22, m23, m24, m25, m26, m27, m28, m29, m30, m31, m32, m33, m34, m35, m36, m37, m38, m39, m40, m41, m42, -⟩ := hm
  have m0 : γ 0 1 0 10 = ρ 0 := m0
  have m1 : γ 0 40 0 (ρ 0) = ρ 1 := m1
  have m2 : γ 0 9 (ρ 1) 2 = ρ 2 := m2
  have m3 : γ 0 2 0 6 = ρ 3 := m3
  have m4 : γ 0 2 0 3 = ρ 4 := m4
  have m5 : γ 0 10 (ρ 2 + 9 * ρ 1 + 1) 4 = ρ 5 := m5
  have m6 : γ 0 10 (ρ 2 + 9 * ρ 1 + 1) 11 = ρ 6 := m6
  have m7 : γ 0 10 (ρ 2 + 9 * ρ 1 + 1) 8 = ρ 7 := m7
  have m8 : γ 0 2 0 7 = ρ 8 := m8
  have m9 : γ 0 10 (9 * ρ 1) 8 = ρ 9 := m9
  have m10 : γ 0 10 (9 * ρ 1) 12 = ρ 10 := m10
  have m11 : γ 0 1 0 7 = ρ 11 := m11
  have m12 : γ 0 2 0 4 = ρ 12 := m12
  have m13 : γ 0 2 0 5 = ρ 13 := m13
  have m14 : γ 0 2 0 9 = ρ 14 := m14
  have m15 : γ 0 2 0 13 = ρ 15 := m15
  have m16 : γ 0 2 0 16 = ρ 16 := m16
  have m17 : γ 0 3 0 1 = ρ 17 := m17
  have m18 : γ 0 10 (ρ 2 + 9 * ρ 1 + 1) 5 = ρ 18 := m18
  have m19 : γ 0 10 (ρ 2 + 9 * ρ 1 + 1) 7 = ρ 19 := m19
  have m20 : γ 0 10 (ρ 2 + 9 * ρ 1 + 1) 9 = ρ 20 := m20
  have m21 : γ 0 10 (ρ 2 + 9 * ρ 1 + 1) 12 = ρ 21 := m21
  have m22 : γ 1 2 0 6 = ρ 23 := m22
  have m23 : γ 3 2 0 6 = ρ 25 := m23
  have m24 : γ 5 2 0 6 = ρ 26 := m24
  have m25 : γ 5 2 0 4 = ρ 12 := m25
  have m26 : γ 5 2 0 9 = ρ 25 := m26
  have m27 : γ 6 2 0 6 = ρ 27 := m27
  have m28 : γ 6 10 (ρ 2 + 9 * ρ 1 + 1) 5 = ρ 28 := m28
  have m29 : γ 6 10 (ρ 2 + 9 * ρ 1 + 1) 4 = 2 := m29
  have m30 : γ 6 10 (ρ 2 + 9 * ρ 1 + 1) 8 = ρ 29 := m30
  have m31 : γ 6 10 (9 * ρ 1) 8 = ρ 9 := m31
  have m32 : γ 6 10 (9 * ρ 1) 12 = ρ 10 := m32
  have m33 : γ 6 1 0 7 = ρ 30 := m33
  have m34 : γ 6 2 0 4 = ρ 12 := m34
  have m35 : γ 6 2 0 5 = ρ 31 := m35
  have m36 : γ 6 2 0 9 = ρ 32 := m36
  have m37 : γ 6 2 0 13 = ρ 33 := m37
  have m38 : γ 6 2 0 16 = ρ 34 := m38
  have m39 : γ 6 3 0 1 = ρ 35 := m39
  have m40 : γ 6 10 (ρ 2 + 9 * ρ 1 + 1) 7 = ρ 25 := m40
  have m41 : γ 6 10 (ρ 2 + 9 * ρ 1 + 1) 9 = ρ 36 := m41
  have m42 : γ 6 10 (ρ 2 + 9 * ρ 1 + 1) 12 = ρ 37 := m42
  obtain ⟨⟨⟨⟨⟨⟨-, c1⟩, c2⟩, c3⟩, c4⟩, c5⟩, c6⟩ := hc
  have c1 : ∀ (G : Nat) (k j : Int), ¬ rMdP m77_ G j → γ 1 G k j = γ 0 G k j := c1
  have c2 : γ 2 = rUp (γ 1) 2 0 6 (ρ 23 + 1) := c2
  have c3 : ∀ (G : Nat) (k j : Int), ¬ rMdP m77_ G j → γ 3 G k j = γ 2 G k j := c3
  have c4 : ∀ (G : Nat) (k j : Int), ¬ rMdP m0_ G j → γ 4 G k j = γ 3 G k j := c4
  have c5 : ∀ (G : Nat) (k j : Int), ¬ rMdP m78_ G j → γ 5 G k j = γ 4 G k j := c5
  have c6 : ∀ (G : Nat) (k j : Int), ¬ rMdP m98_ G j → γ 6 G k j = γ 5 G k j := c6
  obtain ⟨l0, l1, l2, l3, l4, -⟩ := hl
  have l0 : sn114 [ρ 3, ρ 4] (γ 0) 0 (ρ 22) (γ 1) := hS114 _ _ _ _ _ l0
  have l1 : sn114 [ρ 23 + 1, ρ 4] (γ 2) 0 (ρ 24) (γ 3) := hS114 _ _ _ _ _ l1
  have l2 : sn105 [ρ 24] (γ 3) 0 1 (γ 4) := hS105 _ _ _ _ _ l2
  have l3 : sn115 [ρ 25, ρ 4, ρ 12, ρ 14] (γ 4) 0 1 (γ 5) := hS115 _ _ _ _ _ l3
  have l4 : sn145 [2, ρ 0, ρ 1, ρ 2, ρ 26, ρ 4, ρ 18, ρ 5, ρ 8, ρ 7, ρ 9, ρ 10, ρ 11, ρ 12, ρ 13, ρ 25, ρ 15, ρ 16, ρ 17, ρ 19, ρ 20, ρ 21] (γ 5) 0 1 (γ 6) := hS145 _ _ _ _ _ l4
  show sn157 [ρ 0, ρ 1, ρ 2, ρ 3, ρ 4, ρ 5, ρ 6, ρ 7, ρ 8, ρ 9, ρ 10, ρ 11, ρ 12, ρ 13, ρ 14, ρ 15, ρ 16, ρ 17, ρ 18, ρ 19, ρ 20, ρ 21] (γ 0) 0 1 (γ 6)
  refine Eq.symm ?_
  show fn157 [] (γ 0) = _
  unfold fn157
  refine (zLet_eq m0).trans ?_
  refine (zLet_eq m1).trans ?_
  refine (zLet_eq m2).trans ?_
  refine (zLet_eq (show fn114 [] (γ 0) = (0, ρ 22, γ 1) from l0.symm)).trans ?_
  refine (zLet_eq (show _ = γ 1 from rfl)).trans ?_
  refine (if_pos (show (0 : Int) ≤ ρ 22 by omega)).trans ?_
  refine (zLet_eq (show _ = ρ 22 from rfl)).trans ?_
  refine (zLet_eq m22).trans ?_
  refine (if_neg (show ¬ (ρ 22 ≠ 33) by omega)).trans ?_
  refine (zLet_eq c2.symm).trans ?_
  refine (zLet_eq (show fn114 [] (γ 2) = (0, ρ 24, γ 3) from l1.symm)).trans ?_
  refine (zLet_eq (show _ = γ 3 from rfl)).trans ?_
  refine (if_pos (show (0 : Int) ≤ ρ 24 by omega)).trans ?_
  refine (zLet_eq (show _ = ρ 24 from rfl)).trans ?_
  refine (zLet_eq m23).trans ?_
  refine (zLet_eq (show fn105 [ρ 24] (γ 3) = (0, 1, γ 4) from l2.symm)).trans ?_
  refine (zLet_eq (show _ = γ 4 from rfl)).trans ?_
  refine (if_pos (show (1 : Int) ≤ 1 by omega)).trans ?_
  refine (zLet_eq (show fn115 [] (γ 4) = (0, 1, γ 5) from l3.symm)).trans ?_
  refine (zLet_eq (show _ = γ 5 from rfl)).trans ?_
  refine (if_pos (show (1 : Int) ≤ 1 by omega)).trans ?_
  refine (zLet_eq (show fn145 [2] (γ 5) = (0, 1, γ 6) from l4.symm)).trans ?_
  refine (zLet_eq (show _ = γ 6 from rfl)).trans ?_
  refine (if_pos (show (1 : Int) ≤ 1 by omega)).trans ?_
  rfl
theorem yn157 {S : Nat → zSpc} (hS103 : ∀ x g o v gz, S 103 x g o v gz → sn103 x g o v gz) (hS104 : ∀ x g o v gz, S 104 x g o v gz → sn104 x g o v gz) (hS105 : ∀ x g o v gz, S 105 x g o v gz → sn105 x g o v gz) (hS106 : ∀ x g o v gz, S 106 x g o v gz → sn106 x g o v gz) (hS107 : ∀ x g o v gz, S 107 x g o v gz → sn107 x g o v gz) (hS109 : ∀ x g o v gz, S 109 x g o v gz → sn109 x g o v gz) (hS114 : ∀ x g o v gz, S 114 x g o v gz → sn114 x g o v gz) (hS115 : ∀ x g o v gz, S 115 x g o v gz → sn115 x g o v gz) (hS116 : ∀ x g o v gz, S 116 x g o v gz → sn116 x g o v gz) (hS135 : ∀ x g o v gz, S 135 x g o v gz → sn135 x g o v gz) (hS139 : ∀ x g o v gz, S 139 x g o v gz → sn139 x g o v gz) (hS145 : ∀ x g o v gz, S 145 x g o v gz → sn145 x g o v gz) (hS154 : ∀ x g o v gz, S 154 x g o v gz → sn154 x g o v gz) (hS155 : ∀ x g o v gz, S 155 x g o v gz → sn155 x g o v gz) (hS156 : ∀ x g o v gz, S 156 x g o v gz → sn156 x g o v gz) : ∀ x g o v gz, zSem uW uT w157_.2.2.2.1 w157_.2.2.1.1.length S q157 (fun i => q157a.getD i []) (zNA a157_) x g o v gz → sn157 x g o v gz := by
  intro a g o v gz h
  exact zSem_all (l0 := q157) (las := q157a) (S := S) (J := (fun _ _ _ => True)) (P := sn157 a g) (fun _ => (show zAll _ [q157_0, q157_1, q157_2, q157_3, q157_4, q157_5, q157_6, q157_7, q157_8, q157_9, q157_10, q157_11, q157_12, q157_13, q157_14, q157_15, q157_16, q157_17, q157_18, q157_19, q157_20, q157_21, q157_22, q157_23, q157_24, q157_25, q157_26, q157_27, q157_28, q157_29, q157_30, q157_31] from (zAll_c (vn157_0 hS103 hS104 hS105 hS106 hS107 hS109 hS114 hS115 hS116 hS135 hS139 hS145 hS154 hS155 hS156) (zAll_c (vn157_1 hS103 hS104 hS105 hS106 hS107 hS109 hS114 hS115 hS116 hS135 hS139 hS145 hS154 hS155 hS156) (zAll_c (vn157_2 hS103 hS104 hS105 hS106 hS107 hS109 hS114 hS115 hS116 hS135 hS139 hS145 hS154 hS155 hS156) (zAll_c (vn157_3 hS103 hS104 hS105 hS106 hS107 hS109 hS114 hS115 hS116 hS135 hS139 hS145 hS154 hS155 hS156) (zAll_c (vn157_4 hS103 hS104 hS105 hS106 hS107 hS109 hS114 hS115 hS116 hS135 hS139 hS145 hS154 hS155 hS156) (zAll_c (vn157_5 hS103 hS104 hS105 hS106 hS107 hS109 hS114 hS115 hS116 hS135 hS139 hS145 hS154 hS155 hS156) (zAll_c (vn157_6 hS103 hS104 hS105 hS106 hS107 hS109 hS114 hS115 hS116 hS135 hS139 hS145 hS154 hS155 hS156) (zAll_c (vn157_7 hS103 hS104 hS105 hS106 hS107 hS109 hS114 hS115 hS116 hS135 hS139 hS145 hS154 hS155 hS156) (zAll_c (vn157_8 hS103 hS104 hS105 hS106 hS107 hS109 hS114 hS115 hS116 hS135 hS139 hS145 hS154 hS155 hS156) (zAll_c (vn157_9 hS103 hS104 hS105 hS106 hS107 hS109 hS114 hS115 hS116 hS135 hS139 hS145 hS154 hS155 hS156) (zAll_c (vn157_10 hS103 hS104 hS105 hS106 hS107 hS109 hS114 hS115 hS116 hS135 hS139 hS145 hS154 hS155 hS156) (zAll_c (vn157_11 hS103 hS104 hS105 hS106 hS107 hS109 hS114 hS115 hS116 hS135 hS139 hS145 hS154 hS155 hS156) (zAll_c (vn157_12 hS103 hS104 hS105 hS106 hS107 hS109 hS114 hS115 hS116 hS135 hS139 hS145 hS154 hS155 hS156) (zAll_c (vn157_13 hS103 hS104 hS105 hS106 hS107 hS109 hS114 hS115 hS116 hS135 hS139 hS145 hS154 hS155 hS156) (zAll_c (vn157_14 hS103 hS104 hS105 hS106 hS107 hS109 hS114 hS115 hS116 hS135 hS139 hS145 hS154 hS155 hS156) (zAll_c (vn157_15 hS103 hS104 hS105 hS106 hS107 hS109 hS114 hS115 hS116 hS135 hS139 hS145 hS154 hS155 hS156) (zAll_c (vn157_16 hS103 hS104 hS105 hS106 hS107 hS109 hS114 hS115 hS116 hS135 hS139 hS145 hS154 hS155 hS156) (zAll_c (vn157_17 hS103 hS104 hS105 hS106 hS107 hS109 hS114 hS115 hS116 hS135 hS139 hS145 hS154 hS155 hS156) (zAll_c (vn157_18 hS103 hS104 hS105 hS106 hS107 hS109 hS114 hS115 hS116 hS135 hS139 hS145 hS154 hS155 hS156) (zAll_c (vn157_19 hS103 hS104 hS105 hS106 hS107 hS109 hS114 hS115 hS116 hS135 hS139 hS145 hS154 hS155 hS156) (zAll_c (vn157_20 hS103 hS104 hS105 hS106 hS107 hS109 hS114 hS115 hS116 hS135 hS139 hS145 hS154 hS155 hS156) (zAll_c (vn157_21 hS103 hS104 hS105 hS106 hS107 hS109 hS114 hS115 hS116 hS135 hS139 hS145 hS154 hS155 hS156) (zAll_c (vn157_22 hS103 hS104 hS105 hS106 hS107 hS109 hS114 hS115 hS116 hS135 hS139 hS145 hS154 hS155 hS156) (zAll_c (vn157_23 hS103 hS104 hS105 hS106 hS107 hS109 hS114 hS115 hS116 hS135 hS139 hS145 hS154 hS155 hS156) (zAll_c (vn157_24 hS103 hS104 hS105 hS106 hS107 hS109 hS114 hS115 hS116 hS135 hS139 hS145 hS154 hS155 hS156) (zAll_c (vn157_25 hS103 hS104 hS105 hS106 hS107 hS109 hS114 hS115 hS116 hS135 hS139 hS145 hS154 hS155 hS156) (zAll_c (vn157_26 hS103 hS104 hS105 hS106 hS107 hS109 hS114 hS115 hS116 hS135 hS139 hS145 hS154 hS155 hS156) (zAll_c (vn157_27 hS103 hS104 hS105 hS106 hS107 hS109 hS114 hS115 hS116 hS135 hS139 hS145 hS154 hS155 hS156) (zAll_c (vn157_28 hS103 hS104 hS105 hS106 hS107 hS109 hS114 hS115 hS116 hS135 hS139 hS145 hS154 hS155 hS156) (zAll_c (vn157_29 hS103 hS104 hS105 hS106 hS107 hS109 hS114 hS115 hS116 hS135 hS139 hS145 hS154 hS155 hS156) (zAll_c (vn157_30 hS103 hS104 hS105 hS106 hS107 hS109 hS114 hS115 hS116 hS135 hS139 hS145 hS154 hS155 hS156) (zAll_c (vn157_31 hS103 hS104 hS105 hS106 hS107 hS109 hS114 hS115 hS116 hS135 hS139 hS145 hS154 hS155 hS156) zAll_n)))))))))))))))))))))))))))))))))) (fun _ => (show zAllI _ 0 [] from trivial)) h
