/-! ===== the runs are the functions ===== -/
theorem vn41_0 {S : Nat → zSpc} (hS6 : ∀ x g o v gz, S 6 x g o v gz → sn6 x g o v gz) (hS7 : ∀ x g o v gz, S 7 x g o v gz → sn7 x g o v gz) (hS8 : ∀ x g o v gz, S 8 x g o v gz → sn8 x g o v gz) (hS20 : ∀ x g o v gz, S 20 x g o v gz → sn20 x g o v gz) (hS21 : ∀ x g o v gz, S 21 x g o v gz → sn21 x g o v gz) (hS24 : ∀ x g o v gz, S 24 x g o v gz → sn24 x g o v gz) (hS25 : ∀ x g o v gz, S 25 x g o v gz → sn25 x g o v gz) (hS33 : ∀ x g o v gz, S 33 x g o v gz → sn33 x g o v gz) (hS39 : ∀ x g o v gz, S 39 x g o v gz → sn39 x g o v gz) {a : List Int} {g : rHp} : ∀ (ρ : Nat → Int) (γ : Nat → rHp), zO 19 S a g q41_0 ρ γ → zGl (fun i vs g1 => jn41 a g i vs g1) (sn41 a g) q41_0 ρ γ := by
  intro ρ γ h
  obtain ⟨ha, hg, hr, hf, hm, hc, hl⟩ := h
  have ha : a = [ρ 0, ρ 1, ρ 2, ρ 3, ρ 4, ρ 5, ρ 6, ρ 7, ρ 8, ρ 9, ρ 10, ρ 11, ρ 12, ρ 13, ρ 14, ρ 15, ρ 16, ρ 17, ρ 18] := ha
  subst ha
  subst hg
  obtain ⟨r0, r1, r2, r3, r4, r5, r6, r7, r8, r9, r10, r11, r12, r13, r14, r15, r16, r17, r18, -⟩ := hr
  have r0 : (0 : Int) ≤ ρ 0 ∧ ρ 0 ≤ 1 := r0
  have r1 : (0 : Int) ≤ ρ 1 ∧ ρ 1 ≤ 2000 := r1
  have r2 : (0 : Int) ≤ ρ 2 ∧ ρ 2 ≤ 2000 := r2
  have r3 : (0 : Int) ≤ ρ 3 ∧ ρ 3 ≤ 12288 := r3
  have r4 : (0 : Int) ≤ ρ 4 ∧ ρ 4 ≤ 12288 := r4
  have r5 : (0 : Int) ≤ ρ 5 ∧ ρ 5 ≤ 64 := r5
  have r6 : (0 : Int) ≤ ρ 6 ∧ ρ 6 ≤ 2000 := r6
  have r7 : (0 : Int) ≤ ρ 7 ∧ ρ 7 ≤ 12 := r7
  have r8 : (0 : Int) ≤ ρ 8 ∧ ρ 8 ≤ 20 := r8
  have r9 : (0 : Int) ≤ ρ 9 ∧ ρ 9 ≤ 60 := r9
  have r10 : (0 : Int) ≤ ρ 10 ∧ ρ 10 ≤ 60 := r10
  have r11 : (0 : Int) ≤ ρ 11 ∧ ρ 11 ≤ 61 := r11
  have r12 : (0 : Int) ≤ ρ 12 ∧ ρ 12 ≤ 7 := r12
  have r13 : (0 : Int) ≤ ρ 13 ∧ ρ 13 ≤ 7 := r13
  have r14 : ((-2147483648) : Int) ≤ ρ 14 ∧ ρ 14 ≤ 1099511640064 := r14
  have r15 : (0 : Int) ≤ ρ 15 ∧ ρ 15 ≤ 19 := r15
  have r16 : (0 : Int) ≤ ρ 16 ∧ ρ 16 ≤ 2000 := r16
  have r17 : (0 : Int) ≤ ρ 17 ∧ ρ 17 ≤ 3 := r17
  have r18 : ((-2147483648) : Int) ≤ ρ 18 ∧ ρ 18 ≤ 2147483647 := r18
  obtain ⟨f0, f1, f2, f3, f4, f5, f6, -⟩ := hf
  have f0 : (0 : Int) ≤ -ρ 7 + -ρ 6 + 2000 := f0
  have f1 : (0 : Int) ≤ 4 * ρ 12 + -ρ 5 + 6 := f1
  have f2 : (0 : Int) ≤ -ρ 11 + (ρ 10 + ρ 9) := f2
  have f3 : (0 : Int) ≤ ρ 11 + (-ρ 10 + -ρ 9) := f3
  have f4 : (0 : Int) ≤ ρ 2 + -ρ 1 + (-1) := f4
  have f5 : (0 : Int) ≤ -ρ 4 + (-ρ 2 + ρ 1) + 12288 := f5
  have f6 : (0 : Int) ≤ -ρ 3 + (-ρ 2 + ρ 1) + 12288 := f6
  obtain ⟨m0, m1, m2, m3, m4, m5, m6, m7, m8, m9, m10, m11, m12, m13, m14, m15, m16, m17, -⟩ := hm
  have m0 : γ 0 15 0 35 = ρ 1 := m0
  have m1 : γ 0 15 0 34 = ρ 2 := m1
  have m2 : γ 0 15 0 8 = ρ 3 := m2
  have m3 : γ 0 15 0 9 = ρ 4 := m3
  have m4 : γ 0 15 0 58 = ρ 5 := m4
  have m5 : γ 0 15 0 37 = ρ 6 := m5
  have m6 : γ 0 15 0 38 = ρ 7 := m6
  have m7 : γ 0 15 0 14 = ρ 8 := m7
  have m8 : γ 0 15 0 32 = ρ 9 := m8
  have m9 : γ 0 15 0 33 = ρ 10 := m9
  have m10 : γ 0 15 0 44 = ρ 11 := m10
  have m11 : γ 0 73 0 (ρ 11) = ρ 12 := m11
  have m12 : γ 0 77 0 (ρ 12 + 8 * ρ 11) = ρ 13 := m12
  have m13 : γ 0 81 0 (4 * ρ 12 + 32 * ρ 11) = ρ 14 := m13
  have m14 : γ 0 78 0 (ρ 12 + 8 * ρ 11) = ρ 15 := m14
  have m15 : γ 0 15 0 36 = ρ 16 := m15
  have m16 : γ 0 15 0 40 = ρ 17 := m16
  have m17 : γ 0 15 0 45 = ρ 18 := m17
  obtain ⟨⟨-, c1⟩, c2⟩ := hc
  have c1 : ∀ (G : Nat) (k j : Int), ¬ rMdP m0_ G j → γ 1 G k j = γ 0 G k j := c1
  have c2 : γ 2 = rUp (γ 1) 15 0 35 (ρ 1 + 1) := c2
  obtain ⟨l0, -⟩ := hl
  have l0 : sn33 [ρ 11, ρ 12] (γ 0) 0 (ρ 12 + 8 * ρ 11) (γ 1) := hS33 _ _ _ _ _ l0
  show jn41 [ρ 0, ρ 1, ρ 2, ρ 3, ρ 4, ρ 5, ρ 6, ρ 7, ρ 8, ρ 9, ρ 10, ρ 11, ρ 12, ρ 13, ρ 14, ρ 15, ρ 16, ρ 17, ρ 18] (γ 0) 0 [ρ 0, ρ 1, ρ 2, ρ 3, ρ 4, ρ 5, ρ 6, ρ 7, ρ 8, ρ 9, ρ 10, ρ 11, ρ 12, ρ 13, ρ 14, ρ 15, ρ 16, ρ 17, ρ 18, 1, 0, 0, ρ 1 + 1, ρ 3, ρ 4, ρ 5, ρ 6, ρ 7, ρ 17, ρ 14] (γ 2)
  have hD : dn41 [ρ 0] (γ 0) = .inl (0, [ρ 0, 1, 0, 0], γ 2) := by
    unfold dn41
    refine (zLet_eq (show _ = ρ 0 from rfl)).trans ?_
    refine (zLet_eq m0).trans ?_
    refine (zLet_eq (show fn33 [] (γ 0) = (0, ρ 12 + 8 * ρ 11, γ 1) from l0.symm)).trans ?_
    refine (zLet_eq (show _ = γ 1 from rfl)).trans ?_
    refine (zLet_eq c2.symm).trans ?_
    rfl
  exact zGoo_to hD
theorem vn41a0_0 {S : Nat → zSpc} (hS6 : ∀ x g o v gz, S 6 x g o v gz → sn6 x g o v gz) (hS7 : ∀ x g o v gz, S 7 x g o v gz → sn7 x g o v gz) (hS8 : ∀ x g o v gz, S 8 x g o v gz → sn8 x g o v gz) (hS20 : ∀ x g o v gz, S 20 x g o v gz → sn20 x g o v gz) (hS21 : ∀ x g o v gz, S 21 x g o v gz → sn21 x g o v gz) (hS24 : ∀ x g o v gz, S 24 x g o v gz → sn24 x g o v gz) (hS25 : ∀ x g o v gz, S 25 x g o v gz → sn25 x g o v gz) (hS33 : ∀ x g o v gz, S 33 x g o v gz → sn33 x g o v gz) (hS39 : ∀ x g o v gz, S 39 x g o v gz → sn39 x g o v gz) {a : List Int} {g : rHp} : ∀ (ρ : Nat → Int) (γ : Nat → rHp), jn41 a g 0 (zAg (zNA a41_ 0) ρ) (γ 1) → zO 19 S a g q41a0_0 ρ γ → zGl (fun i vs g1 => jn41 a g i vs g1) (sn41 a g) q41a0_0 ρ γ := by
  intro ρ γ hJ h
  obtain ⟨ha, hg, hr, hf, hm, hc, hl⟩ := h
  have ha : a = [ρ 0, ρ 1, ρ 2, ρ 3, ρ 4, ρ 5, ρ 6, ρ 7, ρ 8, ρ 9, ρ 10, ρ 11, ρ 12, ρ 13, ρ 14, ρ 15, ρ 16, ρ 17, ρ 18] := ha
  subst ha
  subst hg
  have hJ : jn41 [ρ 0, ρ 1, ρ 2, ρ 3, ρ 4, ρ 5, ρ 6, ρ 7, ρ 8, ρ 9, ρ 10, ρ 11, ρ 12, ρ 13, ρ 14, ρ 15, ρ 16, ρ 17, ρ 18] (γ 0) 0 [ρ 0, ρ 1, ρ 2, ρ 3, ρ 4, ρ 5, ρ 6, ρ 7, ρ 8, ρ 9, ρ 10, ρ 11, ρ 12, ρ 13, ρ 14, ρ 15, ρ 16, ρ 17, ρ 18, ρ 19, ρ 20, ρ 21, ρ 22, ρ 23, ρ 24, ρ 25, ρ 26, ρ 27, ρ 28, ρ 29] (γ 1) := hJ
  obtain ⟨r0, r1, r2, r3, r4, r5, r6, r7, r8, r9, r10, r11, r12, r13, r14, r15, r16, r17, r18, r19, r20, r21, r22, r23, r24, r25, r26, r27, r28, r29, r30, r31, -⟩ := hr
  have r0 : (0 : Int) ≤ ρ 0 ∧ ρ 0 ≤ 1 := r0
  have r1 : (0 : Int) ≤ ρ 1 ∧ ρ 1 ≤ 2000 := r1
  have r2 : (1 : Int) ≤ ρ 2 ∧ ρ 2 ≤ 2000 := r2
  have r3 : (0 : Int) ≤ ρ 3 ∧ ρ 3 ≤ 12288 := r3
  have r4 : (0 : Int) ≤ ρ 4 ∧ ρ 4 ≤ 12288 := r4
  have r5 : (0 : Int) ≤ ρ 5 ∧ ρ 5 ≤ 64 := r5
  have r6 : (0 : Int) ≤ ρ 6 ∧ ρ 6 ≤ 2000 := r6
  have r7 : (0 : Int) ≤ ρ 7 ∧ ρ 7 ≤ 12 := r7
  have r8 : (0 : Int) ≤ ρ 8 ∧ ρ 8 ≤ 20 := r8
  have r9 : (0 : Int) ≤ ρ 9 ∧ ρ 9 ≤ 60 := r9
  have r10 : (0 : Int) ≤ ρ 10 ∧ ρ 10 ≤ 60 := r10
  have r11 : (0 : Int) ≤ ρ 11 ∧ ρ 11 ≤ 61 := r11
  have r12 : (0 : Int) ≤ ρ 12 ∧ ρ 12 ≤ 7 := r12
  have r13 : (0 : Int) ≤ ρ 13 ∧ ρ 13 ≤ 7 := r13
  have r14 : ((-2147483648) : Int) ≤ ρ 14 ∧ ρ 14 ≤ 1099511640064 := r14
  have r15 : (0 : Int) ≤ ρ 15 ∧ ρ 15 ≤ 19 := r15
  have r16 : (0 : Int) ≤ ρ 16 ∧ ρ 16 ≤ 2000 := r16
  have r17 : (0 : Int) ≤ ρ 17 ∧ ρ 17 ≤ 3 := r17
  have r18 : ((-2147483648) : Int) ≤ ρ 18 ∧ ρ 18 ≤ 2147483647 := r18
  have r19 : (0 : Int) ≤ ρ 19 ∧ ρ 19 ≤ 0 := r19
  have r20 : ((-2147483648) : Int) ≤ ρ 20 ∧ ρ 20 ≤ 2147483647 := r20
  have r21 : (0 : Int) ≤ ρ 21 ∧ ρ 21 ≤ 4 := r21
  have r22 : (1 : Int) ≤ ρ 22 ∧ ρ 22 ≤ 2000 := r22
  have r23 : (0 : Int) ≤ ρ 23 ∧ ρ 23 ≤ 12288 := r23
  have r24 : (0 : Int) ≤ ρ 24 ∧ ρ 24 ≤ 12288 := r24
  have r25 : (0 : Int) ≤ ρ 25 ∧ ρ 25 ≤ 40 := r25
  have r26 : (0 : Int) ≤ ρ 26 ∧ ρ 26 ≤ 2000 := r26
  have r27 : (0 : Int) ≤ ρ 27 ∧ ρ 27 ≤ 2000 := r27
  have r28 : (0 : Int) ≤ ρ 28 ∧ ρ 28 ≤ 3 := r28
  have r29 : ((-2147483648) : Int) ≤ ρ 29 ∧ ρ 29 ≤ 1099511640064 := r29
  have r30 : (0 : Int) ≤ ρ 30 ∧ ρ 30 ≤ 2000 := r30
  have r31 : (0 : Int) ≤ ρ 31 ∧ ρ 31 ≤ 2000 := r31
  obtain ⟨f0, f1, f2, f3, f4, f5, f6, f7, f8, f9, f10, f11, f12, f13, f14, f15, f16, f17, f18, f19, f20, f21, f22, -⟩ := hf
  have f0 : (0 : Int) ≤ -ρ 22 + ρ 2 := f0
  have f1 : (0 : Int) ≤ -ρ 31 + ρ 30 := f1
  have f2 : (0 : Int) ≤ ρ 30 + -ρ 22 := f2
  have f3 : (0 : Int) ≤ -ρ 30 + ρ 2 := f3
  have f4 : (0 : Int) ≤ -ρ 25 + (ρ 21 + 4 * ρ 12) + 6 := f4
  have f5 : (0 : Int) ≤ -ρ 25 + 4 * ρ 12 + 10 := f5
  have f6 : (0 : Int) ≤ -ρ 24 + (ρ 22 + -ρ 2) + 12288 := f6
  have f7 : (0 : Int) ≤ -ρ 23 + (ρ 22 + -ρ 2) + 12288 := f7
  have f8 : (0 : Int) ≤ -ρ 24 + (ρ 22 + (ρ 4 + -ρ 1)) := f8
  have f9 : (0 : Int) ≤ -ρ 23 + (ρ 22 + (ρ 3 + -ρ 1)) := f9
  have f10 : (0 : Int) ≤ -ρ 7 + -ρ 6 + 2000 := f10
  have f11 : (0 : Int) ≤ -ρ 21 + ρ 2 := f11
  have f12 : (0 : Int) ≤ ρ 25 + -ρ 5 := f12
  have f13 : (0 : Int) ≤ ρ 24 + -ρ 4 := f13
  have f14 : (0 : Int) ≤ ρ 23 + -ρ 3 := f14
  have f15 : (0 : Int) ≤ ρ 22 + -ρ 1 + (-1) := f15
  have f16 : (0 : Int) ≤ ρ 22 + -ρ 21 + (-1) := f16
  have f17 : (0 : Int) ≤ 4 * ρ 12 + -ρ 5 + 6 := f17
  have f18 : (0 : Int) ≤ -ρ 11 + (ρ 10 + ρ 9) := f18
  have f19 : (0 : Int) ≤ ρ 11 + (-ρ 10 + -ρ 9) := f19
  have f20 : (0 : Int) ≤ ρ 2 + -ρ 1 + (-1) := f20
  have f21 : (0 : Int) ≤ -ρ 4 + (-ρ 2 + ρ 1) + 12288 := f21
  have f22 : (0 : Int) ≤ -ρ 3 + (-ρ 2 + ρ 1) + 12288 := f22
  obtain ⟨m0, m1, m2, m3, m4, m5, m6, m7, m8, m9, m10, m11, m12, m13, m14, m15, m16, m17, m18, m19, m20, m21, m22, m23, m24, m25, m26, m27, m28, -⟩ := hm
  have m0 : γ 0 15 0 35 = ρ 1 := m0
  have m1 : γ 0 15 0 34 = ρ 2 := m1
  have m2 : γ 0 15 0 8 = ρ 3 := m2
  have m3 : γ 0 15 0 9 = ρ 4 := m3
  have m4 : γ 0 15 0 58 = ρ 5 := m4
  have m5 : γ 0 15 0 37 = ρ 6 := m5
  have m6 : γ 0 15 0 38 = ρ 7 := m6
  have m7 : γ 0 15 0 14 = ρ 8 := m7
  have m8 : γ 0 15 0 32 = ρ 9 := m8
  have m9 : γ 0 15 0 33 = ρ 10 := m9
  have m10 : γ 0 15 0 44 = ρ 11 := m10
  have m11 : γ 0 73 0 (ρ 11) = ρ 12 := m11
  have m12 : γ 0 77 0 (ρ 12 + 8 * ρ 11) = ρ 13 := m12
  have m13 : γ 0 81 0 (4 * ρ 12 + 32 * ρ 11) = ρ 14 := m13
  have m14 : γ 0 78 0 (ρ 12 + 8 * ρ 11) = ρ 15 := m14
  have m15 : γ 0 15 0 36 = ρ 16 := m15
  have m16 : γ 0 15 0 40 = ρ 17 := m16
  have m17 : γ 0 15 0 45 = ρ 18 := m17
  have m18 : γ 1 15 0 35 = ρ 22 := m18
  have m19 : γ 1 15 0 8 = ρ 23 := m19
  have m20 : γ 1 15 0 9 = ρ 24 := m20
  have m21 : γ 1 15 0 58 = ρ 25 := m21
  have m22 : γ 1 15 0 37 = ρ 26 := m22
  have m23 : γ 1 15 0 38 = ρ 27 := m23
  have m24 : γ 1 15 0 36 = ρ 16 := m24
  have m25 : γ 1 15 0 40 = ρ 28 := m25
  have m26 : γ 1 81 0 (4 * ρ 12 + 32 * ρ 11) = ρ 29 := m26
  have m27 : γ 2 15 0 35 = ρ 30 := m27
  have m28 : γ 2 15 0 36 = ρ 31 := m28
  obtain ⟨⟨-, c1⟩, c2⟩ := hc
  have c1 : ∀ (G : Nat) (k j : Int), ¬ rMdP m26_ G j → γ 1 G k j = γ 0 G k j := c1
  have c2 : ∀ (G : Nat) (k j : Int), ¬ rMdP m17_ G j → γ 2 G k j = γ 1 G k j := c2
  obtain ⟨l0, -⟩ := hl
  have l0 : sn24 [41, ρ 22, ρ 2, ρ 16] (γ 1) 0 0 (γ 2) := hS24 _ _ _ _ _ l0
  show sn41 [ρ 0, ρ 1, ρ 2, ρ 3, ρ 4, ρ 5, ρ 6, ρ 7, ρ 8, ρ 9, ρ 10, ρ 11, ρ 12, ρ 13, ρ 14, ρ 15, ρ 16, ρ 17, ρ 18] (γ 0) 0 0 (γ 2)
  have hD : en41 (γ 0) (0, [ρ 0, ρ 19, ρ 20, ρ 21], γ 1) = .inr (0, 0, γ 2) := by
    unfold en41
    refine (if_pos (show (0 : Nat) = 0 by decide)).trans ?_
    refine (zLet_eq (show _ = γ 1 from rfl)).trans ?_
    refine (zLet_eq (show _ = ρ 0 from rfl)).trans ?_
    refine (zLet_eq (show _ = ρ 19 from rfl)).trans ?_
    refine (zLet_eq (show _ = ρ 20 from rfl)).trans ?_
    refine (zLet_eq (show _ = ρ 21 from rfl)).trans ?_
    refine (zLet_eq m1).trans ?_
    refine (zLet_eq m5).trans ?_
    refine (zLet_eq m6).trans ?_
    refine (zLet_eq m7).trans ?_
    refine (zLet_eq m10).trans ?_
    refine (zLet_eq m11).trans ?_
    refine (zLet_eq m17).trans ?_
    refine (if_pos (show ρ 19 = 0 by omega)).trans ?_
    refine (zLet_eq (show fn24 [41] (γ 1) = (0, 0, γ 2) from l0.symm)).trans ?_
    refine (zLet_eq (show _ = γ 2 from rfl)).trans ?_
    refine (if_neg (show ¬ ((1 : Int) ≤ 0) by omega)).trans ?_
    rfl
  exact zGoo_aend hJ hD
theorem vn41a0_1 {S : Nat → zSpc} (hS6 : ∀ x g o v gz, S 6 x g o v gz → sn6 x g o v gz) (hS7 : ∀ x g o v gz, S 7 x g o v gz → sn7 x g o v gz) (hS8 : ∀ x g o v gz, S 8 x g o v gz → sn8 x g o v gz) (hS20 : ∀ x g o v gz, S 20 x g o v gz → sn20 x g o v gz) (hS21 : ∀ x g o v gz, S 21 x g o v gz → sn21 x g o v gz) (hS24 : ∀ x g o v gz, S 24 x g o v gz → sn24 x g o v gz) (hS25 : ∀ x g o v gz, S 25 x g o v gz → sn25 x g o v gz) (hS33 : ∀ x g o v gz, S 33 x g o v gz → sn33 x g o v gz) (hS39 : ∀ x g o v gz, S 39 x g o v gz → sn39 x g o v gz) {a : List Int} {g : rHp} : ∀ (ρ : Nat → Int) (γ : Nat → rHp), jn41 a g 0 (zAg (zNA a41_ 0) ρ) (γ 1) → zO 19 S a g q41a0_1 ρ γ → zGl (fun i vs g1 => jn41 a g i vs g1) (sn41 a g) q41a0_1 ρ γ := by
  intro ρ γ hJ h
  obtain ⟨ha, hg, hr, hf, hm, hc, hl⟩ := h
  have ha : a = [ρ 0, ρ 1, ρ 2, ρ 3, ρ 4, ρ 5, ρ 6, ρ 7, ρ 8, ρ 9, ρ 10, ρ 11, ρ 12, ρ 13, ρ 14, ρ 15, ρ 16, ρ 17, ρ 18] := ha
  subst ha
  subst hg
  have hJ : jn41 [ρ 0, ρ 1, ρ 2, ρ 3, ρ 4, ρ 5, ρ 6, ρ 7, ρ 8, ρ 9, ρ 10, ρ 11, ρ 12, ρ 13, ρ 14, ρ 15, ρ 16, ρ 17, ρ 18] (γ 0) 0 [ρ 0, ρ 1, ρ 2, ρ 3, ρ 4, ρ 5, ρ 6, ρ 7, ρ 8, ρ 9, ρ 10, ρ 11, ρ 12, ρ 13, ρ 14, ρ 15, ρ 16, ρ 17, ρ 18, ρ 19, ρ 20, ρ 21, ρ 22, ρ 23, ρ 24, ρ 25, ρ 26, ρ 27, ρ 28, ρ 29] (γ 1) := hJ
  obtain ⟨r0, r1, r2, r3, r4, r5, r6, r7, r8, r9, r10, r11, r12, r13, r14, r15, r16, r17, r18, r19, r20, r21, r22, r23, r24, r25, r26, r27, r28, r29, r30, r31, r32, -⟩ := hr
  have r0 : (0 : Int) ≤ ρ 0 ∧ ρ 0 ≤ 0 := r0
  have r1 : (0 : Int) ≤ ρ 1 ∧ ρ 1 ≤ 2000 := r1
  have r2 : (1 : Int) ≤ ρ 2 ∧ ρ 2 ≤ 2000 := r2
  have r3 : (0 : Int) ≤ ρ 3 ∧ ρ 3 ≤ 12288 := r3
  have r4 : (0 : Int) ≤ ρ 4 ∧ ρ 4 ≤ 12288 := r4
  have r5 : (0 : Int) ≤ ρ 5 ∧ ρ 5 ≤ 64 := r5
  have r6 : (0 : Int) ≤ ρ 6 ∧ ρ 6 ≤ 2000 := r6
  have r7 : (0 : Int) ≤ ρ 7 ∧ ρ 7 ≤ 12 := r7
  have r8 : (0 : Int) ≤ ρ 8 ∧ ρ 8 ≤ 20 := r8
  have r9 : (0 : Int) ≤ ρ 9 ∧ ρ 9 ≤ 60 := r9
  have r10 : (0 : Int) ≤ ρ 10 ∧ ρ 10 ≤ 60 := r10
  have r11 : (0 : Int) ≤ ρ 11 ∧ ρ 11 ≤ 61 := r11
  have r12 : (0 : Int) ≤ ρ 12 ∧ ρ 12 ≤ 7 := r12
  have r13 : (0 : Int) ≤ ρ 13 ∧ ρ 13 ≤ 7 := r13
  have r14 : ((-2147483648) : Int) ≤ ρ 14 ∧ ρ 14 ≤ 1099511640064 := r14
  have r15 : (0 : Int) ≤ ρ 15 ∧ ρ 15 ≤ 19 := r15
  have r16 : (0 : Int) ≤ ρ 16 ∧ ρ 16 ≤ 2000 := r16
  have r17 : (0 : Int) ≤ ρ 17 ∧ ρ 17 ≤ 3 := r17
  have r18 : ((-2147483648) : Int) ≤ ρ 18 ∧ ρ 18 ≤ 2147483647 := r18
  have r19 : (0 : Int) ≤ ρ 19 ∧ ρ 19 ≤ 0 := r19
  have r20 : ((-2147483648) : Int) ≤ ρ 20 ∧ ρ 20 ≤ 2147483647 := r20
  have r21 : (0 : Int) ≤ ρ 21 ∧ ρ 21 ≤ 4 := r21
  have r22 : (1 : Int) ≤ ρ 22 ∧ ρ 22 ≤ 2000 := r22
  have r23 : (0 : Int) ≤ ρ 23 ∧ ρ 23 ≤ 12288 := r23
  have r24 : (0 : Int) ≤ ρ 24 ∧ ρ 24 ≤ 12288 := r24
  have r25 : (0 : Int) ≤ ρ 25 ∧ ρ 25 ≤ 40 := r25
  have r26 : (0 : Int) ≤ ρ 26 ∧ ρ 26 ≤ 2000 := r26
  have r27 : (0 : Int) ≤ ρ 27 ∧ ρ 27 ≤ 2000 := r27
  have r28 : (0 : Int) ≤ ρ 28 ∧ ρ 28 ≤ 3 := r28
  have r29 : ((-2147483648) : Int) ≤ ρ 29 ∧ ρ 29 ≤ 1099511640064 := r29
  have r30 : (1 : Int) ≤ ρ 30 ∧ ρ 30 ≤ 2000 := r30
  have r31 : (0 : Int) ≤ ρ 31 ∧ ρ 31 ≤ 19 := r31
  have r32 : ((-2147483648) : Int) ≤ ρ 32 ∧ ρ 32 ≤ 2147483647 := r32
  obtain ⟨f0, f1, f2, f3, f4, f5, f6, f7, f8, f9, f10, f11, f12, f13, f14, f15, f16, f17, f18, f19, f20, f21, f22, f23, -⟩ := hf
  have f0 : (0 : Int) ≤ -ρ 7 + -ρ 6 + 2000 := f0
  have f1 : (0 : Int) ≤ -ρ 31 + ρ 8 + (-1) := f1
  have f2 : (0 : Int) ≤ -ρ 22 + ρ 2 := f2
  have f3 : (0 : Int) ≤ ρ 30 + -ρ 22 + (-1) := f3
  have f4 : (0 : Int) ≤ -ρ 30 + ρ 2 := f4
  have f5 : (0 : Int) ≤ -ρ 22 + ρ 2 + (-1) := f5
  have f6 : (0 : Int) ≤ -ρ 25 + (ρ 21 + 4 * ρ 12) + 6 := f6
  have f7 : (0 : Int) ≤ -ρ 25 + 4 * ρ 12 + 10 := f7
  have f8 : (0 : Int) ≤ -ρ 24 + (ρ 22 + -ρ 2) + 12288 := f8
  have f9 : (0 : Int) ≤ -ρ 23 + (ρ 22 + -ρ 2) + 12288 := f9
  have f10 : (0 : Int) ≤ -ρ 24 + (ρ 22 + (ρ 4 + -ρ 1)) := f10
  have f11 : (0 : Int) ≤ -ρ 23 + (ρ 22 + (ρ 3 + -ρ 1)) := f11
  have f12 : (0 : Int) ≤ -ρ 21 + ρ 2 := f12
  have f13 : (0 : Int) ≤ ρ 25 + -ρ 5 := f13
  have f14 : (0 : Int) ≤ ρ 24 + -ρ 4 := f14
  have f15 : (0 : Int) ≤ ρ 23 + -ρ 3 := f15
  have f16 : (0 : Int) ≤ ρ 22 + -ρ 1 + (-1) := f16
  have f17 : (0 : Int) ≤ ρ 22 + -ρ 21 + (-1) := f17
  have f18 : (0 : Int) ≤ 4 * ρ 12 + -ρ 5 + 6 := f18
  have f19 : (0 : Int) ≤ -ρ 11 + (ρ 10 + ρ 9) := f19
  have f20 : (0 : Int) ≤ ρ 11 + (-ρ 10 + -ρ 9) := f20
  have f21 : (0 : Int) ≤ ρ 2 + -ρ 1 + (-1) := f21
  have f22 : (0 : Int) ≤ -ρ 4 + (-ρ 2 + ρ 1) + 12288 := f22
  have f23 : (0 : Int) ≤ -ρ 3 + (-ρ 2 + ρ 1) + 12288 := f23
  obtain ⟨m0, m1, m2, m3, m4, m5, m6, m7, m8, m9, m10, m11, m12, m13, m14, m15, m16, m17, m18, m19, m20, m21, m22, m23, m24, m25, m26, m27, m28, -⟩ := hm
  have m0 : γ 0 15 0 35 = ρ 1 := m0
  have m1 : γ 0 15 0 34 = ρ 2 := m1
  have m2 : γ 0 15 0 8 = ρ 3 := m2
  have m3 : γ 0 15 0 9 = ρ 4 := m3
  have m4 : γ 0 15 0 58 = ρ 5 := m4
  have m5 : γ 0 15 0 37 = ρ 6 := m5
  have m6 : γ 0 15 0 38 = ρ 7 := m6
  have m7 : γ 0 15 0 14 = ρ 8 := m7
  have m8 : γ 0 15 0 32 = ρ 9 := m8
  have m9 : γ 0 15 0 33 = ρ 10 := m9
  have m10 : γ 0 15 0 44 = ρ 11 := m10
  have m11 : γ 0 73 0 (ρ 11) = ρ 12 := m11
  have m12 : γ 0 77 0 (ρ 12 + 8 * ρ 11) = ρ 13 := m12
  have m13 : γ 0 81 0 (4 * ρ 12 + 32 * ρ 11) = ρ 14 := m13
  have m14 : γ 0 78 0 (ρ 12 + 8 * ρ 11) = ρ 15 := m14
  have m15 : γ 0 15 0 36 = ρ 16 := m15
  have m16 : γ 0 15 0 40 = ρ 17 := m16
  have m17 : γ 0 15 0 45 = ρ 18 := m17
  have m18 : γ 1 15 0 35 = ρ 22 := m18
  have m19 : γ 1 15 0 8 = ρ 23 := m19
  have m20 : γ 1 15 0 9 = ρ 24 := m20
  have m21 : γ 1 15 0 58 = ρ 25 := m21
  have m22 : γ 1 15 0 37 = ρ 26 := m22
  have m23 : γ 1 15 0 38 = ρ 27 := m23
  have m24 : γ 1 15 0 36 = ρ 16 := m24
  have m25 : γ 1 15 0 40 = ρ 28 := m25
  have m26 : γ 1 81 0 (4 * ρ 12 + 32 * ρ 11) = ρ 29 := m26
  have m27 : γ 2 15 0 35 = ρ 30 := m27
  have m28 : γ 2 15 0 36 = ρ 16 := m28
  obtain ⟨⟨⟨⟨⟨⟨⟨-, c1⟩, c2⟩, c3⟩, c4⟩, c5⟩, c6⟩, c7⟩ := hc
  have c1 : ∀ (G : Nat) (k j : Int), ¬ rMdP m26_ G j → γ 1 G k j = γ 0 G k j := c1
  have c2 : ∀ (G : Nat) (k j : Int), ¬ rMdP m17_ G j → γ 2 G k j = γ 1 G k j := c2
  have c3 : ∀ (G : Nat) (k j : Int), ¬ rMdP m0_ G j → γ 3 G k j = γ 2 G k j := c3
  have c4 : γ 4 = rUp (γ 3) 77 0 (ρ 12 + 8 * ρ 11) 0 := c4
  have c5 : γ 5 = rUp (γ 4) 78 0 (ρ 12 + 8 * ρ 11) (ρ 31) := c5
  have c6 : γ 6 = rUp (γ 5) 79 0 (ρ 12 + 8 * ρ 11) (ρ 18) := c6
  have c7 : γ 7 = rUp (γ 6) 15 0 45 (ρ 32) := c7
  obtain ⟨l0, l1, l2, -⟩ := hl
  have l0 : sn24 [41, ρ 22, ρ 2, ρ 16] (γ 1) 0 1 (γ 2) := hS24 _ _ _ _ _ l0
  have l1 : sn21 [ρ 6, ρ 7, ρ 21, ρ 8] (γ 2) 0 (ρ 31) (γ 3) := hS21 _ _ _ _ _ l1
  have l2 : zOpP (.ior) (γ 0) (γ 1) [ρ 18, ρ 20] (ρ 32) := l2
  show sn41 [ρ 0, ρ 1, ρ 2, ρ 3, ρ 4, ρ 5, ρ 6, ρ 7, ρ 8, ρ 9, ρ 10, ρ 11, ρ 12, ρ 13, ρ 14, ρ 15, ρ 16, ρ 17, ρ 18] (γ 0) 0 1 (γ 7)
  have hD : en41 (γ 0) (0, [ρ 0, ρ 19, ρ 20, ρ 21], γ 1) = .inr (0, 1, γ 7) := by
    unfold en41
    refine (if_pos (show (0 : Nat) = 0 by decide)).trans ?_
    refine (zLet_eq (show _ = γ 1 from rfl)).trans ?_
    refine (zLet_eq (show _ = ρ 0 from rfl)).trans ?_
    refine (zLet_eq (show _ = ρ 19 from rfl)).trans ?_
    refine (zLet_eq (show _ = ρ 20 from rfl)).trans ?_
    refine (zLet_eq (show _ = ρ 21 from rfl)).trans ?_
    refine (zLet_eq m1).trans ?_
    refine (zLet_eq m5).trans ?_
    refine (zLet_eq m6).trans ?_
    refine (zLet_eq m7).trans ?_
    refine (zLet_eq m10).trans ?_
    refine (zLet_eq m11).trans ?_
    refine (zLet_eq m17).trans ?_
    refine (if_pos (show ρ 19 = 0 by omega)).trans ?_
    refine (zLet_eq (show fn24 [41] (γ 1) = (0, 1, γ 2) from l0.symm)).trans ?_
    refine (zLet_eq (show _ = γ 2 from rfl)).trans ?_
    refine (if_pos (show (1 : Int) ≤ 1 by omega)).trans ?_
    refine (zLet_eq (show fn21 [ρ 6, ρ 7, ρ 21] (γ 2) = (0, ρ 31, γ 3) from l1.symm)).trans ?_
    refine (zLet_eq (show _ = γ 3 from rfl)).trans ?_
    refine (zLet_eq (show _ = ρ 31 from rfl)).trans ?_
    refine (if_pos (show ρ 31 ≥ 0 by omega)).trans ?_
    refine (if_pos (show ρ 0 = 0 by omega)).trans ?_
    refine (zLet_eq c4.symm).trans ?_
    refine (zLet_eq c5.symm).trans ?_
    refine (zLet_eq c6.symm).trans ?_
    refine (zLet_eq (zF2_ok l2)).trans ?_
    refine (zLet_eq c7.symm).trans ?_
    rfl
  exact zGoo_aend hJ hD
theorem vn41a0_2 {S : Nat → zSpc} (hS6 : ∀ x g o v gz, S 6 x g o v gz → sn6 x g o v gz) (hS7 : ∀ x g o v gz, S 7 x g o v gz → sn7 x g o v gz) (hS8 : ∀ x g o v gz, S 8 x g o v gz → sn8 x g o v gz) (hS20 : ∀ x g o v gz, S 20 x g o v gz → sn20 x g o v gz) (hS21 : ∀ x g o v gz, S 21 x g o v gz → sn21 x g o v gz) (hS24 : ∀ x g o v gz, S 24 x g o v gz → sn24 x g o v gz) (hS25 : ∀ x g o v gz, S 25 x g o v gz → sn25 x g o v gz) (hS33 : ∀ x g o v gz, S 33 x g o v gz → sn33 x g o v gz) (hS39 : ∀ x g o v gz, S 39 x g o v gz → sn39 x g o v gz) {a : List Int} {g : rHp} : ∀ (ρ : Nat → Int) (γ : Nat → rHp), jn41 a g 0 (zAg (zNA a41_ 0) ρ) (γ 1) → zO 19 S a g q41a0_2 ρ γ → zGl (fun i vs g1 => jn41 a g i vs g1) (sn41 a g) q41a0_2 ρ γ := by
  intro ρ γ hJ h
  obtain ⟨ha, hg, hr, hf, hm, hc, hl⟩ := h
  have ha : a = [ρ 0, ρ 1, ρ 2, ρ 3, ρ 4, ρ 5, ρ 6, ρ 7, ρ 8, ρ 9, ρ 10, ρ 11, ρ 12, ρ 13, ρ 14, ρ 15, ρ 16, ρ 17, ρ 18] := ha
  subst ha
  subst hg
  have hJ : jn41 [ρ 0, ρ 1, ρ 2, ρ 3, ρ 4, ρ 5, ρ 6, ρ 7, ρ 8, ρ 9, ρ 10, ρ 11, ρ 12, ρ 13, ρ 14, ρ 15, ρ 16, ρ 17, ρ 18] (γ 0) 0 [ρ 0, ρ 1, ρ 2, ρ 3, ρ 4, ρ 5, ρ 6, ρ 7, ρ 8, ρ 9, ρ 10, ρ 11, ρ 12, ρ 13, ρ 14, ρ 15, ρ 16, ρ 17, ρ 18, ρ 19, ρ 20, ρ 21, ρ 22, ρ 23, ρ 24, ρ 25, ρ 26, ρ 27, ρ 28, ρ 29] (γ 1) := hJ
  obtain ⟨r0, r1, r2, r3, r4, r5, r6, r7, r8, r9, r10, r11, r12, r13, r14, r15, r16, r17, r18, r19, r20, r21, r22, r23, r24, r25, r26, r27, r28, r29, r30, r31, -⟩ := hr
  have r0 : (1 : Int) ≤ ρ 0 ∧ ρ 0 ≤ 1 := r0
  have r1 : (0 : Int) ≤ ρ 1 ∧ ρ 1 ≤ 2000 := r1
  have r2 : (1 : Int) ≤ ρ 2 ∧ ρ 2 ≤ 2000 := r2
  have r3 : (0 : Int) ≤ ρ 3 ∧ ρ 3 ≤ 12288 := r3
  have r4 : (0 : Int) ≤ ρ 4 ∧ ρ 4 ≤ 12288 := r4
  have r5 : (0 : Int) ≤ ρ 5 ∧ ρ 5 ≤ 64 := r5
  have r6 : (0 : Int) ≤ ρ 6 ∧ ρ 6 ≤ 2000 := r6
  have r7 : (0 : Int) ≤ ρ 7 ∧ ρ 7 ≤ 12 := r7
  have r8 : (0 : Int) ≤ ρ 8 ∧ ρ 8 ≤ 20 := r8
  have r9 : (0 : Int) ≤ ρ 9 ∧ ρ 9 ≤ 60 := r9
  have r10 : (0 : Int) ≤ ρ 10 ∧ ρ 10 ≤ 60 := r10
  have r11 : (0 : Int) ≤ ρ 11 ∧ ρ 11 ≤ 61 := r11
  have r12 : (0 : Int) ≤ ρ 12 ∧ ρ 12 ≤ 7 := r12
  have r13 : (0 : Int) ≤ ρ 13 ∧ ρ 13 ≤ 7 := r13
  have r14 : ((-2147483648) : Int) ≤ ρ 14 ∧ ρ 14 ≤ 1099511640064 := r14
  have r15 : (0 : Int) ≤ ρ 15 ∧ ρ 15 ≤ 19 := r15
  have r16 : (0 : Int) ≤ ρ 16 ∧ ρ 16 ≤ 2000 := r16
  have r17 : (0 : Int) ≤ ρ 17 ∧ ρ 17 ≤ 3 := r17
  have r18 : ((-2147483648) : Int) ≤ ρ 18 ∧ ρ 18 ≤ 2147483647 := r18
  have r19 : (0 : Int) ≤ ρ 19 ∧ ρ 19 ≤ 0 := r19
  have r20 : ((-2147483648) : Int) ≤ ρ 20 ∧ ρ 20 ≤ 2147483647 := r20
  have r21 : (0 : Int) ≤ ρ 21 ∧ ρ 21 ≤ 4 := r21
  have r22 : (1 : Int) ≤ ρ 22 ∧ ρ 22 ≤ 2000 := r22
  have r23 : (0 : Int) ≤ ρ 23 ∧ ρ 23 ≤ 12288 := r23
  have r24 : (0 : Int) ≤ ρ 24 ∧ ρ 24 ≤ 12288 := r24
  have r25 : (0 : Int) ≤ ρ 25 ∧ ρ 25 ≤ 40 := r25
  have r26 : (0 : Int) ≤ ρ 26 ∧ ρ 26 ≤ 2000 := r26
  have r27 : (0 : Int) ≤ ρ 27 ∧ ρ 27 ≤ 2000 := r27
  have r28 : (0 : Int) ≤ ρ 28 ∧ ρ 28 ≤ 3 := r28
  have r29 : ((-2147483648) : Int) ≤ ρ 29 ∧ ρ 29 ≤ 1099511640064 := r29
  have r30 : (1 : Int) ≤ ρ 30 ∧ ρ 30 ≤ 2000 := r30
  have r31 : (0 : Int) ≤ ρ 31 ∧ ρ 31 ≤ 19 := r31
  obtain ⟨f0, f1, f2, f3, f4, f5, f6, f7, f8, f9, f10, f11, f12, f13, f14, f15, f16, f17, f18, f19, f20, f21, f22, f23, -⟩ := hf
  have f0 : (0 : Int) ≤ -ρ 7 + -ρ 6 + 2000 := f0
  have f1 : (0 : Int) ≤ -ρ 31 + ρ 8 + (-1) := f1
  have f2 : (0 : Int) ≤ -ρ 22 + ρ 2 := f2
  have f3 : (0 : Int) ≤ ρ 30 + -ρ 22 + (-1) := f3
  have f4 : (0 : Int) ≤ -ρ 30 + ρ 2 := f4
  have f5 : (0 : Int) ≤ -ρ 22 + ρ 2 + (-1) := f5
  have f6 : (0 : Int) ≤ -ρ 25 + (ρ 21 + 4 * ρ 12) + 6 := f6
  have f7 : (0 : Int) ≤ -ρ 25 + 4 * ρ 12 + 10 := f7
  have f8 : (0 : Int) ≤ -ρ 24 + (ρ 22 + -ρ 2) + 12288 := f8
  have f9 : (0 : Int) ≤ -ρ 23 + (ρ 22 + -ρ 2) + 12288 := f9
  have f10 : (0 : Int) ≤ -ρ 24 + (ρ 22 + (ρ 4 + -ρ 1)) := f10
  have f11 : (0 : Int) ≤ -ρ 23 + (ρ 22 + (ρ 3 + -ρ 1)) := f11
  have f12 : (0 : Int) ≤ -ρ 21 + ρ 2 := f12
  have f13 : (0 : Int) ≤ ρ 25 + -ρ 5 := f13
  have f14 : (0 : Int) ≤ ρ 24 + -ρ 4 := f14
  have f15 : (0 : Int) ≤ ρ 23 + -ρ 3 := f15
  have f16 : (0 : Int) ≤ ρ 22 + -ρ 1 + (-1) := f16
  have f17 : (0 : Int) ≤ ρ 22 + -ρ 21 + (-1) := f17
  have f18 : (0 : Int) ≤ 4 * ρ 12 + -ρ 5 + 6 := f18
  have f19 : (0 : Int) ≤ -ρ 11 + (ρ 10 + ρ 9) := f19
  have f20 : (0 : Int) ≤ ρ 11 + (-ρ 10 + -ρ 9) := f20
  have f21 : (0 : Int) ≤ ρ 2 + -ρ 1 + (-1) := f21
  have f22 : (0 : Int) ≤ -ρ 4 + (-ρ 2 + ρ 1) + 12288 := f22
  have f23 : (0 : Int) ≤ -ρ 3 + (-ρ 2 + ρ 1) + 12288 := f23
  obtain ⟨m0, m1, m2, m3, m4, m5, m6, m7, m8, m9, m10, m11, m12, m13, m14, m15, m16, m17, m18, m19, m20, m21, m22, m23, m24, m25, m26, m27, m28, -⟩ := hm
  have m0 : γ 0 15 0 35 = ρ 1 := m0
  have m1 : γ 0 15 0 34 = ρ 2 := m1
  have m2 : γ 0 15 0 8 = ρ 3 := m2
  have m3 : γ 0 15 0 9 = ρ 4 := m3
  have m4 : γ 0 15 0 58 = ρ 5 := m4
  have m5 : γ 0 15 0 37 = ρ 6 := m5
  have m6 : γ 0 15 0 38 = ρ 7 := m6
  have m7 : γ 0 15 0 14 = ρ 8 := m7
  have m8 : γ 0 15 0 32 = ρ 9 := m8
  have m9 : γ 0 15 0 33 = ρ 10 := m9
  have m10 : γ 0 15 0 44 = ρ 11 := m10
  have m11 : γ 0 73 0 (ρ 11) = ρ 12 := m11
  have m12 : γ 0 77 0 (ρ 12 + 8 * ρ 11) = ρ 13 := m12
  have m13 : γ 0 81 0 (4 * ρ 12 + 32 * ρ 11) = ρ 14 := m13
  have m14 : γ 0 78 0 (ρ 12 + 8 * ρ 11) = ρ 15 := m14
  have m15 : γ 0 15 0 36 = ρ 16 := m15
  have m16 : γ 0 15 0 40 = ρ 17 := m16
  have m17 : γ 0 15 0 45 = ρ 18 := m17
  have m18 : γ 1 15 0 35 = ρ 22 := m18
  have m19 : γ 1 15 0 8 = ρ 23 := m19
  have m20 : γ 1 15 0 9 = ρ 24 := m20
  have m21 : γ 1 15 0 58 = ρ 25 := m21
  have m22 : γ 1 15 0 37 = ρ 26 := m22
  have m23 : γ 1 15 0 38 = ρ 27 := m23
  have m24 : γ 1 15 0 36 = ρ 16 := m24
  have m25 : γ 1 15 0 40 = ρ 28 := m25
  have m26 : γ 1 81 0 (4 * ρ 12 + 32 * ρ 11) = ρ 29 := m26
  have m27 : γ 2 15 0 35 = ρ 30 := m27
  have m28 : γ 2 15 0 36 = ρ 16 := m28
  obtain ⟨⟨⟨⟨⟨⟨-, c1⟩, c2⟩, c3⟩, c4⟩, c5⟩, c6⟩ := hc
  have c1 : ∀ (G : Nat) (k j : Int), ¬ rMdP m26_ G j → γ 1 G k j = γ 0 G k j := c1
  have c2 : ∀ (G : Nat) (k j : Int), ¬ rMdP m17_ G j → γ 2 G k j = γ 1 G k j := c2
  have c3 : ∀ (G : Nat) (k j : Int), ¬ rMdP m0_ G j → γ 3 G k j = γ 2 G k j := c3
  have c4 : γ 4 = rUp (γ 3) 77 0 (ρ 12 + 8 * ρ 11) 1 := c4
  have c5 : γ 5 = rUp (γ 4) 78 0 (ρ 12 + 8 * ρ 11) (ρ 31) := c5
  have c6 : γ 6 = rUp (γ 5) 79 0 (ρ 12 + 8 * ρ 11) (ρ 18) := c6
  obtain ⟨l0, l1, -⟩ := hl
  have l0 : sn24 [41, ρ 22, ρ 2, ρ 16] (γ 1) 0 1 (γ 2) := hS24 _ _ _ _ _ l0
  have l1 : sn21 [ρ 6, ρ 7, ρ 21, ρ 8] (γ 2) 0 (ρ 31) (γ 3) := hS21 _ _ _ _ _ l1
  show sn41 [ρ 0, ρ 1, ρ 2, ρ 3, ρ 4, ρ 5, ρ 6, ρ 7, ρ 8, ρ 9, ρ 10, ρ 11, ρ 12, ρ 13, ρ 14, ρ 15, ρ 16, ρ 17, ρ 18] (γ 0) 0 1 (γ 6)
  have hD : en41 (γ 0) (0, [ρ 0, ρ 19, ρ 20, ρ 21], γ 1) = .inr (0, 1, γ 6) := by
    unfold en41
    refine (if_pos (show (0 : Nat) = 0 by decide)).trans ?_
    refine (zLet_eq (show _ = γ 1 from rfl)).trans ?_
    refine (zLet_eq (show _ = ρ 0 from rfl)).trans ?_
    refine (zLet_eq (show _ = ρ 19 from rfl)).trans ?_
    refine (zLet_eq (show _ = ρ 20 from rfl)).trans ?_
    refine (zLet_eq (show _ = ρ 21 from rfl)).trans ?_
    refine (zLet_eq m1).trans ?_
    refine (zLet_eq m5).trans ?_
    refine (zLet_eq m6).trans ?_
    refine (zLet_eq m7).trans ?_
    refine (zLet_eq m10).trans ?_
    refine (zLet_eq m11).trans ?_
    refine (zLet_eq m17).trans ?_
    refine (if_pos (show ρ 19 = 0 by omega)).trans ?_
    refine (zLet_eq (show fn24 [41] (γ 1) = (0, 1, γ 2) from l0.symm)).trans ?_
    refine (zLet_eq (show _ = γ 2 from rfl)).trans ?_
    refine (if_pos (show (1 : Int) ≤ 1 by omega)).trans ?_
    refine (zLet_eq (show fn21 [ρ 6, ρ 7, ρ 21] (γ 2) = (0, ρ 31, γ 3) from l1.symm)).trans ?_
    refine (zLet_eq (show _ = γ 3 from rfl)).trans ?_
    refine (zLet_eq (show _ = ρ 31 from rfl)).trans ?_
    refine (if_pos (show ρ 31 ≥ 0 by omega)).trans ?_
    refine (if_neg (show ¬ (ρ 0 = 0) by omega)).trans ?_
    refine (zLet_eq c4.symm).trans ?_
    refine (zLet_eq c5.symm).trans ?_
    refine (zLet_eq c6.symm).trans ?_
    rfl
  exact zGoo_aend hJ hD
theorem vn41a0_3 {S : Nat → zSpc} (hS6 : ∀ x g o v gz, S 6 x g o v gz → sn6 x g o v gz) (hS7 : ∀ x g o v gz, S 7 x g o v gz → sn7 x g o v gz) (hS8 : ∀ x g o v gz, S 8 x g o v gz → sn8 x g o v gz) (hS20 : ∀ x g o v gz, S 20 x g o v gz → sn20 x g o v gz) (hS21 : ∀ x g o v gz, S 21 x g o v gz → sn21 x g o v gz) (hS24 : ∀ x g o v gz, S 24 x g o v gz → sn24 x g o v gz) (hS25 : ∀ x g o v gz, S 25 x g o v gz → sn25 x g o v gz) (hS33 : ∀ x g o v gz, S 33 x g o v gz → sn33 x g o v gz) (hS39 : ∀ x g o v gz, S 39 x g o v gz → sn39 x g o v gz) {a : List Int} {g : rHp} : ∀ (ρ : Nat → Int) (γ : Nat → rHp), jn41 a g 0 (zAg (zNA a41_ 0) ρ) (γ 1) → zO 19 S a g q41a0_3 ρ γ → zGl (fun i vs g1 => jn41 a g i vs g1) (sn41 a g) q41a0_3 ρ γ := by
  intro ρ γ hJ h
  obtain ⟨ha, hg, hr, hf, hm, hc, hl⟩ := h
  have ha : a = [ρ 0, ρ 1, ρ 2, ρ 3, ρ 4, ρ 5, ρ 6, ρ 7, ρ 8, ρ 9, ρ 10, ρ 11, ρ 12, ρ 13, ρ 14, ρ 15, ρ 16, ρ 17, ρ 18] := ha
  subst ha
  subst hg
  have hJ : jn41 [ρ 0, ρ 1, ρ 2, ρ 3, ρ 4, ρ 5, ρ 6, ρ 7, ρ 8, ρ 9, ρ 10, ρ 11, ρ 12, ρ 13, ρ 14, ρ 15, ρ 16, ρ 17, ρ 18] (γ 0) 0 [ρ 0, ρ 1, ρ 2, ρ 3, ρ 4, ρ 5, ρ 6, ρ 7, ρ 8, ρ 9, ρ 10, ρ 11, ρ 12, ρ 13, ρ 14, ρ 15, ρ 16, ρ 17, ρ 18, ρ 19, ρ 20, ρ 21, ρ 22, ρ 23, ρ 24, ρ 25, ρ 26, ρ 27, ρ 28, ρ 29] (γ 1) := hJ
  obtain ⟨r0, r1, r2, r3, r4, r5, r6, r7, r8, r9, r10, r11, r12, r13, r14, r15, r16, r17, r18, r19, r20, r21, r22, r23, r24, r25, r26, r27, r28, r29, r30, r31, r32, -⟩ := hr
  have r0 : (0 : Int) ≤ ρ 0 ∧ ρ 0 ≤ 0 := r0
  have r1 : (0 : Int) ≤ ρ 1 ∧ ρ 1 ≤ 2000 := r1
  have r2 : (1 : Int) ≤ ρ 2 ∧ ρ 2 ≤ 2000 := r2
  have r3 : (0 : Int) ≤ ρ 3 ∧ ρ 3 ≤ 12288 := r3
  have r4 : (0 : Int) ≤ ρ 4 ∧ ρ 4 ≤ 12288 := r4
  have r5 : (0 : Int) ≤ ρ 5 ∧ ρ 5 ≤ 64 := r5
  have r6 : (0 : Int) ≤ ρ 6 ∧ ρ 6 ≤ 2000 := r6
  have r7 : (0 : Int) ≤ ρ 7 ∧ ρ 7 ≤ 12 := r7
  have r8 : (0 : Int) ≤ ρ 8 ∧ ρ 8 ≤ 19 := r8
  have r9 : (0 : Int) ≤ ρ 9 ∧ ρ 9 ≤ 60 := r9
  have r10 : (0 : Int) ≤ ρ 10 ∧ ρ 10 ≤ 60 := r10
  have r11 : (0 : Int) ≤ ρ 11 ∧ ρ 11 ≤ 61 := r11
  have r12 : (0 : Int) ≤ ρ 12 ∧ ρ 12 ≤ 7 := r12
  have r13 : (0 : Int) ≤ ρ 13 ∧ ρ 13 ≤ 7 := r13
  have r14 : ((-2147483648) : Int) ≤ ρ 14 ∧ ρ 14 ≤ 1099511640064 := r14
  have r15 : (0 : Int) ≤ ρ 15 ∧ ρ 15 ≤ 19 := r15
  have r16 : (0 : Int) ≤ ρ 16 ∧ ρ 16 ≤ 2000 := r16
  have r17 : (0 : Int) ≤ ρ 17 ∧ ρ 17 ≤ 3 := r17
  have r18 : ((-2147483648) : Int) ≤ ρ 18 ∧ ρ 18 ≤ 2147483647 := r18
  have r19 : (0 : Int) ≤ ρ 19 ∧ ρ 19 ≤ 0 := r19
  have r20 : ((-2147483648) : Int) ≤ ρ 20 ∧ ρ 20 ≤ 2147483647 := r20
  have r21 : (0 : Int) ≤ ρ 21 ∧ ρ 21 ≤ 4 := r21
  have r22 : (1 : Int) ≤ ρ 22 ∧ ρ 22 ≤ 2000 := r22
  have r23 : (0 : Int) ≤ ρ 23 ∧ ρ 23 ≤ 12288 := r23
  have r24 : (0 : Int) ≤ ρ 24 ∧ ρ 24 ≤ 12288 := r24
  have r25 : (0 : Int) ≤ ρ 25 ∧ ρ 25 ≤ 40 := r25
  have r26 : (0 : Int) ≤ ρ 26 ∧ ρ 26 ≤ 2000 := r26
  have r27 : (0 : Int) ≤ ρ 27 ∧ ρ 27 ≤ 2000 := r27
  have r28 : (0 : Int) ≤ ρ 28 ∧ ρ 28 ≤ 3 := r28
  have r29 : ((-2147483648) : Int) ≤ ρ 29 ∧ ρ 29 ≤ 1099511640064 := r29
  have r30 : (1 : Int) ≤ ρ 30 ∧ ρ 30 ≤ 2000 := r30
  have r31 : ((-1) : Int) ≤ ρ 31 ∧ ρ 31 ≤ (-1) := r31
  have r32 : ((-2147483648) : Int) ≤ ρ 32 ∧ ρ 32 ≤ 2147483647 := r32
  obtain ⟨f0, f1, f2, f3, f4, f5, f6, f7, f8, f9, f10, f11, f12, f13, f14, f15, f16, f17, f18, f19, f20, f21, f22, f23, -⟩ := hf
  have f0 : (0 : Int) ≤ -ρ 7 + -ρ 6 + 2000 := f0
  have f1 : (0 : Int) ≤ -ρ 31 + ρ 8 + (-1) := f1
  have f2 : (0 : Int) ≤ -ρ 22 + ρ 2 := f2
  have f3 : (0 : Int) ≤ ρ 30 + -ρ 22 + (-1) := f3
  have f4 : (0 : Int) ≤ -ρ 30 + ρ 2 := f4
  have f5 : (0 : Int) ≤ -ρ 22 + ρ 2 + (-1) := f5
  have f6 : (0 : Int) ≤ -ρ 25 + (ρ 21 + 4 * ρ 12) + 6 := f6
  have f7 : (0 : Int) ≤ -ρ 25 + 4 * ρ 12 + 10 := f7
  have f8 : (0 : Int) ≤ -ρ 24 + (ρ 22 + -ρ 2) + 12288 := f8
  have f9 : (0 : Int) ≤ -ρ 23 + (ρ 22 + -ρ 2) + 12288 := f9
  have f10 : (0 : Int) ≤ -ρ 24 + (ρ 22 + (ρ 4 + -ρ 1)) := f10
  have f11 : (0 : Int) ≤ -ρ 23 + (ρ 22 + (ρ 3 + -ρ 1)) := f11
  have f12 : (0 : Int) ≤ -ρ 21 + ρ 2 := f12
  have f13 : (0 : Int) ≤ ρ 25 + -ρ 5 := f13
  have f14 : (0 : Int) ≤ ρ 24 + -ρ 4 := f14
  have f15 : (0 : Int) ≤ ρ 23 + -ρ 3 := f15
  have f16 : (0 : Int) ≤ ρ 22 + -ρ 1 + (-1) := f16
  have f17 : (0 : Int) ≤ ρ 22 + -ρ 21 + (-1) := f17
  have f18 : (0 : Int) ≤ 4 * ρ 12 + -ρ 5 + 6 := f18
  have f19 : (0 : Int) ≤ -ρ 11 + (ρ 10 + ρ 9) := f19
  have f20 : (0 : Int) ≤ ρ 11 + (-ρ 10 + -ρ 9) := f20
  have f21 : (0 : Int) ≤ ρ 2 + -ρ 1 + (-1) := f21
  have f22 : (0 : Int) ≤ -ρ 4 + (-ρ 2 + ρ 1) + 12288 := f22
  have f23 : (0 : Int) ≤ -ρ 3 + (-ρ 2 + ρ 1) + 12288 := f23
  obtain ⟨m0, m1, m2, m3, m4, m5, m6, m7, m8, m9, m10, m11, m12, m13, m14, m15, m16, m17, m18, m19, m20, m21, m22, m23, m24, m25, m26, m27, m28, m29, -⟩ := hm
  have m0 : γ 0 15 0 35 = ρ 1 := m0
  have m1 : γ 0 15 0 34 = ρ 2 := m1
  have m2 : γ 0 15 0 8 = ρ 3 := m2
  have m3 : γ 0 15 0 9 = ρ 4 := m3
  have m4 : γ 0 15 0 58 = ρ 5 := m4
  have m5 : γ 0 15 0 37 = ρ 6 := m5
  have m6 : γ 0 15 0 38 = ρ 7 := m6
  have m7 : γ 0 15 0 14 = ρ 8 := m7
  have m8 : γ 0 15 0 32 = ρ 9 := m8
  have m9 : γ 0 15 0 33 = ρ 10 := m9
  have m10 : γ 0 15 0 44 = ρ 11 := m10
  have m11 : γ 0 73 0 (ρ 11) = ρ 12 := m11
  have m12 : γ 0 77 0 (ρ 12 + 8 * ρ 11) = ρ 13 := m12
  have m13 : γ 0 81 0 (4 * ρ 12 + 32 * ρ 11) = ρ 14 := m13
  have m14 : γ 0 78 0 (ρ 12 + 8 * ρ 11) = ρ 15 := m14
  have m15 : γ 0 15 0 36 = ρ 16 := m15
  have m16 : γ 0 15 0 40 = ρ 17 := m16
  have m17 : γ 0 15 0 45 = ρ 18 := m17
  have m18 : γ 1 15 0 35 = ρ 22 := m18
  have m19 : γ 1 15 0 8 = ρ 23 := m19
  have m20 : γ 1 15 0 9 = ρ 24 := m20
  have m21 : γ 1 15 0 58 = ρ 25 := m21
  have m22 : γ 1 15 0 37 = ρ 26 := m22
  have m23 : γ 1 15 0 38 = ρ 27 := m23
  have m24 : γ 1 15 0 36 = ρ 16 := m24
  have m25 : γ 1 15 0 40 = ρ 28 := m25
  have m26 : γ 1 81 0 (4 * ρ 12 + 32 * ρ 11) = ρ 29 := m26
  have m27 : γ 2 15 0 35 = ρ 30 := m27
  have m28 : γ 2 15 0 36 = ρ 16 := m28
  have m29 : γ 4 15 0 14 = ρ 8 + 1 := m29
  obtain ⟨⟨⟨⟨⟨⟨⟨⟨-, c1⟩, c2⟩, c3⟩, c4⟩, c5⟩, c6⟩, c7⟩, c8⟩ := hc
  have c1 : ∀ (G : Nat) (k j : Int), ¬ rMdP m26_ G j → γ 1 G k j = γ 0 G k j := c1
  have c2 : ∀ (G : Nat) (k j : Int), ¬ rMdP m17_ G j → γ 2 G k j = γ 1 G k j := c2
  have c3 : ∀ (G : Nat) (k j : Int), ¬ rMdP m0_ G j → γ 3 G k j = γ 2 G k j := c3
  have c4 : ∀ (G : Nat) (k j : Int), ¬ rMdP m15_ G j → γ 4 G k j = γ 3 G k j := c4
  have c5 : γ 5 = rUp (γ 4) 77 0 (ρ 12 + 8 * ρ 11) 0 := c5
  have c6 : γ 6 = rUp (γ 5) 78 0 (ρ 12 + 8 * ρ 11) (ρ 8) := c6
  have c7 : γ 7 = rUp (γ 6) 79 0 (ρ 12 + 8 * ρ 11) (ρ 18) := c7
  have c8 : γ 8 = rUp (γ 7) 15 0 45 (ρ 32) := c8
  obtain ⟨l0, l1, l2, l3, -⟩ := hl
  have l0 : sn24 [41, ρ 22, ρ 2, ρ 16] (γ 1) 0 1 (γ 2) := hS24 _ _ _ _ _ l0
  have l1 : sn21 [ρ 6, ρ 7, ρ 21, ρ 8] (γ 2) 0 (ρ 31) (γ 3) := hS21 _ _ _ _ _ l1
  have l2 : sn39 [ρ 6, ρ 7, ρ 21, ρ 8] (γ 3) 0 (ρ 8) (γ 4) := hS39 _ _ _ _ _ l2
  have l3 : zOpP (.ior) (γ 0) (γ 1) [ρ 18, ρ 20] (ρ 32) := l3
  show sn41 [ρ 0, ρ 1, ρ 2, ρ 3, ρ 4, ρ 5, ρ 6, ρ 7, ρ 8, ρ 9, ρ 10, ρ 11, ρ 12, ρ 13, ρ 14, ρ 15, ρ 16, ρ 17, ρ 18] (γ 0) 0 1 (γ 8)
  have hD : en41 (γ 0) (0, [ρ 0, ρ 19, ρ 20, ρ 21], γ 1) = .inr (0, 1, γ 8) := by
    unfold en41
    refine (if_pos (show (0 : Nat) = 0 by decide)).trans ?_
    refine (zLet_eq (show _ = γ 1 from rfl)).trans ?_
    refine (zLet_eq (show _ = ρ 0 from rfl)).trans ?_
    refine (zLet_eq (show _ = ρ 19 from rfl)).trans ?_
    refine (zLet_eq (show _ = ρ 20 from rfl)).trans ?_
    refine (zLet_eq (show _ = ρ 21 from rfl)).trans ?_
    refine (zLet_eq m1).trans ?_
    refine (zLet_eq m5).trans ?_
    refine (zLet_eq m6).trans ?_
    refine (zLet_eq m7).trans ?_
    refine (zLet_eq m10).trans ?_
    refine (zLet_eq m11).trans ?_
    refine (zLet_eq m17).trans ?_
    refine (if_pos (show ρ 19 = 0 by omega)).trans ?_
    refine (zLet_eq (show fn24 [41] (γ 1) = (0, 1, γ 2) from l0.symm)).trans ?_
    refine (zLet_eq (show _ = γ 2 from rfl)).trans ?_
    refine (if_pos (show (1 : Int) ≤ 1 by omega)).trans ?_
    refine (zLet_eq (show fn21 [ρ 6, ρ 7, ρ 21] (γ 2) = (0, ρ 31, γ 3) from l1.symm)).trans ?_
    refine (zLet_eq (show _ = γ 3 from rfl)).trans ?_
    refine (zLet_eq (show _ = ρ 31 from rfl)).trans ?_
    refine (if_neg (show ¬ (ρ 31 ≥ 0) by omega)).trans ?_
    refine (if_pos (show ρ 8 ≠ 20 by omega)).trans ?_
    refine (zLet_eq (show fn39 [ρ 6, ρ 7, ρ 21] (γ 3) = (0, ρ 8, γ 4) from l2.symm)).trans ?_
    refine (zLet_eq (show _ = γ 4 from rfl)).trans ?_
    refine (if_pos (show ρ 0 = 0 by omega)).trans ?_
    refine (zLet_eq c5.symm).trans ?_
    refine (zLet_eq c6.symm).trans ?_
    refine (zLet_eq c7.symm).trans ?_
    refine (zLet_eq (zF2_ok l3)).trans ?_
    refine (zLet_eq c8.symm).trans ?_
    rfl
  exact zGoo_aend hJ hD
theorem vn41a0_4 {S : Nat → zSpc} (hS6 : ∀ x g o v gz, S 6 x g o v gz → sn6 x g o v gz) (hS7 : ∀ x g o v gz, S 7 x g o v gz → sn7 x g o v gz) (hS8 : ∀ x g o v gz, S 8 x g o v gz → sn8 x g o v gz) (hS20 : ∀ x g o v gz, S 20 x g o v gz → sn20 x g o v gz) (hS21 : ∀ x g o v gz, S 21 x g o v gz → sn21 x g o v gz) (hS24 : ∀ x g o v gz, S 24 x g o v gz → sn24 x g o v gz) (hS25 : ∀ x g o v gz, S 25 x g o v gz → sn25 x g o v gz) (hS33 : ∀ x g o v gz, S 33 x g o v gz → sn33 x g o v gz) (hS39 : ∀ x g o v gz, S 39 x g o v gz → sn39 x g o v gz) {a : List Int} {g : rHp} : ∀ (ρ : Nat → Int) (γ : Nat → rHp), jn41 a g 0 (zAg (zNA a41_ 0) ρ) (γ 1) → zO 19 S a g q41a0_4 ρ γ → zGl (fun i vs g1 => jn41 a g i vs g1) (sn41 a g) q41a0_4 ρ γ := by
  intro ρ γ hJ h
  obtain ⟨ha, hg, hr, hf, hm, hc, hl⟩ := h
  have ha : a = [ρ 0, ρ 1, ρ 2, ρ 3, ρ 4, ρ 5, ρ 6, ρ 7, ρ 8, ρ 9, ρ 10, ρ 11, ρ 12, ρ 13, ρ 14, ρ 15, ρ 16, ρ 17, ρ 18] := ha
  subst ha
  subst hg
  have hJ : jn41 [ρ 0, ρ 1, ρ 2, ρ 3, ρ 4, ρ 5, ρ 6, ρ 7, ρ 8, ρ 9, ρ 10, ρ 11, ρ 12, ρ 13, ρ 14, ρ 15, ρ 16, ρ 17, ρ 18] (γ 0) 0 [ρ 0, ρ 1, ρ 2, ρ 3, ρ 4, ρ 5, ρ 6, ρ 7, ρ 8, ρ 9, ρ 10, ρ 11, ρ 12, ρ 13, ρ 14, ρ 15, ρ 16, ρ 17, ρ 18, ρ 19, ρ 20, ρ 21, ρ 22, ρ 23, ρ 24, ρ 25, ρ 26, ρ 27, ρ 28, ρ 29] (γ 1) := hJ
  obtain ⟨r0, r1, r2, r3, r4, r5, r6, r7, r8, r9, r10, r11, r12, r13, r14, r15, r16, r17, r18, r19, r20, r21, r22, r23, r24, r25, r26, r27, r28, r29, r30, r31, -⟩ := hr
  have r0 : (1 : Int) ≤ ρ 0 ∧ ρ 0 ≤ 1 := r0
  have r1 : (0 : Int) ≤ ρ 1 ∧ ρ 1 ≤ 2000 := r1
  have r2 : (1 : Int) ≤ ρ 2 ∧ ρ 2 ≤ 2000 := r2
  have r3 : (0 : Int) ≤ ρ 3 ∧ ρ 3 ≤ 12288 := r3
  have r4 : (0 : Int) ≤ ρ 4 ∧ ρ 4 ≤ 12288 := r4
  have r5 : (0 : Int) ≤ ρ 5 ∧ ρ 5 ≤ 64 := r5
  have r6 : (0 : Int) ≤ ρ 6 ∧ ρ 6 ≤ 2000 := r6
  have r7 : (0 : Int) ≤ ρ 7 ∧ ρ 7 ≤ 12 := r7
  have r8 : (0 : Int) ≤ ρ 8 ∧ ρ 8 ≤ 19 := r8
  have r9 : (0 : Int) ≤ ρ 9 ∧ ρ 9 ≤ 60 := r9
  have r10 : (0 : Int) ≤ ρ 10 ∧ ρ 10 ≤ 60 := r10
  have r11 : (0 : Int) ≤ ρ 11 ∧ ρ 11 ≤ 61 := r11
  have r12 : (0 : Int) ≤ ρ 12 ∧ ρ 12 ≤ 7 := r12
  have r13 : (0 : Int) ≤ ρ 13 ∧ ρ 13 ≤ 7 := r13
  have r14 : ((-2147483648) : Int) ≤ ρ 14 ∧ ρ 14 ≤ 1099511640064 := r14
  have r15 : (0 : Int) ≤ ρ 15 ∧ ρ 15 ≤ 19 := r15
  have r16 : (0 : Int) ≤ ρ 16 ∧ ρ 16 ≤ 2000 := r16
  have r17 : (0 : Int) ≤ ρ 17 ∧ ρ 17 ≤ 3 := r17
  have r18 : ((-2147483648) : Int) ≤ ρ 18 ∧ ρ 18 ≤ 2147483647 := r18
  have r19 : (0 : Int) ≤ ρ 19 ∧ ρ 19 ≤ 0 := r19
  have r20 : ((-2147483648) : Int) ≤ ρ 20 ∧ ρ 20 ≤ 2147483647 := r20
  have r21 : (0 : Int) ≤ ρ 21 ∧ ρ 21 ≤ 4 := r21
  have r22 : (1 : Int) ≤ ρ 22 ∧ ρ 22 ≤ 2000 := r22
  have r23 : (0 : Int) ≤ ρ 23 ∧ ρ 23 ≤ 12288 := r23
  have r24 : (0 : Int) ≤ ρ 24 ∧ ρ 24 ≤ 12288 := r24
  have r25 : (0 : Int) ≤ ρ 25 ∧ ρ 25 ≤ 40 := r25
  have r26 : (0 : Int) ≤ ρ 26 ∧ ρ 26 ≤ 2000 := r26
  have r27 : (0 : Int) ≤ ρ 27 ∧ ρ 27 ≤ 2000 := r27
  have r28 : (0 : Int) ≤ ρ 28 ∧ ρ 28 ≤ 3 := r28
  have r29 : ((-2147483648) : Int) ≤ ρ 29 ∧ ρ 29 ≤ 1099511640064 := r29
  have r30 : (1 : Int) ≤ ρ 30 ∧ ρ 30 ≤ 2000 := r30
  have r31 : ((-1) : Int) ≤ ρ 31 ∧ ρ 31 ≤ (-1) := r31
  obtain ⟨f0, f1, f2, f3, f4, f5, f6, f7, f8, f9, f10, f11, f12, f13, f14, f15, f16, f17, f18, f19, f20, f21, f22, f23, -⟩ := hf
  have f0 : (0 : Int) ≤ -ρ 7 + -ρ 6 + 2000 := f0
  have f1 : (0 : Int) ≤ -ρ 31 + ρ 8 + (-1) := f1
  have f2 : (0 : Int) ≤ -ρ 22 + ρ 2 := f2
  have f3 : (0 : Int) ≤ ρ 30 + -ρ 22 + (-1) := f3
  have f4 : (0 : Int) ≤ -ρ 30 + ρ 2 := f4
  have f5 : (0 : Int) ≤ -ρ 22 + ρ 2 + (-1) := f5
  have f6 : (0 : Int) ≤ -ρ 25 + (ρ 21 + 4 * ρ 12) + 6 := f6
  have f7 : (0 : Int) ≤ -ρ 25 + 4 * ρ 12 + 10 := f7
  have f8 : (0 : Int) ≤ -ρ 24 + (ρ 22 + -ρ 2) + 12288 := f8
  have f9 : (0 : Int) ≤ -ρ 23 + (ρ 22 + -ρ 2) + 12288 := f9
  have f10 : (0 : Int) ≤ -ρ 24 + (ρ 22 + (ρ 4 + -ρ 1)) := f10
  have f11 : (0 : Int) ≤ -ρ 23 + (ρ 22 + (ρ 3 + -ρ 1)) := f11
  have f12 : (0 : Int) ≤ -ρ 21 + ρ 2 := f12
  have f13 : (0 : Int) ≤ ρ 25 + -ρ 5 := f13
  have f14 : (0 : Int) ≤ ρ 24 + -ρ 4 := f14
  have f15 : (0 : Int) ≤ ρ 23 + -ρ 3 := f15
  have f16 : (0 : Int) ≤ ρ 22 + -ρ 1 + (-1) := f16
  have f17 : (0 : Int) ≤ ρ 22 + -ρ 21 + (-1) := f17
  have f18 : (0 : Int) ≤ 4 * ρ 12 + -ρ 5 + 6 := f18
  have f19 : (0 : Int) ≤ -ρ 11 + (ρ 10 + ρ 9) := f19
  have f20 : (0 : Int) ≤ ρ 11 + (-ρ 10 + -ρ 9) := f20
  have f21 : (0 : Int) ≤ ρ 2 + -ρ 1 + (-1) := f21
  have f22 : (0 : Int) ≤ -ρ 4 + (-ρ 2 + ρ 1) + 12288 := f22
  have f23 : (0 : Int) ≤ -ρ 3 + (-ρ 2 + ρ 1) + 12288 := f23
  obtain ⟨m0, m1, m2, m3, m4, m5, m6, m7, m8, m9, m10, m11, m12, m13, m14, m15, m16, m17, m18, m19, m20, m21, m22, m23, m24, m25, m26, m27, m28, m29, -⟩ := hm
  have m0 : γ 0 15 0 35 = ρ 1 := m0
  have m1 : γ 0 15 0 34 = ρ 2 := m1
  have m2 : γ 0 15 0 8 = ρ 3 := m2
  have m3 : γ 0 15 0 9 = ρ 4 := m3
  have m4 : γ 0 15 0 58 = ρ 5 := m4
  have m5 : γ 0 15 0 37 = ρ 6 := m5
  have m6 : γ 0 15 0 38 = ρ 7 := m6
  have m7 : γ 0 15 0 14 = ρ 8 := m7
  have m8 : γ 0 15 0 32 = ρ 9 := m8
  have m9 : γ 0 15 0 33 = ρ 10 := m9
  have m10 : γ 0 15 0 44 = ρ 11 := m10
  have m11 : γ 0 73 0 (ρ 11) = ρ 12 := m11
  have m12 : γ 0 77 0 (ρ 12 + 8 * ρ 11) = ρ 13 := m12
  have m13 : γ 0 81 0 (4 * ρ 12 + 32 * ρ 11) = ρ 14 := m13
  have m14 : γ 0 78 0 (ρ 12 + 8 * ρ 11) = ρ 15 := m14
  have m15 : γ 0 15 0 36 = ρ 16 := m15
  have m16 : γ 0 15 0 40 = ρ 17 := m16
  have m17 : γ 0 15 0 45 = ρ 18 := m17
  have m18 : γ 1 15 0 35 = ρ 22 := m18
  have m19 : γ 1 15 0 8 = ρ 23 := m19
  have m20 : γ 1 15 0 9 = ρ 24 := m20
  have m21 : γ 1 15 0 58 = ρ 25 := m21
  have m22 : γ 1 15 0 37 = ρ 26 := m22
  have m23 : γ 1 15 0 38 = ρ 27 := m23
  have m24 : γ 1 15 0 36 = ρ 16 := m24
  have m25 : γ 1 15 0 40 = ρ 28 := m25
  have m26 : γ 1 81 0 (4 * ρ 12 + 32 * ρ 11) = ρ 29 := m26
  have m27 : γ 2 15 0 35 = ρ 30 := m27
  have m28 : γ 2 15 0 36 = ρ 16 := m28
  have m29 : γ 4 15 0 14 = ρ 8 + 1 := m29
  obtain ⟨⟨⟨⟨⟨⟨⟨-, c1⟩, c2⟩, c3⟩, c4⟩, c5⟩, c6⟩, c7⟩ := hc
  have c1 : ∀ (G : Nat) (k j : Int), ¬ rMdP m26_ G j → γ 1 G k j = γ 0 G k j := c1
  have c2 : ∀ (G : Nat) (k j : Int), ¬ rMdP m17_ G j → γ 2 G k j = γ 1 G k j := c2
  have c3 : ∀ (G : Nat) (k j : Int), ¬ rMdP m0_ G j → γ 3 G k j = γ 2 G k j := c3
  have c4 : ∀ (G : Nat) (k j : Int), ¬ rMdP m15_ G j → γ 4 G k j = γ 3 G k j := c4
  have c5 : γ 5 = rUp (γ 4) 77 0 (ρ 12 + 8 * ρ 11) 1 := c5
  have c6 : γ 6 = rUp (γ 5) 78 0 (ρ 12 + 8 * ρ 11) (ρ 8) := c6
  have c7 : γ 7 = rUp (γ 6) 79 0 (ρ 12 + 8 * ρ 11) (ρ 18) := c7
  obtain ⟨l0, l1, l2, -⟩ := hl
  have l0 : sn24 [41, ρ 22, ρ 2, ρ 16] (γ 1) 0 1 (γ 2) := hS24 _ _ _ _ _ l0
  have l1 : sn21 [ρ 6, ρ 7, ρ 21, ρ 8] (γ 2) 0 (ρ 31) (γ 3) := hS21 _ _ _ _ _ l1
  have l2 : sn39 [ρ 6, ρ 7, ρ 21, ρ 8] (γ 3) 0 (ρ 8) (γ 4) := hS39 _ _ _ _ _ l2
  show sn41 [ρ 0, ρ 1, ρ 2, ρ 3, ρ 4, ρ 5, ρ 6, ρ 7, ρ 8, ρ 9, ρ 10, ρ 11, ρ 12, ρ 13, ρ 14, ρ 15, ρ 16, ρ 17, ρ 18] (γ 0) 0 1 (γ 7)
  have hD : en41 (γ 0) (0, [ρ 0, ρ 19, ρ 20, ρ 21], γ 1) = .inr (0, 1, γ 7) := by
    unfold en41
    refine (if_pos (show (0 : Nat) = 0 by decide)).trans ?_
    refine (zLet_eq (show _ = γ 1 from rfl)).trans ?_
    refine (zLet_eq (show _ = ρ 0 from rfl)).trans ?_
    refine (zLet_eq (show _ = ρ 19 from rfl)).trans ?_
    refine (zLet_eq (show _ = ρ 20 from rfl)).trans ?_
    refine (zLet_eq (show _ = ρ 21 from rfl)).trans ?_
    refine (zLet_eq m1).trans ?_
    refine (zLet_eq m5).trans ?_
    refine (zLet_eq m6).trans ?_
    refine (zLet_eq m7).trans ?_
    refine (zLet_eq m10).trans ?_
    refine (zLet_eq m11).trans ?_
    refine (zLet_eq m17).trans ?_
    refine (if_pos (show ρ 19 = 0 by omega)).trans ?_
    refine (zLet_eq (show fn24 [41] (γ 1) = (0, 1, γ 2) from l0.symm)).trans ?_
    refine (zLet_eq (show _ = γ 2 from rfl)).trans ?_
    refine (if_pos (show (1 : Int) ≤ 1 by omega)).trans ?_
    refine (zLet_eq (show fn21 [ρ 6, ρ 7, ρ 21] (γ 2) = (0, ρ 31, γ 3) from l1.symm)).trans ?_
    refine (zLet_eq (show _ = γ 3 from rfl)).trans ?_
    refine (zLet_eq (show _ = ρ 31 from rfl)).trans ?_
    refine (if_neg (show ¬ (ρ 31 ≥ 0) by omega)).trans ?_
    refine (if_pos (show ρ 8 ≠ 20 by omega)).trans ?_
    refine (zLet_eq (show fn39 [ρ 6, ρ 7, ρ 21] (γ 3) = (0, ρ 8, γ 4) from l2.symm)).trans ?_
    refine (zLet_eq (show _ = γ 4 from rfl)).trans ?_
    refine (if_neg (show ¬ (ρ 0 = 0) by omega)).trans ?_
    refine (zLet_eq c5.symm).trans ?_
    refine (zLet_eq c6.symm).trans ?_
    refine (zLet_eq c7.symm).trans ?_
    rfl
  exact zGoo_aend hJ hD
theorem vn41a0_5 {S : Nat → zSpc} (hS6 : ∀ x g o v gz, S 6 x g o v gz → sn6 x g o v gz) (hS7 : ∀ x g o v gz, S 7 x g o v gz → sn7 x g o v gz) (hS8 : ∀ x g o v gz, S 8 x g o v gz → sn8 x g o v gz) (hS20 : ∀ x g o v gz, S 20 x g o v gz → sn20 x g o v gz) (hS21 : ∀ x g o v gz, S 21 x g o v gz → sn21 x g o v gz) (hS24 : ∀ x g o v gz, S 24 x g o v gz → sn24 x g o v gz) (hS25 : ∀ x g o v gz, S 25 x g o v gz → sn25 x g o v gz) (hS33 : ∀ x g o v gz, S 33 x g o v gz → sn33 x g o v gz) (hS39 : ∀ x g o v gz, S 39 x g o v gz → sn39 x g o v gz) {a : List Int} {g : rHp} : ∀ (ρ : Nat → Int) (γ : Nat → rHp), jn41 a g 0 (zAg (zNA a41_ 0) ρ) (γ 1) → zO 19 S a g q41a0_5 ρ γ → zGl (fun i vs g1 => jn41 a g i vs g1) (sn41 a g) q41a0_5 ρ γ := by
  intro ρ γ hJ h
  obtain ⟨ha, hg, hr, hf, hm, hc, hl⟩ := h
  have ha : a = [ρ 0, ρ 1, ρ 2, ρ 3, ρ 4, ρ 5, ρ 6, ρ 7, ρ 8, ρ 9, ρ 10, ρ 11, ρ 12, ρ 13, ρ 14, ρ 15, ρ 16, ρ 17, ρ 18] := ha
  subst ha
  subst hg
  have hJ : jn41 [ρ 0, ρ 1, ρ 2, ρ 3, ρ 4, ρ 5, ρ 6, ρ 7, ρ 8, ρ 9, ρ 10, ρ 11, ρ 12, ρ 13, ρ 14, ρ 15, ρ 16, ρ 17, ρ 18] (γ 0) 0 [ρ 0, ρ 1, ρ 2, ρ 3, ρ 4, ρ 5, ρ 6, ρ 7, ρ 8, ρ 9, ρ 10, ρ 11, ρ 12, ρ 13, ρ 14, ρ 15, ρ 16, ρ 17, ρ 18, ρ 19, ρ 20, ρ 21, ρ 22, ρ 23, ρ 24, ρ 25, ρ 26, ρ 27, ρ 28, ρ 29] (γ 1) := hJ
  obtain ⟨r0, r1, r2, r3, r4, r5, r6, r7, r8, r9, r10, r11, r12, r13, r14, r15, r16, r17, r18, r19, r20, r21, r22, r23, r24, r25, r26, r27, r28, r29, r30, r31, r32, -⟩ := hr
  have r0 : (0 : Int) ≤ ρ 0 ∧ ρ 0 ≤ 1 := r0
  have r1 : (0 : Int) ≤ ρ 1 ∧ ρ 1 ≤ 2000 := r1
  have r2 : (1 : Int) ≤ ρ 2 ∧ ρ 2 ≤ 2000 := r2
  have r3 : (0 : Int) ≤ ρ 3 ∧ ρ 3 ≤ 12288 := r3
  have r4 : (0 : Int) ≤ ρ 4 ∧ ρ 4 ≤ 12288 := r4
  have r5 : (0 : Int) ≤ ρ 5 ∧ ρ 5 ≤ 64 := r5
  have r6 : (0 : Int) ≤ ρ 6 ∧ ρ 6 ≤ 2000 := r6
  have r7 : (0 : Int) ≤ ρ 7 ∧ ρ 7 ≤ 12 := r7
  have r8 : (20 : Int) ≤ ρ 8 ∧ ρ 8 ≤ 20 := r8
  have r9 : (0 : Int) ≤ ρ 9 ∧ ρ 9 ≤ 60 := r9
  have r10 : (0 : Int) ≤ ρ 10 ∧ ρ 10 ≤ 60 := r10
  have r11 : (0 : Int) ≤ ρ 11 ∧ ρ 11 ≤ 61 := r11
  have r12 : (0 : Int) ≤ ρ 12 ∧ ρ 12 ≤ 7 := r12
  have r13 : (0 : Int) ≤ ρ 13 ∧ ρ 13 ≤ 7 := r13
  have r14 : ((-2147483648) : Int) ≤ ρ 14 ∧ ρ 14 ≤ 1099511640064 := r14
  have r15 : (0 : Int) ≤ ρ 15 ∧ ρ 15 ≤ 19 := r15
  have r16 : (0 : Int) ≤ ρ 16 ∧ ρ 16 ≤ 2000 := r16
  have r17 : (0 : Int) ≤ ρ 17 ∧ ρ 17 ≤ 3 := r17
  have r18 : ((-2147483648) : Int) ≤ ρ 18 ∧ ρ 18 ≤ 2147483647 := r18
  have r19 : (0 : Int) ≤ ρ 19 ∧ ρ 19 ≤ 0 := r19
  have r20 : ((-2147483648) : Int) ≤ ρ 20 ∧ ρ 20 ≤ 2147483647 := r20
  have r21 : (0 : Int) ≤ ρ 21 ∧ ρ 21 ≤ 4 := r21
  have r22 : (1 : Int) ≤ ρ 22 ∧ ρ 22 ≤ 2000 := r22
  have r23 : (0 : Int) ≤ ρ 23 ∧ ρ 23 ≤ 12288 := r23
  have r24 : (0 : Int) ≤ ρ 24 ∧ ρ 24 ≤ 12288 := r24
  have r25 : (0 : Int) ≤ ρ 25 ∧ ρ 25 ≤ 40 := r25
  have r26 : (0 : Int) ≤ ρ 26 ∧ ρ 26 ≤ 2000 := r26
  have r27 : (0 : Int) ≤ ρ 27 ∧ ρ 27 ≤ 2000 := r27
  have r28 : (0 : Int) ≤ ρ 28 ∧ ρ 28 ≤ 3 := r28
  have r29 : ((-2147483648) : Int) ≤ ρ 29 ∧ ρ 29 ≤ 1099511640064 := r29
  have r30 : (1 : Int) ≤ ρ 30 ∧ ρ 30 ≤ 2000 := r30
  have r31 : ((-1) : Int) ≤ ρ 31 ∧ ρ 31 ≤ (-1) := r31
  have r32 : (0 : Int) ≤ ρ 32 ∧ ρ 32 ≤ 2000 := r32
  obtain ⟨f0, f1, f2, f3, f4, f5, f6, f7, f8, f9, f10, f11, f12, f13, f14, f15, f16, f17, f18, f19, f20, f21, f22, f23, f24, f25, -⟩ := hf
  have f0 : (0 : Int) ≤ -ρ 32 + ρ 6 := f0
  have f1 : (0 : Int) ≤ -ρ 32 + ρ 2 := f1
  have f2 : (0 : Int) ≤ -ρ 7 + -ρ 6 + 2000 := f2
  have f3 : (0 : Int) ≤ -ρ 31 + ρ 8 + (-1) := f3
  have f4 : (0 : Int) ≤ -ρ 22 + ρ 2 := f4
  have f5 : (0 : Int) ≤ ρ 30 + -ρ 22 + (-1) := f5
  have f6 : (0 : Int) ≤ -ρ 30 + ρ 2 := f6
  have f7 : (0 : Int) ≤ -ρ 22 + ρ 2 + (-1) := f7
  have f8 : (0 : Int) ≤ -ρ 25 + (ρ 21 + 4 * ρ 12) + 6 := f8
  have f9 : (0 : Int) ≤ -ρ 25 + 4 * ρ 12 + 10 := f9
  have f10 : (0 : Int) ≤ -ρ 24 + (ρ 22 + -ρ 2) + 12288 := f10
  have f11 : (0 : Int) ≤ -ρ 23 + (ρ 22 + -ρ 2) + 12288 := f11
  have f12 : (0 : Int) ≤ -ρ 24 + (ρ 22 + (ρ 4 + -ρ 1)) := f12
  have f13 : (0 : Int) ≤ -ρ 23 + (ρ 22 + (ρ 3 + -ρ 1)) := f13
  have f14 : (0 : Int) ≤ -ρ 21 + ρ 2 := f14
  have f15 : (0 : Int) ≤ ρ 25 + -ρ 5 := f15
  have f16 : (0 : Int) ≤ ρ 24 + -ρ 4 := f16
  have f17 : (0 : Int) ≤ ρ 23 + -ρ 3 := f17
  have f18 : (0 : Int) ≤ ρ 22 + -ρ 1 + (-1) := f18
  have f19 : (0 : Int) ≤ ρ 22 + -ρ 21 + (-1) := f19
  have f20 : (0 : Int) ≤ 4 * ρ 12 + -ρ 5 + 6 := f20
  have f21 : (0 : Int) ≤ -ρ 11 + (ρ 10 + ρ 9) := f21
  have f22 : (0 : Int) ≤ ρ 11 + (-ρ 10 + -ρ 9) := f22
  have f23 : (0 : Int) ≤ ρ 2 + -ρ 1 + (-1) := f23
  have f24 : (0 : Int) ≤ -ρ 4 + (-ρ 2 + ρ 1) + 12288 := f24
  have f25 : (0 : Int) ≤ -ρ 3 + (-ρ 2 + ρ 1) + 12288 := f25
  obtain ⟨m0, m1, m2, m3, m4, m5, m6, m7, m8, m9, m10, m11, m12, m13, m14, m15, m16, m17, m18, m19, m20, m21, m22, m23, m24, m25, m26, m27, m28, m29, -⟩ := hm
  have m0 : γ 0 15 0 35 = ρ 1 := m0
  have m1 : γ 0 15 0 34 = ρ 2 := m1
  have m2 : γ 0 15 0 8 = ρ 3 := m2
  have m3 : γ 0 15 0 9 = ρ 4 := m3
  have m4 : γ 0 15 0 58 = ρ 5 := m4
  have m5 : γ 0 15 0 37 = ρ 6 := m5
  have m6 : γ 0 15 0 38 = ρ 7 := m6
  have m7 : γ 0 15 0 14 = ρ 8 := m7
  have m8 : γ 0 15 0 32 = ρ 9 := m8
  have m9 : γ 0 15 0 33 = ρ 10 := m9
  have m10 : γ 0 15 0 44 = ρ 11 := m10
  have m11 : γ 0 73 0 (ρ 11) = ρ 12 := m11
  have m12 : γ 0 77 0 (ρ 12 + 8 * ρ 11) = ρ 13 := m12
  have m13 : γ 0 81 0 (4 * ρ 12 + 32 * ρ 11) = ρ 14 := m13
  have m14 : γ 0 78 0 (ρ 12 + 8 * ρ 11) = ρ 15 := m14
  have m15 : γ 0 15 0 36 = ρ 16 := m15
  have m16 : γ 0 15 0 40 = ρ 17 := m16
  have m17 : γ 0 15 0 45 = ρ 18 := m17
  have m18 : γ 1 15 0 35 = ρ 22 := m18
  have m19 : γ 1 15 0 8 = ρ 23 := m19
  have m20 : γ 1 15 0 9 = ρ 24 := m20
  have m21 : γ 1 15 0 58 = ρ 25 := m21
  have m22 : γ 1 15 0 37 = ρ 26 := m22
  have m23 : γ 1 15 0 38 = ρ 27 := m23
  have m24 : γ 1 15 0 36 = ρ 16 := m24
  have m25 : γ 1 15 0 40 = ρ 28 := m25
  have m26 : γ 1 81 0 (4 * ρ 12 + 32 * ρ 11) = ρ 29 := m26
  have m27 : γ 2 15 0 35 = ρ 30 := m27
  have m28 : γ 2 15 0 36 = ρ 16 := m28
  have m29 : γ 4 15 0 36 = ρ 32 := m29
  obtain ⟨⟨⟨⟨-, c1⟩, c2⟩, c3⟩, c4⟩ := hc
  have c1 : ∀ (G : Nat) (k j : Int), ¬ rMdP m26_ G j → γ 1 G k j = γ 0 G k j := c1
  have c2 : ∀ (G : Nat) (k j : Int), ¬ rMdP m17_ G j → γ 2 G k j = γ 1 G k j := c2
  have c3 : ∀ (G : Nat) (k j : Int), ¬ rMdP m0_ G j → γ 3 G k j = γ 2 G k j := c3
  have c4 : ∀ (G : Nat) (k j : Int), ¬ rMdP m7_ G j → γ 4 G k j = γ 3 G k j := c4
  obtain ⟨l0, l1, l2, -⟩ := hl
  have l0 : sn24 [41, ρ 22, ρ 2, ρ 16] (γ 1) 0 1 (γ 2) := hS24 _ _ _ _ _ l0
  have l1 : sn21 [ρ 6, ρ 7, ρ 21, ρ 8] (γ 2) 0 (ρ 31) (γ 3) := hS21 _ _ _ _ _ l1
  have l2 : sn8 [ρ 6, ρ 2, ρ 16] (γ 3) 0 0 (γ 4) := hS8 _ _ _ _ _ l2
  show sn41 [ρ 0, ρ 1, ρ 2, ρ 3, ρ 4, ρ 5, ρ 6, ρ 7, ρ 8, ρ 9, ρ 10, ρ 11, ρ 12, ρ 13, ρ 14, ρ 15, ρ 16, ρ 17, ρ 18] (γ 0) 0 0 (γ 4)
  have hD : en41 (γ 0) (0, [ρ 0, ρ 19, ρ 20, ρ 21], γ 1) = .inr (0, 0, γ 4) := by
    unfold en41
    refine (if_pos (show (0 : Nat) = 0 by decide)).trans ?_
    refine (zLet_eq (show _ = γ 1 from rfl)).trans ?_
    refine (zLet_eq (show _ = ρ 0 from rfl)).trans ?_
    refine (zLet_eq (show _ = ρ 19 from rfl)).trans ?_
    refine (zLet_eq (show _ = ρ 20 from rfl)).trans ?_
    refine (zLet_eq (show _ = ρ 21 from rfl)).trans ?_
    refine (zLet_eq m1).trans ?_
    refine (zLet_eq m5).trans ?_
    refine (zLet_eq m6).trans ?_
    refine (zLet_eq m7).trans ?_
    refine (zLet_eq m10).trans ?_
    refine (zLet_eq m11).trans ?_
    refine (zLet_eq m17).trans ?_
    refine (if_pos (show ρ 19 = 0 by omega)).trans ?_
    refine (zLet_eq (show fn24 [41] (γ 1) = (0, 1, γ 2) from l0.symm)).trans ?_
    refine (zLet_eq (show _ = γ 2 from rfl)).trans ?_
    refine (if_pos (show (1 : Int) ≤ 1 by omega)).trans ?_
    refine (zLet_eq (show fn21 [ρ 6, ρ 7, ρ 21] (γ 2) = (0, ρ 31, γ 3) from l1.symm)).trans ?_
    refine (zLet_eq (show _ = γ 3 from rfl)).trans ?_
    refine (zLet_eq (show _ = ρ 31 from rfl)).trans ?_
    refine (if_neg (show ¬ (ρ 31 ≥ 0) by omega)).trans ?_
    refine (if_neg (show ¬ (ρ 8 ≠ 20) by omega)).trans ?_
    refine (zLet_eq (show fn8 [ρ 6] (γ 3) = (0, 0, γ 4) from l2.symm)).trans ?_
    refine (zLet_eq (show _ = γ 4 from rfl)).trans ?_
    rfl
  exact zGoo_aend hJ hD
theorem vn41a0_6 {S : Nat → zSpc} (hS6 : ∀ x g o v gz, S 6 x g o v gz → sn6 x g o v gz) (hS7 : ∀ x g o v gz, S 7 x g o v gz → sn7 x g o v gz) (hS8 : ∀ x g o v gz, S 8 x g o v gz → sn8 x g o v gz) (hS20 : ∀ x g o v gz, S 20 x g o v gz → sn20 x g o v gz) (hS21 : ∀ x g o v gz, S 21 x g o v gz → sn21 x g o v gz) (hS24 : ∀ x g o v gz, S 24 x g o v gz → sn24 x g o v gz) (hS25 : ∀ x g o v gz, S 25 x g o v gz → sn25 x g o v gz) (hS33 : ∀ x g o v gz, S 33 x g o v gz → sn33 x g o v gz) (hS39 : ∀ x g o v gz, S 39 x g o v gz → sn39 x g o v gz) {a : List Int} {g : rHp} : ∀ (ρ : Nat → Int) (γ : Nat → rHp), jn41 a g 0 (zAg (zNA a41_ 0) ρ) (γ 1) → zO 19 S a g q41a0_6 ρ γ → zGl (fun i vs g1 => jn41 a g i vs g1) (sn41 a g) q41a0_6 ρ γ := by
  intro ρ γ hJ h
  obtain ⟨ha, hg, hr, hf, hm, hc, hl⟩ := h
  have ha : a = [ρ 0, ρ 1, ρ 2, ρ 3, ρ 4, ρ 5, ρ 6, ρ 7, ρ 8, ρ 9, ρ 10, ρ 11, ρ 12, ρ 13, ρ 14, ρ 15, ρ 16, ρ 17, ρ 18] := ha
  subst ha
  subst hg
  have hJ : jn41 [ρ 0, ρ 1, ρ 2, ρ 3, ρ 4, ρ 5, ρ 6, ρ 7, ρ 8, ρ 9, ρ 10, ρ 11, ρ 12, ρ 13, ρ 14, ρ 15, ρ 16, ρ 17, ρ 18] (γ 0) 0 [ρ 0, ρ 1, ρ 2, ρ 3, ρ 4, ρ 5, ρ 6, ρ 7, ρ 8, ρ 9, ρ 10, ρ 11, ρ 12, ρ 13, ρ 14, ρ 15, ρ 16, ρ 17, ρ 18, ρ 19, ρ 20, ρ 21, ρ 22, ρ 23, ρ 24, ρ 25, ρ 26, ρ 27, ρ 28, ρ 29] (γ 1) := hJ
  obtain ⟨r0, r1, r2, r3, r4, r5, r6, r7, r8, r9, r10, r11, r12, r13, r14, r15, r16, r17, r18, r19, r20, r21, r22, r23, r24, r25, r26, r27, r28, r29, r30, r31, r32, r33, r34, r35, r36, -⟩ := hr
  have r0 : (0 : Int) ≤ ρ 0 ∧ ρ 0 ≤ 1 := r0
  have r1 : (0 : Int) ≤ ρ 1 ∧ ρ 1 ≤ 2000 := r1
  have r2 : (1 : Int) ≤ ρ 2 ∧ ρ 2 ≤ 2000 := r2
  have r3 : (0 : Int) ≤ ρ 3 ∧ ρ 3 ≤ 12288 := r3
  have r4 : (0 : Int) ≤ ρ 4 ∧ ρ 4 ≤ 12288 := r4
  have r5 : (0 : Int) ≤ ρ 5 ∧ ρ 5 ≤ 64 := r5
  have r6 : (0 : Int) ≤ ρ 6 ∧ ρ 6 ≤ 2000 := r6
  have r7 : (0 : Int) ≤ ρ 7 ∧ ρ 7 ≤ 12 := r7
  have r8 : (0 : Int) ≤ ρ 8 ∧ ρ 8 ≤ 20 := r8
  have r9 : (0 : Int) ≤ ρ 9 ∧ ρ 9 ≤ 60 := r9
  have r10 : (0 : Int) ≤ ρ 10 ∧ ρ 10 ≤ 60 := r10
  have r11 : (0 : Int) ≤ ρ 11 ∧ ρ 11 ≤ 61 := r11
  have r12 : (0 : Int) ≤ ρ 12 ∧ ρ 12 ≤ 7 := r12
  have r13 : (0 : Int) ≤ ρ 13 ∧ ρ 13 ≤ 7 := r13
  have r14 : ((-2147483648) : Int) ≤ ρ 14 ∧ ρ 14 ≤ 1099511640064 := r14
  have r15 : (0 : Int) ≤ ρ 15 ∧ ρ 15 ≤ 19 := r15
  have r16 : (0 : Int) ≤ ρ 16 ∧ ρ 16 ≤ 2000 := r16
  have r17 : (0 : Int) ≤ ρ 17 ∧ ρ 17 ≤ 3 := r17
  have r18 : ((-2147483648) : Int) ≤ ρ 18 ∧ ρ 18 ≤ 2147483647 := r18
  have r19 : (1 : Int) ≤ ρ 19 ∧ ρ 19 ≤ 1 := r19
  have r20 : ((-2147483648) : Int) ≤ ρ 20 ∧ ρ 20 ≤ 2147483647 := r20
  have r21 : (0 : Int) ≤ ρ 21 ∧ ρ 21 ≤ 3 := r21
  have r22 : (1 : Int) ≤ ρ 22 ∧ ρ 22 ≤ 2000 := r22
  have r23 : (0 : Int) ≤ ρ 23 ∧ ρ 23 ≤ 12288 := r23
  have r24 : (0 : Int) ≤ ρ 24 ∧ ρ 24 ≤ 12288 := r24
  have r25 : (0 : Int) ≤ ρ 25 ∧ ρ 25 ≤ 40 := r25
  have r26 : (0 : Int) ≤ ρ 26 ∧ ρ 26 ≤ 2000 := r26
  have r27 : (0 : Int) ≤ ρ 27 ∧ ρ 27 ≤ 2000 := r27
  have r28 : (0 : Int) ≤ ρ 28 ∧ ρ 28 ≤ 3 := r28
  have r29 : ((-2147483648) : Int) ≤ ρ 29 ∧ ρ 29 ≤ 1099511640064 := r29
  have r30 : (0 : Int) ≤ ρ 30 ∧ ρ 30 ≤ 2000 := r30
  have r31 : ((-2147483648) : Int) ≤ ρ 31 ∧ ρ 31 ≤ 1099511640064 := r31
  have r32 : (0 : Int) ≤ ρ 32 ∧ ρ 32 ≤ 2000 := r32
  have r33 : ((-2147483648) : Int) ≤ ρ 33 ∧ ρ 33 ≤ 1099511640064 := r33
  have r34 : (0 : Int) ≤ ρ 34 ∧ ρ 34 ≤ 2000 := r34
  have r35 : (0 : Int) ≤ ρ 35 ∧ ρ 35 ≤ 2000 := r35
  have r36 : (0 : Int) ≤ ρ 36 ∧ ρ 36 ≤ 2000 := r36
  obtain ⟨f0, f1, f2, f3, f4, f5, f6, f7, f8, f9, f10, f11, f12, f13, f14, f15, f16, f17, f18, f19, f20, f21, f22, f23, f24, f25, f26, -⟩ := hf
  have f0 : (0 : Int) ≤ ρ 30 + (-ρ 23 + -ρ 2) + 12288 := f0
  have f1 : (0 : Int) ≤ ρ 30 + (-ρ 24 + -ρ 2) + 12288 := f1
  have f2 : (0 : Int) ≤ -ρ 30 + ρ 2 := f2
  have f3 : (0 : Int) ≤ -ρ 34 + ρ 32 := f3
  have f4 : (0 : Int) ≤ ρ 32 + -ρ 30 := f4
  have f5 : (0 : Int) ≤ -ρ 32 + ρ 2 := f5
  have f6 : (0 : Int) ≤ -ρ 22 + ρ 2 := f6
  have f7 : (0 : Int) ≤ ρ 30 + -ρ 22 := f7
  have f8 : (0 : Int) ≤ -ρ 25 + (ρ 21 + 4 * ρ 12) + 6 := f8
  have f9 : (0 : Int) ≤ -ρ 25 + 4 * ρ 12 + 10 := f9
  have f10 : (0 : Int) ≤ -ρ 24 + (ρ 22 + -ρ 2) + 12288 := f10
  have f11 : (0 : Int) ≤ -ρ 23 + (ρ 22 + -ρ 2) + 12288 := f11
  have f12 : (0 : Int) ≤ -ρ 24 + (ρ 22 + (ρ 4 + -ρ 1)) := f12
  have f13 : (0 : Int) ≤ -ρ 23 + (ρ 22 + (ρ 3 + -ρ 1)) := f13
  have f14 : (0 : Int) ≤ -ρ 7 + -ρ 6 + 2000 := f14
  have f15 : (0 : Int) ≤ -ρ 21 + ρ 2 := f15
  have f16 : (0 : Int) ≤ ρ 25 + -ρ 5 := f16
  have f17 : (0 : Int) ≤ ρ 24 + -ρ 4 := f17
  have f18 : (0 : Int) ≤ ρ 23 + -ρ 3 := f18
  have f19 : (0 : Int) ≤ ρ 22 + -ρ 1 + (-1) := f19
  have f20 : (0 : Int) ≤ ρ 22 + -ρ 21 + (-1) := f20
  have f21 : (0 : Int) ≤ 4 * ρ 12 + -ρ 5 + 6 := f21
  have f22 : (0 : Int) ≤ -ρ 11 + (ρ 10 + ρ 9) := f22
  have f23 : (0 : Int) ≤ ρ 11 + (-ρ 10 + -ρ 9) := f23
  have f24 : (0 : Int) ≤ ρ 2 + -ρ 1 + (-1) := f24
  have f25 : (0 : Int) ≤ -ρ 4 + (-ρ 2 + ρ 1) + 12288 := f25
  have f26 : (0 : Int) ≤ -ρ 3 + (-ρ 2 + ρ 1) + 12288 := f26
  obtain ⟨m0, m1, m2, m3, m4, m5, m6, m7, m8, m9, m10, m11, m12, m13, m14, m15, m16, m17, m18, m19, m20, m21, m22, m23, m24, m25, m26, m27, m28, m29, m30, m31, m32, m33, m34, m35, m36, -⟩ := hm
  have m0 : γ 0 15 0 35 = ρ 1 := m0
  have m1 : γ 0 15 0 34 = ρ 2 := m1
  have m2 : γ 0 15 0 8 = ρ 3 := m2
  have m3 : γ 0 15 0 9 = ρ 4 := m3
  have m4 : γ 0 15 0 58 = ρ 5 := m4
  have m5 : γ 0 15 0 37 = ρ 6 := m5
  have m6 : γ 0 15 0 38 = ρ 7 := m6
  have m7 : γ 0 15 0 14 = ρ 8 := m7
  have m8 : γ 0 15 0 32 = ρ 9 := m8
  have m9 : γ 0 15 0 33 = ρ 10 := m9
  have m10 : γ 0 15 0 44 = ρ 11 := m10
  have m11 : γ 0 73 0 (ρ 11) = ρ 12 := m11
  have m12 : γ 0 77 0 (ρ 12 + 8 * ρ 11) = ρ 13 := m12
  have m13 : γ 0 81 0 (4 * ρ 12 + 32 * ρ 11) = ρ 14 := m13
  have m14 : γ 0 78 0 (ρ 12 + 8 * ρ 11) = ρ 15 := m14
  have m15 : γ 0 15 0 36 = ρ 16 := m15
  have m16 : γ 0 15 0 40 = ρ 17 := m16
  have m17 : γ 0 15 0 45 = ρ 18 := m17
  have m18 : γ 1 15 0 35 = ρ 22 := m18
  have m19 : γ 1 15 0 8 = ρ 23 := m19
  have m20 : γ 1 15 0 9 = ρ 24 := m20
  have m21 : γ 1 15 0 58 = ρ 25 := m21
  have m22 : γ 1 15 0 37 = ρ 26 := m22
  have m23 : γ 1 15 0 38 = ρ 27 := m23
  have m24 : γ 1 15 0 36 = ρ 16 := m24
  have m25 : γ 1 15 0 40 = ρ 28 := m25
  have m26 : γ 1 81 0 (4 * ρ 12 + 32 * ρ 11) = ρ 29 := m26
  have m27 : γ 2 15 0 35 = ρ 30 := m27
  have m28 : γ 1 15 0 39 = ρ 31 := m28
  have m29 : γ 3 15 0 35 = ρ 32 := m29
  have m30 : γ 3 15 0 8 = ρ 23 := m30
  have m31 : γ 3 15 0 9 = ρ 24 := m31
  have m32 : γ 3 15 0 39 = ρ 33 := m32
  have m33 : γ 3 15 0 40 = ρ 28 := m33
  have m34 : γ 3 15 0 36 = ρ 34 := m34
  have m35 : γ 3 15 0 37 = ρ 35 := m35
  have m36 : γ 3 15 0 38 = ρ 36 := m36
  obtain ⟨⟨⟨-, c1⟩, c2⟩, c3⟩ := hc
  have c1 : ∀ (G : Nat) (k j : Int), ¬ rMdP m26_ G j → γ 1 G k j = γ 0 G k j := c1
  have c2 : ∀ (G : Nat) (k j : Int), ¬ rMdP m6_ G j → γ 2 G k j = γ 1 G k j := c2
  have c3 : ∀ (G : Nat) (k j : Int), ¬ rMdP m14_ G j → γ 3 G k j = γ 2 G k j := c3
  obtain ⟨l0, l1, -⟩ := hl
  have l0 : sn7 [ρ 22, ρ 2] (γ 1) 0 0 (γ 2) := hS7 _ _ _ _ _ l0
  have l1 : sn20 [1, ρ 30, ρ 2, ρ 23, ρ 24, ρ 31, ρ 28, ρ 16, ρ 26, ρ 27, ρ 11] (γ 2) 0 0 (γ 3) := hS20 _ _ _ _ _ l1
  show sn41 [ρ 0, ρ 1, ρ 2, ρ 3, ρ 4, ρ 5, ρ 6, ρ 7, ρ 8, ρ 9, ρ 10, ρ 11, ρ 12, ρ 13, ρ 14, ρ 15, ρ 16, ρ 17, ρ 18] (γ 0) 0 0 (γ 3)
  have hD : en41 (γ 0) (0, [ρ 0, ρ 19, ρ 20, ρ 21], γ 1) = .inr (0, 0, γ 3) := by
    unfold en41
    refine (if_pos (show (0 : Nat) = 0 by decide)).trans ?_
    refine (zLet_eq (show _ = γ 1 from rfl)).trans ?_
    refine (zLet_eq (show _ = ρ 0 from rfl)).trans ?_
    refine (zLet_eq (show _ = ρ 19 from rfl)).trans ?_
    refine (zLet_eq (show _ = ρ 20 from rfl)).trans ?_
    refine (zLet_eq (show _ = ρ 21 from rfl)).trans ?_
    refine (zLet_eq m1).trans ?_
    refine (zLet_eq m5).trans ?_
    refine (zLet_eq m6).trans ?_
    refine (zLet_eq m7).trans ?_
    refine (zLet_eq m10).trans ?_
    refine (zLet_eq m11).trans ?_
    refine (zLet_eq m17).trans ?_
    refine (if_neg (show ¬ (ρ 19 = 0) by omega)).trans ?_
    refine (zLet_eq (show fn7 [] (γ 1) = (0, 0, γ 2) from l0.symm)).trans ?_
    refine (zLet_eq (show _ = γ 2 from rfl)).trans ?_
    refine (zLet_eq m27).trans ?_
    refine (if_pos (show ρ 21 ≠ 4 by omega)).trans ?_
    refine (zLet_eq (show fn20 [1] (γ 2) = (0, 0, γ 3) from l1.symm)).trans ?_
    refine (zLet_eq (show _ = γ 3 from rfl)).trans ?_
    refine (if_neg (show ¬ ((1 : Int) ≤ 0) by omega)).trans ?_
    rfl
  exact zGoo_aend hJ hD
theorem vn41a0_7 {S : Nat → zSpc} (hS6 : ∀ x g o v gz, S 6 x g o v gz → sn6 x g o v gz) (hS7 : ∀ x g o v gz, S 7 x g o v gz → sn7 x g o v gz) (hS8 : ∀ x g o v gz, S 8 x g o v gz → sn8 x g o v gz) (hS20 : ∀ x g o v gz, S 20 x g o v gz → sn20 x g o v gz) (hS21 : ∀ x g o v gz, S 21 x g o v gz → sn21 x g o v gz) (hS24 : ∀ x g o v gz, S 24 x g o v gz → sn24 x g o v gz) (hS25 : ∀ x g o v gz, S 25 x g o v gz → sn25 x g o v gz) (hS33 : ∀ x g o v gz, S 33 x g o v gz → sn33 x g o v gz) (hS39 : ∀ x g o v gz, S 39 x g o v gz → sn39 x g o v gz) {a : List Int} {g : rHp} : ∀ (ρ : Nat → Int) (γ : Nat → rHp), jn41 a g 0 (zAg (zNA a41_ 0) ρ) (γ 1) → zO 19 S a g q41a0_7 ρ γ → zGl (fun i vs g1 => jn41 a g i vs g1) (sn41 a g) q41a0_7 ρ γ := by
  intro ρ γ hJ h
  obtain ⟨ha, hg, hr, hf, hm, hc, hl⟩ := h
  have ha : a = [ρ 0, ρ 1, ρ 2, ρ 3, ρ 4, ρ 5, ρ 6, ρ 7, ρ 8, ρ 9, ρ 10, ρ 11, ρ 12, ρ 13, ρ 14, ρ 15, ρ 16, ρ 17, ρ 18] := ha
  subst ha
  subst hg
  have hJ : jn41 [ρ 0, ρ 1, ρ 2, ρ 3, ρ 4, ρ 5, ρ 6, ρ 7, ρ 8, ρ 9, ρ 10, ρ 11, ρ 12, ρ 13, ρ 14, ρ 15, ρ 16, ρ 17, ρ 18] (γ 0) 0 [ρ 0, ρ 1, ρ 2, ρ 3, ρ 4, ρ 5, ρ 6, ρ 7, ρ 8, ρ 9, ρ 10, ρ 11, ρ 12, ρ 13, ρ 14, ρ 15, ρ 16, ρ 17, ρ 18, ρ 19, ρ 20, ρ 21, ρ 22, ρ 23, ρ 24, ρ 25, ρ 26, ρ 27, ρ 28, ρ 29] (γ 1) := hJ
  obtain ⟨r0, r1, r2, r3, r4, r5, r6, r7, r8, r9, r10, r11, r12, r13, r14, r15, r16, r17, r18, r19, r20, r21, r22, r23, r24, r25, r26, r27, r28, r29, r30, r31, r32, r33, r34, r35, r36, r37, r38, r39, r40, r41, -⟩ := hr
  have r0 : (0 : Int) ≤ ρ 0 ∧ ρ 0 ≤ 1 := r0
  have r1 : (0 : Int) ≤ ρ 1 ∧ ρ 1 ≤ 2000 := r1
  have r2 : (1 : Int) ≤ ρ 2 ∧ ρ 2 ≤ 2000 := r2
  have r3 : (0 : Int) ≤ ρ 3 ∧ ρ 3 ≤ 12288 := r3
  have r4 : (0 : Int) ≤ ρ 4 ∧ ρ 4 ≤ 12288 := r4
  have r5 : (0 : Int) ≤ ρ 5 ∧ ρ 5 ≤ 64 := r5
  have r6 : (0 : Int) ≤ ρ 6 ∧ ρ 6 ≤ 2000 := r6
  have r7 : (0 : Int) ≤ ρ 7 ∧ ρ 7 ≤ 12 := r7
  have r8 : (0 : Int) ≤ ρ 8 ∧ ρ 8 ≤ 20 := r8
  have r9 : (0 : Int) ≤ ρ 9 ∧ ρ 9 ≤ 60 := r9
  have r10 : (0 : Int) ≤ ρ 10 ∧ ρ 10 ≤ 60 := r10
  have r11 : (0 : Int) ≤ ρ 11 ∧ ρ 11 ≤ 61 := r11
  have r12 : (0 : Int) ≤ ρ 12 ∧ ρ 12 ≤ 7 := r12
  have r13 : (0 : Int) ≤ ρ 13 ∧ ρ 13 ≤ 7 := r13
  have r14 : ((-2147483648) : Int) ≤ ρ 14 ∧ ρ 14 ≤ 1099511640064 := r14
  have r15 : (0 : Int) ≤ ρ 15 ∧ ρ 15 ≤ 19 := r15
  have r16 : (0 : Int) ≤ ρ 16 ∧ ρ 16 ≤ 2000 := r16
  have r17 : (0 : Int) ≤ ρ 17 ∧ ρ 17 ≤ 3 := r17
  have r18 : ((-2147483648) : Int) ≤ ρ 18 ∧ ρ 18 ≤ 2147483647 := r18
  have r19 : (1 : Int) ≤ ρ 19 ∧ ρ 19 ≤ 1 := r19
  have r20 : ((-2147483648) : Int) ≤ ρ 20 ∧ ρ 20 ≤ 2147483647 := r20
  have r21 : (0 : Int) ≤ ρ 21 ∧ ρ 21 ≤ 3 := r21
  have r22 : (1 : Int) ≤ ρ 22 ∧ ρ 22 ≤ 2000 := r22
  have r23 : (0 : Int) ≤ ρ 23 ∧ ρ 23 ≤ 12288 := r23
  have r24 : (0 : Int) ≤ ρ 24 ∧ ρ 24 ≤ 12288 := r24
  have r25 : (0 : Int) ≤ ρ 25 ∧ ρ 25 ≤ 40 := r25
  have r26 : (0 : Int) ≤ ρ 26 ∧ ρ 26 ≤ 2000 := r26
  have r27 : (0 : Int) ≤ ρ 27 ∧ ρ 27 ≤ 2000 := r27
  have r28 : (0 : Int) ≤ ρ 28 ∧ ρ 28 ≤ 3 := r28
  have r29 : ((-2147483648) : Int) ≤ ρ 29 ∧ ρ 29 ≤ 1099511640064 := r29
  have r30 : (0 : Int) ≤ ρ 30 ∧ ρ 30 ≤ 2000 := r30
  have r31 : ((-2147483648) : Int) ≤ ρ 31 ∧ ρ 31 ≤ 1099511640064 := r31
  have r32 : (1 : Int) ≤ ρ 32 ∧ ρ 32 ≤ 2000 := r32
  have r33 : (0 : Int) ≤ ρ 33 ∧ ρ 33 ≤ 12288 := r33
  have r34 : (0 : Int) ≤ ρ 34 ∧ ρ 34 ≤ 12288 := r34
  have r35 : ((-2147483648) : Int) ≤ ρ 35 ∧ ρ 35 ≤ 1099511640064 := r35
  have r36 : (0 : Int) ≤ ρ 36 ∧ ρ 36 ≤ 2 := r36
  have r37 : (0 : Int) ≤ ρ 37 ∧ ρ 37 ≤ 2000 := r37
  have r38 : (0 : Int) ≤ ρ 38 ∧ ρ 38 ≤ 2000 := r38
  have r39 : (0 : Int) ≤ ρ 39 ∧ ρ 39 ≤ 2000 := r39
  have r40 : ((-128) : Int) ≤ ρ 40 ∧ ρ 40 ≤ 127 := r40
  have r41 : ((-2147483648) : Int) ≤ ρ 41 ∧ ρ 41 ≤ 1099511640064 := r41
  obtain ⟨f0, f1, f2, f3, f4, f5, f6, f7, f8, f9, f10, f11, f12, f13, f14, f15, f16, f17, f18, f19, f20, f21, f22, f23, f24, f25, f26, f27, f28, f29, f30, f31, f32, f33, -⟩ := hf
  have f0 : (0 : Int) ≤ -ρ 39 + ρ 2 + (-1) := f0
  have f1 : (0 : Int) ≤ -ρ 32 + ρ 2 := f1
  have f2 : (0 : Int) ≤ ρ 39 + -ρ 32 := f2
  have f3 : (0 : Int) ≤ -ρ 39 + ρ 2 := f3
  have f4 : (0 : Int) ≤ ρ 30 + (-ρ 23 + -ρ 2) + 12288 := f4
  have f5 : (0 : Int) ≤ ρ 30 + (-ρ 24 + -ρ 2) + 12288 := f5
  have f6 : (0 : Int) ≤ -ρ 30 + ρ 2 := f6
  have f7 : (0 : Int) ≤ ρ 32 + -ρ 30 + (-1) := f7
  have f8 : (0 : Int) ≤ ρ 33 + -ρ 23 := f8
  have f9 : (0 : Int) ≤ ρ 34 + -ρ 24 := f9
  have f10 : (0 : Int) ≤ -ρ 30 + ρ 2 + (-1) := f10
  have f11 : (0 : Int) ≤ -ρ 33 + (ρ 32 + (-ρ 30 + ρ 23)) := f11
  have f12 : (0 : Int) ≤ -ρ 34 + (ρ 32 + (-ρ 30 + ρ 24)) := f12
  have f13 : (0 : Int) ≤ -ρ 22 + ρ 2 := f13
  have f14 : (0 : Int) ≤ ρ 30 + -ρ 22 := f14
  have f15 : (0 : Int) ≤ -ρ 25 + (ρ 21 + 4 * ρ 12) + 6 := f15
  have f16 : (0 : Int) ≤ -ρ 25 + 4 * ρ 12 + 10 := f16
  have f17 : (0 : Int) ≤ -ρ 24 + (ρ 22 + -ρ 2) + 12288 := f17
  have f18 : (0 : Int) ≤ -ρ 23 + (ρ 22 + -ρ 2) + 12288 := f18
  have f19 : (0 : Int) ≤ -ρ 24 + (ρ 22 + (ρ 4 + -ρ 1)) := f19
  have f20 : (0 : Int) ≤ -ρ 23 + (ρ 22 + (ρ 3 + -ρ 1)) := f20
  have f21 : (0 : Int) ≤ -ρ 7 + -ρ 6 + 2000 := f21
  have f22 : (0 : Int) ≤ -ρ 21 + ρ 2 := f22
  have f23 : (0 : Int) ≤ ρ 25 + -ρ 5 := f23
  have f24 : (0 : Int) ≤ ρ 24 + -ρ 4 := f24
  have f25 : (0 : Int) ≤ ρ 23 + -ρ 3 := f25
  have f26 : (0 : Int) ≤ ρ 22 + -ρ 1 + (-1) := f26
  have f27 : (0 : Int) ≤ ρ 22 + -ρ 21 + (-1) := f27
  have f28 : (0 : Int) ≤ 4 * ρ 12 + -ρ 5 + 6 := f28
  have f29 : (0 : Int) ≤ -ρ 11 + (ρ 10 + ρ 9) := f29
  have f30 : (0 : Int) ≤ ρ 11 + (-ρ 10 + -ρ 9) := f30
  have f31 : (0 : Int) ≤ ρ 2 + -ρ 1 + (-1) := f31
  have f32 : (0 : Int) ≤ -ρ 4 + (-ρ 2 + ρ 1) + 12288 := f32
  have f33 : (0 : Int) ≤ -ρ 3 + (-ρ 2 + ρ 1) + 12288 := f33
  obtain ⟨m0, m1, m2, m3, m4, m5, m6, m7, m8, m9, m10, m11, m12, m13, m14, m15, m16, m17, m18, m19, m20, m21, m22, m23, m24, m25, m26, m27, m28, m29, m30, m31, m32, m33, m34, m35, m36, m37, m38, -⟩ := hm
  have m0 : γ 0 15 0 35 = ρ 1 := m0
  have m1 : γ 0 15 0 34 = ρ 2 := m1
  have m2 : γ 0 15 0 8 = ρ 3 := m2
  have m3 : γ 0 15 0 9 = ρ 4 := m3
  have m4 : γ 0 15 0 58 = ρ 5 := m4
  have m5 : γ 0 15 0 37 = ρ 6 := m5
  have m6 : γ 0 15 0 38 = ρ 7 := m6
  have m7 : γ 0 15 0 14 = ρ 8 := m7
  have m8 : γ 0 15 0 32 = ρ 9 := m8
  have m9 : γ 0 15 0 33 = ρ 10 := m9
  have m10 : γ 0 15 0 44 = ρ 11 := m10
  have m11 : γ 0 73 0 (ρ 11) = ρ 12 := m11
  have m12 : γ 0 77 0 (ρ 12 + 8 * ρ 11) = ρ 13 := m12
  have m13 : γ 0 81 0 (4 * ρ 12 + 32 * ρ 11) = ρ 14 := m13
  have m14 : γ 0 78 0 (ρ 12 + 8 * ρ 11) = ρ 15 := m14
  have m15 : γ 0 15 0 36 = ρ 16 := m15
  have m16 : γ 0 15 0 40 = ρ 17 := m16
  have m17 : γ 0 15 0 45 = ρ 18 := m17
  have m18 : γ 1 15 0 35 = ρ 22 := m18
  have m19 : γ 1 15 0 8 = ρ 23 := m19
  have m20 : γ 1 15 0 9 = ρ 24 := m20
  have m21 : γ 1 15 0 58 = ρ 25 := m21
  have m22 : γ 1 15 0 37 = ρ 26 := m22
  have m23 : γ 1 15 0 38 = ρ 27 := m23
  have m24 : γ 1 15 0 36 = ρ 16 := m24
  have m25 : γ 1 15 0 40 = ρ 28 := m25
  have m26 : γ 1 81 0 (4 * ρ 12 + 32 * ρ 11) = ρ 29 := m26
  have m27 : γ 2 15 0 35 = ρ 30 := m27
  have m28 : γ 1 15 0 39 = ρ 31 := m28
  have m29 : γ 3 15 0 35 = ρ 32 := m29
  have m30 : γ 3 15 0 8 = ρ 33 := m30
  have m31 : γ 3 15 0 9 = ρ 34 := m31
  have m32 : γ 3 15 0 39 = ρ 35 := m32
  have m33 : γ 3 15 0 40 = ρ 36 := m33
  have m34 : γ 3 15 0 36 = ρ 16 := m34
  have m35 : γ 3 15 0 37 = ρ 37 := m35
  have m36 : γ 3 15 0 38 = ρ 38 := m36
  have m37 : γ 6 15 0 35 = ρ 39 := m37
  have m38 : γ 5 81 0 (4 * ρ 12 + 32 * ρ 11) = ρ 41 := m38
  obtain ⟨⟨⟨⟨⟨⟨⟨-, c1⟩, c2⟩, c3⟩, c4⟩, c5⟩, c6⟩, c7⟩ := hc
  have c1 : ∀ (G : Nat) (k j : Int), ¬ rMdP m26_ G j → γ 1 G k j = γ 0 G k j := c1
  have c2 : ∀ (G : Nat) (k j : Int), ¬ rMdP m6_ G j → γ 2 G k j = γ 1 G k j := c2
  have c3 : ∀ (G : Nat) (k j : Int), ¬ rMdP m14_ G j → γ 3 G k j = γ 2 G k j := c3
  have c4 : γ 4 = rUp (γ 3) 80 0 (ρ 21 + (4 * ρ 12 + 32 * ρ 11)) (ρ 36) := c4
  have c5 : γ 5 = rUp (γ 4) 81 0 (ρ 21 + (4 * ρ 12 + 32 * ρ 11)) (ρ 35) := c5
  have c6 : ∀ (G : Nat) (k j : Int), ¬ rMdP m6_ G j → γ 6 G k j = γ 5 G k j := c6
  have c7 : ∀ (G : Nat) (k j : Int), ¬ rMdP m0_ G j → γ 7 G k j = γ 6 G k j := c7
  obtain ⟨l0, l1, l2, l3, l4, l5, l6, -⟩ := hl
  have l0 : sn7 [ρ 22, ρ 2] (γ 1) 0 0 (γ 2) := hS7 _ _ _ _ _ l0
  have l1 : sn20 [1, ρ 30, ρ 2, ρ 23, ρ 24, ρ 31, ρ 28, ρ 16, ρ 26, ρ 27, ρ 11] (γ 2) 0 1 (γ 3) := hS20 _ _ _ _ _ l1
  have l2 : ρ 36 ≠ 1 := l2
  have l3 : ρ 36 ≠ 1 := l3
  have l4 : sn7 [ρ 32, ρ 2] (γ 5) 0 0 (γ 6) := hS7 _ _ _ _ _ l4
  have l5 : sn6 [ρ 39, ρ 2] (γ 6) 0 (ρ 40) (γ 7) := hS6 _ _ _ _ _ l5
  have l6 : ρ 40 ≠ 44 := l6
  show jn41 [ρ 0, ρ 1, ρ 2, ρ 3, ρ 4, ρ 5, ρ 6, ρ 7, ρ 8, ρ 9, ρ 10, ρ 11, ρ 12, ρ 13, ρ 14, ρ 15, ρ 16, ρ 17, ρ 18] (γ 0) 0 [ρ 0, ρ 1, ρ 2, ρ 3, ρ 4, ρ 5, ρ 6, ρ 7, ρ 8, ρ 9, ρ 10, ρ 11, ρ 12, ρ 13, ρ 14, ρ 15, ρ 16, ρ 17, ρ 18, 0, ρ 20, ρ 21 + 1, ρ 39, ρ 33, ρ 34, ρ 25, ρ 37, ρ 38, ρ 36, ρ 41] (γ 7)
  have hD : en41 (γ 0) (0, [ρ 0, ρ 19, ρ 20, ρ 21], γ 1) = .inl (0, [ρ 0, 0, ρ 20, ρ 21 + 1], γ 7) := by
    unfold en41
    refine (if_pos (show (0 : Nat) = 0 by decide)).trans ?_
    refine (zLet_eq (show _ = γ 1 from rfl)).trans ?_
    refine (zLet_eq (show _ = ρ 0 from rfl)).trans ?_
    refine (zLet_eq (show _ = ρ 19 from rfl)).trans ?_
    refine (zLet_eq (show _ = ρ 20 from rfl)).trans ?_
    refine (zLet_eq (show _ = ρ 21 from rfl)).trans ?_
    refine (zLet_eq m1).trans ?_
    refine (zLet_eq m5).trans ?_
    refine (zLet_eq m6).trans ?_
    refine (zLet_eq m7).trans ?_
    refine (zLet_eq m10).trans ?_
    refine (zLet_eq m11).trans ?_
    refine (zLet_eq m17).trans ?_
    refine (if_neg (show ¬ (ρ 19 = 0) by omega)).trans ?_
    refine (zLet_eq (show fn7 [] (γ 1) = (0, 0, γ 2) from l0.symm)).trans ?_
    refine (zLet_eq (show _ = γ 2 from rfl)).trans ?_
    refine (zLet_eq m27).trans ?_
    refine (if_pos (show ρ 21 ≠ 4 by omega)).trans ?_
    refine (zLet_eq (show fn20 [1] (γ 2) = (0, 1, γ 3) from l1.symm)).trans ?_
    refine (zLet_eq (show _ = γ 3 from rfl)).trans ?_
    refine (if_pos (show (1 : Int) ≤ 1 by omega)).trans ?_
    refine (zLet_eq m32).trans ?_
    refine (zLet_eq m33).trans ?_
    refine (zLet_eq c4.symm).trans ?_
    refine (zLet_eq c5.symm).trans ?_
    refine (if_pos (show ρ 36 ≠ 1 by omega)).trans ?_
    refine (if_pos (show ρ 36 ≠ 1 by omega)).trans ?_
    refine (zLet_eq (show fn7 [] (γ 5) = (0, 0, γ 6) from l4.symm)).trans ?_
    refine (zLet_eq (show _ = γ 6 from rfl)).trans ?_
    refine (zLet_eq m37).trans ?_
    refine (zLet_eq (show fn6 [ρ 39] (γ 6) = (0, ρ 40, γ 7) from l5.symm)).trans ?_
    refine (zLet_eq (show _ = γ 7 from rfl)).trans ?_
    refine (if_pos (show 0 ≤ -ρ 39 + ρ 2 + (-1) by omega)).trans ?_
    refine (zLet_eq (show _ = ρ 40 from rfl)).trans ?_
    refine (if_pos (show ρ 40 ≠ 44 by omega)).trans ?_
    rfl
  exact zGoo_ato hJ hD
theorem vn41a0_8 {S : Nat → zSpc} (hS6 : ∀ x g o v gz, S 6 x g o v gz → sn6 x g o v gz) (hS7 : ∀ x g o v gz, S 7 x g o v gz → sn7 x g o v gz) (hS8 : ∀ x g o v gz, S 8 x g o v gz → sn8 x g o v gz) (hS20 : ∀ x g o v gz, S 20 x g o v gz → sn20 x g o v gz) (hS21 : ∀ x g o v gz, S 21 x g o v gz → sn21 x g o v gz) (hS24 : ∀ x g o v gz, S 24 x g o v gz → sn24 x g o v gz) (hS25 : ∀ x g o v gz, S 25 x g o v gz → sn25 x g o v gz) (hS33 : ∀ x g o v gz, S 33 x g o v gz → sn33 x g o v gz) (hS39 : ∀ x g o v gz, S 39 x g o v gz → sn39 x g o v gz) {a : List Int} {g : rHp} : ∀ (ρ : Nat → Int) (γ : Nat → rHp), jn41 a g 0 (zAg (zNA a41_ 0) ρ) (γ 1) → zO 19 S a g q41a0_8 ρ γ → zGl (fun i vs g1 => jn41 a g i vs g1) (sn41 a g) q41a0_8 ρ γ := by
  intro ρ γ hJ h
  obtain ⟨ha, hg, hr, hf, hm, hc, hl⟩ := h
  have ha : a = [ρ 0, ρ 1, ρ 2, ρ 3, ρ 4, ρ 5, ρ 6, ρ 7, ρ 8, ρ 9, ρ 10, ρ 11, ρ 12, ρ 13, ρ 14, ρ 15, ρ 16, ρ 17, ρ 18] := ha
  subst ha
  subst hg
  have hJ : jn41 [ρ 0, ρ 1, ρ 2, ρ 3, ρ 4, ρ 5, ρ 6, ρ 7, ρ 8, ρ 9, ρ 10, ρ 11, ρ 12, ρ 13, ρ 14, ρ 15, ρ 16, ρ 17, ρ 18] (γ 0) 0 [ρ 0, ρ 1, ρ 2, ρ 3, ρ 4, ρ 5, ρ 6, ρ 7, ρ 8, ρ 9, ρ 10, ρ 11, ρ 12, ρ 13, ρ 14, ρ 15, ρ 16, ρ 17, ρ 18, ρ 19, ρ 20, ρ 21, ρ 22, ρ 23, ρ 24, ρ 25, ρ 26, ρ 27, ρ 28, ρ 29] (γ 1) := hJ
  obtain ⟨r0, r1, r2, r3, r4, r5, r6, r7, r8, r9, r10, r11, r12, r13, r14, r15, r16, r17, r18, r19, r20, r21, r22, r23, r24, r25, r26, r27, r28, r29, r30, r31, r32, r33, r34, r35, r36, r37, r38, r39, r40, r41, -⟩ := hr
  have r0 : (0 : Int) ≤ ρ 0 ∧ ρ 0 ≤ 1 := r0
  have r1 : (0 : Int) ≤ ρ 1 ∧ ρ 1 ≤ 2000 := r1
  have r2 : (1 : Int) ≤ ρ 2 ∧ ρ 2 ≤ 2000 := r2
  have r3 : (0 : Int) ≤ ρ 3 ∧ ρ 3 ≤ 12288 := r3
  have r4 : (0 : Int) ≤ ρ 4 ∧ ρ 4 ≤ 12288 := r4
  have r5 : (0 : Int) ≤ ρ 5 ∧ ρ 5 ≤ 64 := r5
  have r6 : (0 : Int) ≤ ρ 6 ∧ ρ 6 ≤ 2000 := r6
  have r7 : (0 : Int) ≤ ρ 7 ∧ ρ 7 ≤ 12 := r7
  have r8 : (0 : Int) ≤ ρ 8 ∧ ρ 8 ≤ 20 := r8
  have r9 : (0 : Int) ≤ ρ 9 ∧ ρ 9 ≤ 60 := r9
  have r10 : (0 : Int) ≤ ρ 10 ∧ ρ 10 ≤ 60 := r10
  have r11 : (0 : Int) ≤ ρ 11 ∧ ρ 11 ≤ 61 := r11
  have r12 : (0 : Int) ≤ ρ 12 ∧ ρ 12 ≤ 7 := r12
  have r13 : (0 : Int) ≤ ρ 13 ∧ ρ 13 ≤ 7 := r13
  have r14 : ((-2147483648) : Int) ≤ ρ 14 ∧ ρ 14 ≤ 1099511640064 := r14
  have r15 : (0 : Int) ≤ ρ 15 ∧ ρ 15 ≤ 19 := r15
  have r16 : (0 : Int) ≤ ρ 16 ∧ ρ 16 ≤ 2000 := r16
  have r17 : (0 : Int) ≤ ρ 17 ∧ ρ 17 ≤ 3 := r17
  have r18 : ((-2147483648) : Int) ≤ ρ 18 ∧ ρ 18 ≤ 2147483647 := r18
  have r19 : (1 : Int) ≤ ρ 19 ∧ ρ 19 ≤ 1 := r19
  have r20 : ((-2147483648) : Int) ≤ ρ 20 ∧ ρ 20 ≤ 2147483647 := r20
  have r21 : (0 : Int) ≤ ρ 21 ∧ ρ 21 ≤ 3 := r21
  have r22 : (1 : Int) ≤ ρ 22 ∧ ρ 22 ≤ 2000 := r22
  have r23 : (0 : Int) ≤ ρ 23 ∧ ρ 23 ≤ 12288 := r23
  have r24 : (0 : Int) ≤ ρ 24 ∧ ρ 24 ≤ 12288 := r24
  have r25 : (0 : Int) ≤ ρ 25 ∧ ρ 25 ≤ 40 := r25
  have r26 : (0 : Int) ≤ ρ 26 ∧ ρ 26 ≤ 2000 := r26
  have r27 : (0 : Int) ≤ ρ 27 ∧ ρ 27 ≤ 2000 := r27
  have r28 : (0 : Int) ≤ ρ 28 ∧ ρ 28 ≤ 3 := r28
  have r29 : ((-2147483648) : Int) ≤ ρ 29 ∧ ρ 29 ≤ 1099511640064 := r29
  have r30 : (0 : Int) ≤ ρ 30 ∧ ρ 30 ≤ 2000 := r30
  have r31 : ((-2147483648) : Int) ≤ ρ 31 ∧ ρ 31 ≤ 1099511640064 := r31
  have r32 : (1 : Int) ≤ ρ 32 ∧ ρ 32 ≤ 2000 := r32
  have r33 : (0 : Int) ≤ ρ 33 ∧ ρ 33 ≤ 12288 := r33
  have r34 : (0 : Int) ≤ ρ 34 ∧ ρ 34 ≤ 12288 := r34
  have r35 : ((-2147483648) : Int) ≤ ρ 35 ∧ ρ 35 ≤ 1099511640064 := r35
  have r36 : (0 : Int) ≤ ρ 36 ∧ ρ 36 ≤ 2 := r36
  have r37 : (0 : Int) ≤ ρ 37 ∧ ρ 37 ≤ 2000 := r37
  have r38 : (0 : Int) ≤ ρ 38 ∧ ρ 38 ≤ 2000 := r38
  have r39 : (0 : Int) ≤ ρ 39 ∧ ρ 39 ≤ 2000 := r39
  have r40 : (44 : Int) ≤ ρ 40 ∧ ρ 40 ≤ 44 := r40
  have r41 : ((-2147483648) : Int) ≤ ρ 41 ∧ ρ 41 ≤ 1099511640064 := r41
  obtain ⟨f0, f1, f2, f3, f4, f5, f6, f7, f8, f9, f10, f11, f12, f13, f14, f15, f16, f17, f18, f19, f20, f21, f22, f23, f24, f25, f26, f27, f28, f29, f30, f31, f32, f33, -⟩ := hf
  have f0 : (0 : Int) ≤ -ρ 39 + ρ 2 + (-1) := f0
  have f1 : (0 : Int) ≤ -ρ 32 + ρ 2 := f1
  have f2 : (0 : Int) ≤ ρ 39 + -ρ 32 := f2
  have f3 : (0 : Int) ≤ -ρ 39 + ρ 2 := f3
  have f4 : (0 : Int) ≤ ρ 30 + (-ρ 23 + -ρ 2) + 12288 := f4
  have f5 : (0 : Int) ≤ ρ 30 + (-ρ 24 + -ρ 2) + 12288 := f5
  have f6 : (0 : Int) ≤ -ρ 30 + ρ 2 := f6
  have f7 : (0 : Int) ≤ ρ 32 + -ρ 30 + (-1) := f7
  have f8 : (0 : Int) ≤ ρ 33 + -ρ 23 := f8
  have f9 : (0 : Int) ≤ ρ 34 + -ρ 24 := f9
  have f10 : (0 : Int) ≤ -ρ 30 + ρ 2 + (-1) := f10
  have f11 : (0 : Int) ≤ -ρ 33 + (ρ 32 + (-ρ 30 + ρ 23)) := f11
  have f12 : (0 : Int) ≤ -ρ 34 + (ρ 32 + (-ρ 30 + ρ 24)) := f12
  have f13 : (0 : Int) ≤ -ρ 22 + ρ 2 := f13
  have f14 : (0 : Int) ≤ ρ 30 + -ρ 22 := f14
  have f15 : (0 : Int) ≤ -ρ 25 + (ρ 21 + 4 * ρ 12) + 6 := f15
  have f16 : (0 : Int) ≤ -ρ 25 + 4 * ρ 12 + 10 := f16
  have f17 : (0 : Int) ≤ -ρ 24 + (ρ 22 + -ρ 2) + 12288 := f17
  have f18 : (0 : Int) ≤ -ρ 23 + (ρ 22 + -ρ 2) + 12288 := f18
  have f19 : (0 : Int) ≤ -ρ 24 + (ρ 22 + (ρ 4 + -ρ 1)) := f19
  have f20 : (0 : Int) ≤ -ρ 23 + (ρ 22 + (ρ 3 + -ρ 1)) := f20
  have f21 : (0 : Int) ≤ -ρ 7 + -ρ 6 + 2000 := f21
  have f22 : (0 : Int) ≤ -ρ 21 + ρ 2 := f22
  have f23 : (0 : Int) ≤ ρ 25 + -ρ 5 := f23
  have f24 : (0 : Int) ≤ ρ 24 + -ρ 4 := f24
  have f25 : (0 : Int) ≤ ρ 23 + -ρ 3 := f25
  have f26 : (0 : Int) ≤ ρ 22 + -ρ 1 + (-1) := f26
  have f27 : (0 : Int) ≤ ρ 22 + -ρ 21 + (-1) := f27
  have f28 : (0 : Int) ≤ 4 * ρ 12 + -ρ 5 + 6 := f28
  have f29 : (0 : Int) ≤ -ρ 11 + (ρ 10 + ρ 9) := f29
  have f30 : (0 : Int) ≤ ρ 11 + (-ρ 10 + -ρ 9) := f30
  have f31 : (0 : Int) ≤ ρ 2 + -ρ 1 + (-1) := f31
  have f32 : (0 : Int) ≤ -ρ 4 + (-ρ 2 + ρ 1) + 12288 := f32
  have f33 : (0 : Int) ≤ -ρ 3 + (-ρ 2 + ρ 1) + 12288 := f33
  obtain ⟨m0, m1, m2, m3, m4, m5, m6, m7, m8, m9, m10, m11, m12, m13, m14, m15, m16, m17, m18, m19, m20, m21, m22, m23, m24, m25, m26, m27, m28, m29, m30, m31, m32, m33, m34, m35, m36, m37, m38, -⟩ := hm
  have m0 : γ 0 15 0 35 = ρ 1 := m0
  have m1 : γ 0 15 0 34 = ρ 2 := m1
  have m2 : γ 0 15 0 8 = ρ 3 := m2
  have m3 : γ 0 15 0 9 = ρ 4 := m3
  have m4 : γ 0 15 0 58 = ρ 5 := m4
  have m5 : γ 0 15 0 37 = ρ 6 := m5
  have m6 : γ 0 15 0 38 = ρ 7 := m6
  have m7 : γ 0 15 0 14 = ρ 8 := m7
  have m8 : γ 0 15 0 32 = ρ 9 := m8
  have m9 : γ 0 15 0 33 = ρ 10 := m9
  have m10 : γ 0 15 0 44 = ρ 11 := m10
  have m11 : γ 0 73 0 (ρ 11) = ρ 12 := m11
  have m12 : γ 0 77 0 (ρ 12 + 8 * ρ 11) = ρ 13 := m12
  have m13 : γ 0 81 0 (4 * ρ 12 + 32 * ρ 11) = ρ 14 := m13
  have m14 : γ 0 78 0 (ρ 12 + 8 * ρ 11) = ρ 15 := m14
  have m15 : γ 0 15 0 36 = ρ 16 := m15
  have m16 : γ 0 15 0 40 = ρ 17 := m16
  have m17 : γ 0 15 0 45 = ρ 18 := m17
  have m18 : γ 1 15 0 35 = ρ 22 := m18
  have m19 : γ 1 15 0 8 = ρ 23 := m19
  have m20 : γ 1 15 0 9 = ρ 24 := m20
  have m21 : γ 1 15 0 58 = ρ 25 := m21
  have m22 : γ 1 15 0 37 = ρ 26 := m22
  have m23 : γ 1 15 0 38 = ρ 27 := m23
  have m24 : γ 1 15 0 36 = ρ 16 := m24
  have m25 : γ 1 15 0 40 = ρ 28 := m25
  have m26 : γ 1 81 0 (4 * ρ 12 + 32 * ρ 11) = ρ 29 := m26
  have m27 : γ 2 15 0 35 = ρ 30 := m27
  have m28 : γ 1 15 0 39 = ρ 31 := m28
  have m29 : γ 3 15 0 35 = ρ 32 := m29
  have m30 : γ 3 15 0 8 = ρ 33 := m30
  have m31 : γ 3 15 0 9 = ρ 34 := m31
  have m32 : γ 3 15 0 39 = ρ 35 := m32
  have m33 : γ 3 15 0 40 = ρ 36 := m33
  have m34 : γ 3 15 0 36 = ρ 16 := m34
  have m35 : γ 3 15 0 37 = ρ 37 := m35
  have m36 : γ 3 15 0 38 = ρ 38 := m36
  have m37 : γ 6 15 0 35 = ρ 39 := m37
  have m38 : γ 5 81 0 (4 * ρ 12 + 32 * ρ 11) = ρ 41 := m38
  obtain ⟨⟨⟨⟨⟨⟨⟨⟨-, c1⟩, c2⟩, c3⟩, c4⟩, c5⟩, c6⟩, c7⟩, c8⟩ := hc
  have c1 : ∀ (G : Nat) (k j : Int), ¬ rMdP m26_ G j → γ 1 G k j = γ 0 G k j := c1
  have c2 : ∀ (G : Nat) (k j : Int), ¬ rMdP m6_ G j → γ 2 G k j = γ 1 G k j := c2
  have c3 : ∀ (G : Nat) (k j : Int), ¬ rMdP m14_ G j → γ 3 G k j = γ 2 G k j := c3
  have c4 : γ 4 = rUp (γ 3) 80 0 (ρ 21 + (4 * ρ 12 + 32 * ρ 11)) (ρ 36) := c4
  have c5 : γ 5 = rUp (γ 4) 81 0 (ρ 21 + (4 * ρ 12 + 32 * ρ 11)) (ρ 35) := c5
  have c6 : ∀ (G : Nat) (k j : Int), ¬ rMdP m6_ G j → γ 6 G k j = γ 5 G k j := c6
  have c7 : ∀ (G : Nat) (k j : Int), ¬ rMdP m0_ G j → γ 7 G k j = γ 6 G k j := c7
  have c8 : γ 8 = rUp (γ 7) 15 0 35 (ρ 39 + 1) := c8
  obtain ⟨l0, l1, l2, l3, l4, l5, -⟩ := hl
  have l0 : sn7 [ρ 22, ρ 2] (γ 1) 0 0 (γ 2) := hS7 _ _ _ _ _ l0
  have l1 : sn20 [1, ρ 30, ρ 2, ρ 23, ρ 24, ρ 31, ρ 28, ρ 16, ρ 26, ρ 27, ρ 11] (γ 2) 0 1 (γ 3) := hS20 _ _ _ _ _ l1
  have l2 : ρ 36 ≠ 1 := l2
  have l3 : ρ 36 ≠ 1 := l3
  have l4 : sn7 [ρ 32, ρ 2] (γ 5) 0 0 (γ 6) := hS7 _ _ _ _ _ l4
  have l5 : sn6 [ρ 39, ρ 2] (γ 6) 0 (ρ 40) (γ 7) := hS6 _ _ _ _ _ l5
  show jn41 [ρ 0, ρ 1, ρ 2, ρ 3, ρ 4, ρ 5, ρ 6, ρ 7, ρ 8, ρ 9, ρ 10, ρ 11, ρ 12, ρ 13, ρ 14, ρ 15, ρ 16, ρ 17, ρ 18] (γ 0) 0 [ρ 0, ρ 1, ρ 2, ρ 3, ρ 4, ρ 5, ρ 6, ρ 7, ρ 8, ρ 9, ρ 10, ρ 11, ρ 12, ρ 13, ρ 14, ρ 15, ρ 16, ρ 17, ρ 18, 1, ρ 20, ρ 21 + 1, ρ 39 + 1, ρ 33, ρ 34, ρ 25, ρ 37, ρ 38, ρ 36, ρ 41] (γ 8)
  have hD : en41 (γ 0) (0, [ρ 0, ρ 19, ρ 20, ρ 21], γ 1) = .inl (0, [ρ 0, 1, ρ 20, ρ 21 + 1], γ 8) := by
    unfold en41
    refine (if_pos (show (0 : Nat) = 0 by decide)).trans ?_
    refine (zLet_eq (show _ = γ 1 from rfl)).trans ?_
    refine (zLet_eq (show _ = ρ 0 from rfl)).trans ?_
    refine (zLet_eq (show _ = ρ 19 from rfl)).trans ?_
    refine (zLet_eq (show _ = ρ 20 from rfl)).trans ?_
    refine (zLet_eq (show _ = ρ 21 from rfl)).trans ?_
    refine (zLet_eq m1).trans ?_
    refine (zLet_eq m5).trans ?_
    refine (zLet_eq m6).trans ?_
    refine (zLet_eq m7).trans ?_
    refine (zLet_eq m10).trans ?_
    refine (zLet_eq m11).trans ?_
    refine (zLet_eq m17).trans ?_
    refine (if_neg (show ¬ (ρ 19 = 0) by omega)).trans ?_
    refine (zLet_eq (show fn7 [] (γ 1) = (0, 0, γ 2) from l0.symm)).trans ?_
    refine (zLet_eq (show _ = γ 2 from rfl)).trans ?_
    refine (zLet_eq m27).trans ?_
    refine (if_pos (show ρ 21 ≠ 4 by omega)).trans ?_
    refine (zLet_eq (show fn20 [1] (γ 2) = (0, 1, γ 3) from l1.symm)).trans ?_
    refine (zLet_eq (show _ = γ 3 from rfl)).trans ?_
    refine (if_pos (show (1 : Int) ≤ 1 by omega)).trans ?_
    refine (zLet_eq m32).trans ?_
    refine (zLet_eq m33).trans ?_
    refine (zLet_eq c4.symm).trans ?_
    refine (zLet_eq c5.symm).trans ?_
    refine (if_pos (show ρ 36 ≠ 1 by omega)).trans ?_
    refine (if_pos (show ρ 36 ≠ 1 by omega)).trans ?_
    refine (zLet_eq (show fn7 [] (γ 5) = (0, 0, γ 6) from l4.symm)).trans ?_
    refine (zLet_eq (show _ = γ 6 from rfl)).trans ?_
    refine (zLet_eq m37).trans ?_
    refine (zLet_eq (show fn6 [ρ 39] (γ 6) = (0, ρ 40, γ 7) from l5.symm)).trans ?_
    refine (zLet_eq (show _ = γ 7 from rfl)).trans ?_
    refine (if_pos (show 0 ≤ -ρ 39 + ρ 2 + (-1) by omega)).trans ?_
    refine (zLet_eq (show _ = ρ 40 from rfl)).trans ?_
    refine (if_neg (show ¬ (ρ 40 ≠ 44) by omega)).trans ?_
    refine (zLet_eq c8.symm).trans ?_
    rfl
  exact zGoo_ato hJ hD
theorem vn41a0_9 {S : Nat → zSpc} (hS6 : ∀ x g o v gz, S 6 x g o v gz → sn6 x g o v gz) (hS7 : ∀ x g o v gz, S 7 x g o v gz → sn7 x g o v gz) (hS8 : ∀ x g o v gz, S 8 x g o v gz → sn8 x g o v gz) (hS20 : ∀ x g o v gz, S 20 x g o v gz → sn20 x g o v gz) (hS21 : ∀ x g o v gz, S 21 x g o v gz → sn21 x g o v gz) (hS24 : ∀ x g o v gz, S 24 x g o v gz → sn24 x g o v gz) (hS25 : ∀ x g o v gz, S 25 x g o v gz → sn25 x g o v gz) (hS33 : ∀ x g o v gz, S 33 x g o v gz → sn33 x g o v gz) (hS39 : ∀ x g o v gz, S 39 x g o v gz → sn39 x g o v gz) {a : List Int} {g : rHp} : ∀ (ρ : Nat → Int) (γ : Nat → rHp), jn41 a g 0 (zAg (zNA a41_ 0) ρ) (γ 1) → zO 19 S a g q41a0_9 ρ γ → zGl (fun i vs g1 => jn41 a g i vs g1) (sn41 a g) q41a0_9 ρ γ := by
  intro ρ γ hJ h
  obtain ⟨ha, hg, hr, hf, hm, hc, hl⟩ := h
  have ha : a = [ρ 0, ρ 1, ρ 2, ρ 3, ρ 4, ρ 5, ρ 6, ρ 7, ρ 8, ρ 9, ρ 10, ρ 11, ρ 12, ρ 13, ρ 14, ρ 15, ρ 16, ρ 17, ρ 18] := ha
  subst ha
  subst hg
  have hJ : jn41 [ρ 0, ρ 1, ρ 2, ρ 3, ρ 4, ρ 5, ρ 6, ρ 7, ρ 8, ρ 9, ρ 10, ρ 11, ρ 12, ρ 13, ρ 14, ρ 15, ρ 16, ρ 17, ρ 18] (γ 0) 0 [ρ 0, ρ 1, ρ 2, ρ 3, ρ 4, ρ 5, ρ 6, ρ 7, ρ 8, ρ 9, ρ 10, ρ 11, ρ 12, ρ 13, ρ 14, ρ 15, ρ 16, ρ 17, ρ 18, ρ 19, ρ 20, ρ 21, ρ 22, ρ 23, ρ 24, ρ 25, ρ 26, ρ 27, ρ 28, ρ 29] (γ 1) := hJ
  obtain ⟨r0, r1, r2, r3, r4, r5, r6, r7, r8, r9, r10, r11, r12, r13, r14, r15, r16, r17, r18, r19, r20, r21, r22, r23, r24, r25, r26, r27, r28, r29, r30, r31, r32, r33, r34, r35, r36, r37, r38, r39, r40, -⟩ := hr
  have r0 : (0 : Int) ≤ ρ 0 ∧ ρ 0 ≤ 1 := r0
  have r1 : (0 : Int) ≤ ρ 1 ∧ ρ 1 ≤ 2000 := r1
  have r2 : (1 : Int) ≤ ρ 2 ∧ ρ 2 ≤ 2000 := r2
  have r3 : (0 : Int) ≤ ρ 3 ∧ ρ 3 ≤ 12288 := r3
  have r4 : (0 : Int) ≤ ρ 4 ∧ ρ 4 ≤ 12288 := r4
  have r5 : (0 : Int) ≤ ρ 5 ∧ ρ 5 ≤ 64 := r5
  have r6 : (0 : Int) ≤ ρ 6 ∧ ρ 6 ≤ 2000 := r6
  have r7 : (0 : Int) ≤ ρ 7 ∧ ρ 7 ≤ 12 := r7
  have r8 : (0 : Int) ≤ ρ 8 ∧ ρ 8 ≤ 20 := r8
  have r9 : (0 : Int) ≤ ρ 9 ∧ ρ 9 ≤ 60 := r9
  have r10 : (0 : Int) ≤ ρ 10 ∧ ρ 10 ≤ 60 := r10
  have r11 : (0 : Int) ≤ ρ 11 ∧ ρ 11 ≤ 61 := r11
  have r12 : (0 : Int) ≤ ρ 12 ∧ ρ 12 ≤ 7 := r12
  have r13 : (0 : Int) ≤ ρ 13 ∧ ρ 13 ≤ 7 := r13
  have r14 : ((-2147483648) : Int) ≤ ρ 14 ∧ ρ 14 ≤ 1099511640064 := r14
  have r15 : (0 : Int) ≤ ρ 15 ∧ ρ 15 ≤ 19 := r15
  have r16 : (0 : Int) ≤ ρ 16 ∧ ρ 16 ≤ 2000 := r16
  have r17 : (0 : Int) ≤ ρ 17 ∧ ρ 17 ≤ 3 := r17
  have r18 : ((-2147483648) : Int) ≤ ρ 18 ∧ ρ 18 ≤ 2147483647 := r18
  have r19 : (1 : Int) ≤ ρ 19 ∧ ρ 19 ≤ 1 := r19
  have r20 : ((-2147483648) : Int) ≤ ρ 20 ∧ ρ 20 ≤ 2147483647 := r20
  have r21 : (0 : Int) ≤ ρ 21 ∧ ρ 21 ≤ 3 := r21
  have r22 : (1 : Int) ≤ ρ 22 ∧ ρ 22 ≤ 2000 := r22
  have r23 : (0 : Int) ≤ ρ 23 ∧ ρ 23 ≤ 12288 := r23
  have r24 : (0 : Int) ≤ ρ 24 ∧ ρ 24 ≤ 12288 := r24
  have r25 : (0 : Int) ≤ ρ 25 ∧ ρ 25 ≤ 40 := r25
  have r26 : (0 : Int) ≤ ρ 26 ∧ ρ 26 ≤ 2000 := r26
  have r27 : (0 : Int) ≤ ρ 27 ∧ ρ 27 ≤ 2000 := r27
  have r28 : (0 : Int) ≤ ρ 28 ∧ ρ 28 ≤ 3 := r28
  have r29 : ((-2147483648) : Int) ≤ ρ 29 ∧ ρ 29 ≤ 1099511640064 := r29
  have r30 : (0 : Int) ≤ ρ 30 ∧ ρ 30 ≤ 2000 := r30
  have r31 : ((-2147483648) : Int) ≤ ρ 31 ∧ ρ 31 ≤ 1099511640064 := r31
  have r32 : (1 : Int) ≤ ρ 32 ∧ ρ 32 ≤ 2000 := r32
  have r33 : (0 : Int) ≤ ρ 33 ∧ ρ 33 ≤ 12288 := r33
  have r34 : (0 : Int) ≤ ρ 34 ∧ ρ 34 ≤ 12288 := r34
  have r35 : ((-2147483648) : Int) ≤ ρ 35 ∧ ρ 35 ≤ 1099511640064 := r35
  have r36 : (0 : Int) ≤ ρ 36 ∧ ρ 36 ≤ 2 := r36
  have r37 : (0 : Int) ≤ ρ 37 ∧ ρ 37 ≤ 2000 := r37
  have r38 : (0 : Int) ≤ ρ 38 ∧ ρ 38 ≤ 2000 := r38
  have r39 : (0 : Int) ≤ ρ 39 ∧ ρ 39 ≤ 2000 := r39
  have r40 : ((-2147483648) : Int) ≤ ρ 40 ∧ ρ 40 ≤ 1099511640064 := r40
  obtain ⟨f0, f1, f2, f3, f4, f5, f6, f7, f8, f9, f10, f11, f12, f13, f14, f15, f16, f17, f18, f19, f20, f21, f22, f23, f24, f25, f26, f27, f28, f29, f30, f31, f32, f33, -⟩ := hf
  have f0 : (0 : Int) ≤ ρ 39 + -ρ 2 := f0
  have f1 : (0 : Int) ≤ -ρ 32 + ρ 2 := f1
  have f2 : (0 : Int) ≤ ρ 39 + -ρ 32 := f2
  have f3 : (0 : Int) ≤ -ρ 39 + ρ 2 := f3
  have f4 : (0 : Int) ≤ ρ 30 + (-ρ 23 + -ρ 2) + 12288 := f4
  have f5 : (0 : Int) ≤ ρ 30 + (-ρ 24 + -ρ 2) + 12288 := f5
  have f6 : (0 : Int) ≤ -ρ 30 + ρ 2 := f6
  have f7 : (0 : Int) ≤ ρ 32 + -ρ 30 + (-1) := f7
  have f8 : (0 : Int) ≤ ρ 33 + -ρ 23 := f8
  have f9 : (0 : Int) ≤ ρ 34 + -ρ 24 := f9
  have f10 : (0 : Int) ≤ -ρ 30 + ρ 2 + (-1) := f10
  have f11 : (0 : Int) ≤ -ρ 33 + (ρ 32 + (-ρ 30 + ρ 23)) := f11
  have f12 : (0 : Int) ≤ -ρ 34 + (ρ 32 + (-ρ 30 + ρ 24)) := f12
  have f13 : (0 : Int) ≤ -ρ 22 + ρ 2 := f13
  have f14 : (0 : Int) ≤ ρ 30 + -ρ 22 := f14
  have f15 : (0 : Int) ≤ -ρ 25 + (ρ 21 + 4 * ρ 12) + 6 := f15
  have f16 : (0 : Int) ≤ -ρ 25 + 4 * ρ 12 + 10 := f16
  have f17 : (0 : Int) ≤ -ρ 24 + (ρ 22 + -ρ 2) + 12288 := f17
  have f18 : (0 : Int) ≤ -ρ 23 + (ρ 22 + -ρ 2) + 12288 := f18
  have f19 : (0 : Int) ≤ -ρ 24 + (ρ 22 + (ρ 4 + -ρ 1)) := f19
  have f20 : (0 : Int) ≤ -ρ 23 + (ρ 22 + (ρ 3 + -ρ 1)) := f20
  have f21 : (0 : Int) ≤ -ρ 7 + -ρ 6 + 2000 := f21
  have f22 : (0 : Int) ≤ -ρ 21 + ρ 2 := f22
  have f23 : (0 : Int) ≤ ρ 25 + -ρ 5 := f23
  have f24 : (0 : Int) ≤ ρ 24 + -ρ 4 := f24
  have f25 : (0 : Int) ≤ ρ 23 + -ρ 3 := f25
  have f26 : (0 : Int) ≤ ρ 22 + -ρ 1 + (-1) := f26
  have f27 : (0 : Int) ≤ ρ 22 + -ρ 21 + (-1) := f27
  have f28 : (0 : Int) ≤ 4 * ρ 12 + -ρ 5 + 6 := f28
  have f29 : (0 : Int) ≤ -ρ 11 + (ρ 10 + ρ 9) := f29
  have f30 : (0 : Int) ≤ ρ 11 + (-ρ 10 + -ρ 9) := f30
  have f31 : (0 : Int) ≤ ρ 2 + -ρ 1 + (-1) := f31
  have f32 : (0 : Int) ≤ -ρ 4 + (-ρ 2 + ρ 1) + 12288 := f32
  have f33 : (0 : Int) ≤ -ρ 3 + (-ρ 2 + ρ 1) + 12288 := f33
  obtain ⟨m0, m1, m2, m3, m4, m5, m6, m7, m8, m9, m10, m11, m12, m13, m14, m15, m16, m17, m18, m19, m20, m21, m22, m23, m24, m25, m26, m27, m28, m29, m30, m31, m32, m33, m34, m35, m36, m37, m38, -⟩ := hm
  have m0 : γ 0 15 0 35 = ρ 1 := m0
  have m1 : γ 0 15 0 34 = ρ 2 := m1
  have m2 : γ 0 15 0 8 = ρ 3 := m2
  have m3 : γ 0 15 0 9 = ρ 4 := m3
  have m4 : γ 0 15 0 58 = ρ 5 := m4
  have m5 : γ 0 15 0 37 = ρ 6 := m5
  have m6 : γ 0 15 0 38 = ρ 7 := m6
  have m7 : γ 0 15 0 14 = ρ 8 := m7
  have m8 : γ 0 15 0 32 = ρ 9 := m8
  have m9 : γ 0 15 0 33 = ρ 10 := m9
  have m10 : γ 0 15 0 44 = ρ 11 := m10
  have m11 : γ 0 73 0 (ρ 11) = ρ 12 := m11
  have m12 : γ 0 77 0 (ρ 12 + 8 * ρ 11) = ρ 13 := m12
  have m13 : γ 0 81 0 (4 * ρ 12 + 32 * ρ 11) = ρ 14 := m13
  have m14 : γ 0 78 0 (ρ 12 + 8 * ρ 11) = ρ 15 := m14
  have m15 : γ 0 15 0 36 = ρ 16 := m15
  have m16 : γ 0 15 0 40 = ρ 17 := m16
  have m17 : γ 0 15 0 45 = ρ 18 := m17
  have m18 : γ 1 15 0 35 = ρ 22 := m18
  have m19 : γ 1 15 0 8 = ρ 23 := m19
  have m20 : γ 1 15 0 9 = ρ 24 := m20
  have m21 : γ 1 15 0 58 = ρ 25 := m21
  have m22 : γ 1 15 0 37 = ρ 26 := m22
  have m23 : γ 1 15 0 38 = ρ 27 := m23
  have m24 : γ 1 15 0 36 = ρ 16 := m24
  have m25 : γ 1 15 0 40 = ρ 28 := m25
  have m26 : γ 1 81 0 (4 * ρ 12 + 32 * ρ 11) = ρ 29 := m26
  have m27 : γ 2 15 0 35 = ρ 30 := m27
  have m28 : γ 1 15 0 39 = ρ 31 := m28
  have m29 : γ 3 15 0 35 = ρ 32 := m29
  have m30 : γ 3 15 0 8 = ρ 33 := m30
  have m31 : γ 3 15 0 9 = ρ 34 := m31
  have m32 : γ 3 15 0 39 = ρ 35 := m32
  have m33 : γ 3 15 0 40 = ρ 36 := m33
  have m34 : γ 3 15 0 36 = ρ 16 := m34
  have m35 : γ 3 15 0 37 = ρ 37 := m35
  have m36 : γ 3 15 0 38 = ρ 38 := m36
  have m37 : γ 6 15 0 35 = ρ 39 := m37
  have m38 : γ 5 81 0 (4 * ρ 12 + 32 * ρ 11) = ρ 40 := m38
  obtain ⟨⟨⟨⟨⟨⟨⟨-, c1⟩, c2⟩, c3⟩, c4⟩, c5⟩, c6⟩, c7⟩ := hc
  have c1 : ∀ (G : Nat) (k j : Int), ¬ rMdP m26_ G j → γ 1 G k j = γ 0 G k j := c1
  have c2 : ∀ (G : Nat) (k j : Int), ¬ rMdP m6_ G j → γ 2 G k j = γ 1 G k j := c2
  have c3 : ∀ (G : Nat) (k j : Int), ¬ rMdP m14_ G j → γ 3 G k j = γ 2 G k j := c3
  have c4 : γ 4 = rUp (γ 3) 80 0 (ρ 21 + (4 * ρ 12 + 32 * ρ 11)) (ρ 36) := c4
  have c5 : γ 5 = rUp (γ 4) 81 0 (ρ 21 + (4 * ρ 12 + 32 * ρ 11)) (ρ 35) := c5
  have c6 : ∀ (G : Nat) (k j : Int), ¬ rMdP m6_ G j → γ 6 G k j = γ 5 G k j := c6
  have c7 : ∀ (G : Nat) (k j : Int), ¬ rMdP m0_ G j → γ 7 G k j = γ 6 G k j := c7
  obtain ⟨l0, l1, l2, l3, l4, l5, -⟩ := hl
  have l0 : sn7 [ρ 22, ρ 2] (γ 1) 0 0 (γ 2) := hS7 _ _ _ _ _ l0
  have l1 : sn20 [1, ρ 30, ρ 2, ρ 23, ρ 24, ρ 31, ρ 28, ρ 16, ρ 26, ρ 27, ρ 11] (γ 2) 0 1 (γ 3) := hS20 _ _ _ _ _ l1
  have l2 : ρ 36 ≠ 1 := l2
  have l3 : ρ 36 ≠ 1 := l3
  have l4 : sn7 [ρ 32, ρ 2] (γ 5) 0 0 (γ 6) := hS7 _ _ _ _ _ l4
  have l5 : sn6 [ρ 39, ρ 2] (γ 6) 0 (-1) (γ 7) := hS6 _ _ _ _ _ l5
  show jn41 [ρ 0, ρ 1, ρ 2, ρ 3, ρ 4, ρ 5, ρ 6, ρ 7, ρ 8, ρ 9, ρ 10, ρ 11, ρ 12, ρ 13, ρ 14, ρ 15, ρ 16, ρ 17, ρ 18] (γ 0) 0 [ρ 0, ρ 1, ρ 2, ρ 3, ρ 4, ρ 5, ρ 6, ρ 7, ρ 8, ρ 9, ρ 10, ρ 11, ρ 12, ρ 13, ρ 14, ρ 15, ρ 16, ρ 17, ρ 18, 0, ρ 20, ρ 21 + 1, ρ 39, ρ 33, ρ 34, ρ 25, ρ 37, ρ 38, ρ 36, ρ 40] (γ 7)
  have hD : en41 (γ 0) (0, [ρ 0, ρ 19, ρ 20, ρ 21], γ 1) = .inl (0, [ρ 0, 0, ρ 20, ρ 21 + 1], γ 7) := by
    unfold en41
    refine (if_pos (show (0 : Nat) = 0 by decide)).trans ?_
    refine (zLet_eq (show _ = γ 1 from rfl)).trans ?_
    refine (zLet_eq (show _ = ρ 0 from rfl)).trans ?_
    refine (zLet_eq (show _ = ρ 19 from rfl)).trans ?_
    refine (zLet_eq (show _ = ρ 20 from rfl)).trans ?_
    refine (zLet_eq (show _ = ρ 21 from rfl)).trans ?_
    refine (zLet_eq m1).trans ?_
    refine (zLet_eq m5).trans ?_
    refine (zLet_eq m6).trans ?_
    refine (zLet_eq m7).trans ?_
    refine (zLet_eq m10).trans ?_
    refine (zLet_eq m11).trans ?_
    refine (zLet_eq m17).trans ?_
    refine (if_neg (show ¬ (ρ 19 = 0) by omega)).trans ?_
    refine (zLet_eq (show fn7 [] (γ 1) = (0, 0, γ 2) from l0.symm)).trans ?_
    refine (zLet_eq (show _ = γ 2 from rfl)).trans ?_
    refine (zLet_eq m27).trans ?_
    refine (if_pos (show ρ 21 ≠ 4 by omega)).trans ?_
    refine (zLet_eq (show fn20 [1] (γ 2) = (0, 1, γ 3) from l1.symm)).trans ?_
    refine (zLet_eq (show _ = γ 3 from rfl)).trans ?_
    refine (if_pos (show (1 : Int) ≤ 1 by omega)).trans ?_
    refine (zLet_eq m32).trans ?_
    refine (zLet_eq m33).trans ?_
    refine (zLet_eq c4.symm).trans ?_
    refine (zLet_eq c5.symm).trans ?_
    refine (if_pos (show ρ 36 ≠ 1 by omega)).trans ?_
    refine (if_pos (show ρ 36 ≠ 1 by omega)).trans ?_
    refine (zLet_eq (show fn7 [] (γ 5) = (0, 0, γ 6) from l4.symm)).trans ?_
    refine (zLet_eq (show _ = γ 6 from rfl)).trans ?_
    refine (zLet_eq m37).trans ?_
    refine (zLet_eq (show fn6 [ρ 39] (γ 6) = (0, (-1), γ 7) from l5.symm)).trans ?_
    refine (zLet_eq (show _ = γ 7 from rfl)).trans ?_
    refine (if_neg (show ¬ (0 ≤ -ρ 39 + ρ 2 + (-1)) by omega)).trans ?_
    rfl
  exact zGoo_ato hJ hD
theorem vn41a0_10 {S : Nat → zSpc} (hS6 : ∀ x g o v gz, S 6 x g o v gz → sn6 x g o v gz) (hS7 : ∀ x g o v gz, S 7 x g o v gz → sn7 x g o v gz) (hS8 : ∀ x g o v gz, S 8 x g o v gz → sn8 x g o v gz) (hS20 : ∀ x g o v gz, S 20 x g o v gz → sn20 x g o v gz) (hS21 : ∀ x g o v gz, S 21 x g o v gz → sn21 x g o v gz) (hS24 : ∀ x g o v gz, S 24 x g o v gz → sn24 x g o v gz) (hS25 : ∀ x g o v gz, S 25 x g o v gz → sn25 x g o v gz) (hS33 : ∀ x g o v gz, S 33 x g o v gz → sn33 x g o v gz) (hS39 : ∀ x g o v gz, S 39 x g o v gz → sn39 x g o v gz) {a : List Int} {g : rHp} : ∀ (ρ : Nat → Int) (γ : Nat → rHp), jn41 a g 0 (zAg (zNA a41_ 0) ρ) (γ 1) → zO 19 S a g q41a0_10 ρ γ → zGl (fun i vs g1 => jn41 a g i vs g1) (sn41 a g) q41a0_10 ρ γ := by
  intro ρ γ hJ h
  obtain ⟨ha, hg, hr, hf, hm, hc, hl⟩ := h
  have ha : a = [ρ 0, ρ 1, ρ 2, ρ 3, ρ 4, ρ 5, ρ 6, ρ 7, ρ 8, ρ 9, ρ 10, ρ 11, ρ 12, ρ 13, ρ 14, ρ 15, ρ 16, ρ 17, ρ 18] := ha
  subst ha
  subst hg
  have hJ : jn41 [ρ 0, ρ 1, ρ 2, ρ 3, ρ 4, ρ 5, ρ 6, ρ 7, ρ 8, ρ 9, ρ 10, ρ 11, ρ 12, ρ 13, ρ 14, ρ 15, ρ 16, ρ 17, ρ 18] (γ 0) 0 [ρ 0, ρ 1, ρ 2, ρ 3, ρ 4, ρ 5, ρ 6, ρ 7, ρ 8, ρ 9, ρ 10, ρ 11, ρ 12, ρ 13, ρ 14, ρ 15, ρ 16, ρ 17, ρ 18, ρ 19, ρ 20, ρ 21, ρ 22, ρ 23, ρ 24, ρ 25, ρ 26, ρ 27, ρ 28, ρ 29] (γ 1) := hJ
  obtain ⟨r0, r1, r2, r3, r4, r5, r6, r7, r8, r9, r10, r11, r12, r13, r14, r15, r16, r17, r18, r19, r20, r21, r22, r23, r24, r25, r26, r27, r28, r29, r30, r31, r32, r33, r34, r35, r36, r37, r38, r39, r40, r41, r42, r43, r44, -⟩ := hr
  have r0 : (0 : Int) ≤ ρ 0 ∧ ρ 0 ≤ 1 := r0
  have r1 : (0 : Int) ≤ ρ 1 ∧ ρ 1 ≤ 2000 := r1
  have r2 : (1 : Int) ≤ ρ 2 ∧ ρ 2 ≤ 2000 := r2
  have r3 : (0 : Int) ≤ ρ 3 ∧ ρ 3 ≤ 12288 := r3
  have r4 : (0 : Int) ≤ ρ 4 ∧ ρ 4 ≤ 12288 := r4
  have r5 : (0 : Int) ≤ ρ 5 ∧ ρ 5 ≤ 64 := r5
  have r6 : (0 : Int) ≤ ρ 6 ∧ ρ 6 ≤ 2000 := r6
  have r7 : (0 : Int) ≤ ρ 7 ∧ ρ 7 ≤ 12 := r7
  have r8 : (0 : Int) ≤ ρ 8 ∧ ρ 8 ≤ 20 := r8
  have r9 : (0 : Int) ≤ ρ 9 ∧ ρ 9 ≤ 60 := r9
  have r10 : (0 : Int) ≤ ρ 10 ∧ ρ 10 ≤ 60 := r10
  have r11 : (0 : Int) ≤ ρ 11 ∧ ρ 11 ≤ 61 := r11
  have r12 : (0 : Int) ≤ ρ 12 ∧ ρ 12 ≤ 7 := r12
  have r13 : (0 : Int) ≤ ρ 13 ∧ ρ 13 ≤ 7 := r13
  have r14 : ((-2147483648) : Int) ≤ ρ 14 ∧ ρ 14 ≤ 1099511640064 := r14
  have r15 : (0 : Int) ≤ ρ 15 ∧ ρ 15 ≤ 19 := r15
  have r16 : (0 : Int) ≤ ρ 16 ∧ ρ 16 ≤ 2000 := r16
  have r17 : (0 : Int) ≤ ρ 17 ∧ ρ 17 ≤ 3 := r17
  have r18 : ((-2147483648) : Int) ≤ ρ 18 ∧ ρ 18 ≤ 2147483647 := r18
  have r19 : (1 : Int) ≤ ρ 19 ∧ ρ 19 ≤ 1 := r19
  have r20 : ((-2147483648) : Int) ≤ ρ 20 ∧ ρ 20 ≤ 2147483647 := r20
  have r21 : (0 : Int) ≤ ρ 21 ∧ ρ 21 ≤ 3 := r21
  have r22 : (1 : Int) ≤ ρ 22 ∧ ρ 22 ≤ 2000 := r22
  have r23 : (0 : Int) ≤ ρ 23 ∧ ρ 23 ≤ 12288 := r23
  have r24 : (0 : Int) ≤ ρ 24 ∧ ρ 24 ≤ 12288 := r24
  have r25 : (0 : Int) ≤ ρ 25 ∧ ρ 25 ≤ 40 := r25
  have r26 : (0 : Int) ≤ ρ 26 ∧ ρ 26 ≤ 2000 := r26
  have r27 : (0 : Int) ≤ ρ 27 ∧ ρ 27 ≤ 2000 := r27
  have r28 : (0 : Int) ≤ ρ 28 ∧ ρ 28 ≤ 3 := r28
  have r29 : ((-2147483648) : Int) ≤ ρ 29 ∧ ρ 29 ≤ 1099511640064 := r29
  have r30 : (0 : Int) ≤ ρ 30 ∧ ρ 30 ≤ 2000 := r30
  have r31 : ((-2147483648) : Int) ≤ ρ 31 ∧ ρ 31 ≤ 1099511640064 := r31
  have r32 : (1 : Int) ≤ ρ 32 ∧ ρ 32 ≤ 2000 := r32
  have r33 : (0 : Int) ≤ ρ 33 ∧ ρ 33 ≤ 12288 := r33
  have r34 : (0 : Int) ≤ ρ 34 ∧ ρ 34 ≤ 12288 := r34
  have r35 : ((-2147483648) : Int) ≤ ρ 35 ∧ ρ 35 ≤ 1099511640064 := r35
  have r36 : (1 : Int) ≤ ρ 36 ∧ ρ 36 ≤ 1 := r36
  have r37 : (0 : Int) ≤ ρ 37 ∧ ρ 37 ≤ 2000 := r37
  have r38 : (0 : Int) ≤ ρ 38 ∧ ρ 38 ≤ 2000 := r38
  have r39 : ((-2147483648) : Int) ≤ ρ 39 ∧ ρ 39 ≤ 2147483647 := r39
  have r40 : ((-2147483648) : Int) ≤ ρ 40 ∧ ρ 40 ≤ 2147483647 := r40
  have r41 : ((-2147483648) : Int) ≤ ρ 41 ∧ ρ 41 ≤ 2147483647 := r41
  have r42 : (0 : Int) ≤ ρ 42 ∧ ρ 42 ≤ 2000 := r42
  have r43 : ((-128) : Int) ≤ ρ 43 ∧ ρ 43 ≤ 127 := r43
  have r44 : ((-2147483648) : Int) ≤ ρ 44 ∧ ρ 44 ≤ 1099511640064 := r44
  obtain ⟨f0, f1, f2, f3, f4, f5, f6, f7, f8, f9, f10, f11, f12, f13, f14, f15, f16, f17, f18, f19, f20, f21, f22, f23, f24, f25, f26, f27, f28, f29, f30, f31, f32, f33, -⟩ := hf
  have f0 : (0 : Int) ≤ -ρ 42 + ρ 2 + (-1) := f0
  have f1 : (0 : Int) ≤ -ρ 32 + ρ 2 := f1
  have f2 : (0 : Int) ≤ ρ 42 + -ρ 32 := f2
  have f3 : (0 : Int) ≤ -ρ 42 + ρ 2 := f3
  have f4 : (0 : Int) ≤ ρ 30 + (-ρ 23 + -ρ 2) + 12288 := f4
  have f5 : (0 : Int) ≤ ρ 30 + (-ρ 24 + -ρ 2) + 12288 := f5
  have f6 : (0 : Int) ≤ -ρ 30 + ρ 2 := f6
  have f7 : (0 : Int) ≤ ρ 32 + -ρ 30 + (-1) := f7
  have f8 : (0 : Int) ≤ ρ 33 + -ρ 23 := f8
  have f9 : (0 : Int) ≤ ρ 34 + -ρ 24 := f9
  have f10 : (0 : Int) ≤ -ρ 30 + ρ 2 + (-1) := f10
  have f11 : (0 : Int) ≤ -ρ 33 + (ρ 32 + (-ρ 30 + ρ 23)) := f11
  have f12 : (0 : Int) ≤ -ρ 34 + (ρ 32 + (-ρ 30 + ρ 24)) := f12
  have f13 : (0 : Int) ≤ -ρ 22 + ρ 2 := f13
  have f14 : (0 : Int) ≤ ρ 30 + -ρ 22 := f14
  have f15 : (0 : Int) ≤ -ρ 25 + (ρ 21 + 4 * ρ 12) + 6 := f15
  have f16 : (0 : Int) ≤ -ρ 25 + 4 * ρ 12 + 10 := f16
  have f17 : (0 : Int) ≤ -ρ 24 + (ρ 22 + -ρ 2) + 12288 := f17
  have f18 : (0 : Int) ≤ -ρ 23 + (ρ 22 + -ρ 2) + 12288 := f18
  have f19 : (0 : Int) ≤ -ρ 24 + (ρ 22 + (ρ 4 + -ρ 1)) := f19
  have f20 : (0 : Int) ≤ -ρ 23 + (ρ 22 + (ρ 3 + -ρ 1)) := f20
  have f21 : (0 : Int) ≤ -ρ 7 + -ρ 6 + 2000 := f21
  have f22 : (0 : Int) ≤ -ρ 21 + ρ 2 := f22
  have f23 : (0 : Int) ≤ ρ 25 + -ρ 5 := f23
  have f24 : (0 : Int) ≤ ρ 24 + -ρ 4 := f24
  have f25 : (0 : Int) ≤ ρ 23 + -ρ 3 := f25
  have f26 : (0 : Int) ≤ ρ 22 + -ρ 1 + (-1) := f26
  have f27 : (0 : Int) ≤ ρ 22 + -ρ 21 + (-1) := f27
  have f28 : (0 : Int) ≤ 4 * ρ 12 + -ρ 5 + 6 := f28
  have f29 : (0 : Int) ≤ -ρ 11 + (ρ 10 + ρ 9) := f29
  have f30 : (0 : Int) ≤ ρ 11 + (-ρ 10 + -ρ 9) := f30
  have f31 : (0 : Int) ≤ ρ 2 + -ρ 1 + (-1) := f31
  have f32 : (0 : Int) ≤ -ρ 4 + (-ρ 2 + ρ 1) + 12288 := f32
  have f33 : (0 : Int) ≤ -ρ 3 + (-ρ 2 + ρ 1) + 12288 := f33
  obtain ⟨m0, m1, m2, m3, m4, m5, m6, m7, m8, m9, m10, m11, m12, m13, m14, m15, m16, m17, m18, m19, m20, m21, m22, m23, m24, m25, m26, m27, m28, m29, m30, m31, m32, m33, m34, m35, m36, m37, m38, -⟩ := hm
  have m0 : γ 0 15 0 35 = ρ 1 := m0
  have m1 : γ 0 15 0 34 = ρ 2 := m1
  have m2 : γ 0 15 0 8 = ρ 3 := m2
  have m3 : γ 0 15 0 9 = ρ 4 := m3
  have m4 : γ 0 15 0 58 = ρ 5 := m4
  have m5 : γ 0 15 0 37 = ρ 6 := m5
  have m6 : γ 0 15 0 38 = ρ 7 := m6
  have m7 : γ 0 15 0 14 = ρ 8 := m7
  have m8 : γ 0 15 0 32 = ρ 9 := m8
  have m9 : γ 0 15 0 33 = ρ 10 := m9
  have m10 : γ 0 15 0 44 = ρ 11 := m10
  have m11 : γ 0 73 0 (ρ 11) = ρ 12 := m11
  have m12 : γ 0 77 0 (ρ 12 + 8 * ρ 11) = ρ 13 := m12
  have m13 : γ 0 81 0 (4 * ρ 12 + 32 * ρ 11) = ρ 14 := m13
  have m14 : γ 0 78 0 (ρ 12 + 8 * ρ 11) = ρ 15 := m14
  have m15 : γ 0 15 0 36 = ρ 16 := m15
  have m16 : γ 0 15 0 40 = ρ 17 := m16
  have m17 : γ 0 15 0 45 = ρ 18 := m17
  have m18 : γ 1 15 0 35 = ρ 22 := m18
  have m19 : γ 1 15 0 8 = ρ 23 := m19
  have m20 : γ 1 15 0 9 = ρ 24 := m20
  have m21 : γ 1 15 0 58 = ρ 25 := m21
  have m22 : γ 1 15 0 37 = ρ 26 := m22
  have m23 : γ 1 15 0 38 = ρ 27 := m23
  have m24 : γ 1 15 0 36 = ρ 16 := m24
  have m25 : γ 1 15 0 40 = ρ 28 := m25
  have m26 : γ 1 81 0 (4 * ρ 12 + 32 * ρ 11) = ρ 29 := m26
  have m27 : γ 2 15 0 35 = ρ 30 := m27
  have m28 : γ 1 15 0 39 = ρ 31 := m28
  have m29 : γ 3 15 0 35 = ρ 32 := m29
  have m30 : γ 3 15 0 8 = ρ 33 := m30
  have m31 : γ 3 15 0 9 = ρ 34 := m31
  have m32 : γ 3 15 0 39 = ρ 35 := m32
  have m33 : γ 3 15 0 40 = ρ 36 := m33
  have m34 : γ 3 15 0 36 = ρ 16 := m34
  have m35 : γ 3 15 0 37 = ρ 37 := m35
  have m36 : γ 3 15 0 38 = ρ 38 := m36
  have m37 : γ 6 15 0 35 = ρ 42 := m37
  have m38 : γ 5 81 0 (4 * ρ 12 + 32 * ρ 11) = ρ 44 := m38
  obtain ⟨⟨⟨⟨⟨⟨⟨-, c1⟩, c2⟩, c3⟩, c4⟩, c5⟩, c6⟩, c7⟩ := hc
  have c1 : ∀ (G : Nat) (k j : Int), ¬ rMdP m26_ G j → γ 1 G k j = γ 0 G k j := c1
  have c2 : ∀ (G : Nat) (k j : Int), ¬ rMdP m6_ G j → γ 2 G k j = γ 1 G k j := c2
  have c3 : ∀ (G : Nat) (k j : Int), ¬ rMdP m14_ G j → γ 3 G k j = γ 2 G k j := c3
  have c4 : γ 4 = rUp (γ 3) 80 0 (ρ 21 + (4 * ρ 12 + 32 * ρ 11)) (ρ 36) := c4
  have c5 : γ 5 = rUp (γ 4) 81 0 (ρ 21 + (4 * ρ 12 + 32 * ρ 11)) (ρ 35) := c5
  have c6 : ∀ (G : Nat) (k j : Int), ¬ rMdP m6_ G j → γ 6 G k j = γ 5 G k j := c6
  have c7 : ∀ (G : Nat) (k j : Int), ¬ rMdP m0_ G j → γ 7 G k j = γ 6 G k j := c7
  obtain ⟨l0, l1, l2, l3, l4, l5, l6, l7, l8, -⟩ := hl
  have l0 : sn7 [ρ 22, ρ 2] (γ 1) 0 0 (γ 2) := hS7 _ _ _ _ _ l0
  have l1 : sn20 [1, ρ 30, ρ 2, ρ 23, ρ 24, ρ 31, ρ 28, ρ 16, ρ 26, ρ 27, ρ 11] (γ 2) 0 1 (γ 3) := hS20 _ _ _ _ _ l1
  have l2 : ρ 36 ≠ 1 := l2
  have l3 : zOpP (.l2i) (γ 0) (γ 1) [ρ 35] (ρ 39) := l3
  have l4 : zOpP (.ishl) (γ 0) (γ 1) [1, ρ 39] (ρ 40) := l4
  have l5 : zOpP (.ior) (γ 0) (γ 1) [ρ 20, ρ 40] (ρ 41) := l5
  have l6 : sn7 [ρ 32, ρ 2] (γ 5) 0 0 (γ 6) := hS7 _ _ _ _ _ l6
  have l7 : sn6 [ρ 42, ρ 2] (γ 6) 0 (ρ 43) (γ 7) := hS6 _ _ _ _ _ l7
  have l8 : ρ 43 ≠ 44 := l8
  show jn41 [ρ 0, ρ 1, ρ 2, ρ 3, ρ 4, ρ 5, ρ 6, ρ 7, ρ 8, ρ 9, ρ 10, ρ 11, ρ 12, ρ 13, ρ 14, ρ 15, ρ 16, ρ 17, ρ 18] (γ 0) 0 [ρ 0, ρ 1, ρ 2, ρ 3, ρ 4, ρ 5, ρ 6, ρ 7, ρ 8, ρ 9, ρ 10, ρ 11, ρ 12, ρ 13, ρ 14, ρ 15, ρ 16, ρ 17, ρ 18, 0, ρ 41, ρ 21 + 1, ρ 42, ρ 33, ρ 34, ρ 25, ρ 37, ρ 38, ρ 36, ρ 44] (γ 7)
  have hD : en41 (γ 0) (0, [ρ 0, ρ 19, ρ 20, ρ 21], γ 1) = .inl (0, [ρ 0, 0, ρ 41, ρ 21 + 1], γ 7) := by
    unfold en41
    refine (if_pos (show (0 : Nat) = 0 by decide)).trans ?_
    refine (zLet_eq (show _ = γ 1 from rfl)).trans ?_
    refine (zLet_eq (show _ = ρ 0 from rfl)).trans ?_
    refine (zLet_eq (show _ = ρ 19 from rfl)).trans ?_
    refine (zLet_eq (show _ = ρ 20 from rfl)).trans ?_
    refine (zLet_eq (show _ = ρ 21 from rfl)).trans ?_
    refine (zLet_eq m1).trans ?_
    refine (zLet_eq m5).trans ?_
    refine (zLet_eq m6).trans ?_
    refine (zLet_eq m7).trans ?_
    refine (zLet_eq m10).trans ?_
    refine (zLet_eq m11).trans ?_
    refine (zLet_eq m17).trans ?_
    refine (if_neg (show ¬ (ρ 19 = 0) by omega)).trans ?_
    refine (zLet_eq (show fn7 [] (γ 1) = (0, 0, γ 2) from l0.symm)).trans ?_
    refine (zLet_eq (show _ = γ 2 from rfl)).trans ?_
    refine (zLet_eq m27).trans ?_
    refine (if_pos (show ρ 21 ≠ 4 by omega)).trans ?_
    refine (zLet_eq (show fn20 [1] (γ 2) = (0, 1, γ 3) from l1.symm)).trans ?_
    refine (zLet_eq (show _ = γ 3 from rfl)).trans ?_
    refine (if_pos (show (1 : Int) ≤ 1 by omega)).trans ?_
    refine (zLet_eq m32).trans ?_
    refine (zLet_eq m33).trans ?_
    refine (zLet_eq c4.symm).trans ?_
    refine (zLet_eq c5.symm).trans ?_
    refine (if_pos (show ρ 36 ≠ 1 by omega)).trans ?_
    refine (if_neg (show ¬ (ρ 36 ≠ 1) by omega)).trans ?_
    refine (zLet_eq (zF1_ok l3)).trans ?_
    refine (zLet_eq (zF2_ok l4)).trans ?_
    refine (zLet_eq (zF2_ok l5)).trans ?_
    refine (zLet_eq (show fn7 [] (γ 5) = (0, 0, γ 6) from l6.symm)).trans ?_
    refine (zLet_eq (show _ = γ 6 from rfl)).trans ?_
    refine (zLet_eq m37).trans ?_
    refine (zLet_eq (show fn6 [ρ 42] (γ 6) = (0, ρ 43, γ 7) from l7.symm)).trans ?_
    refine (zLet_eq (show _ = γ 7 from rfl)).trans ?_
    refine (if_pos (show 0 ≤ -ρ 42 + ρ 2 + (-1) by omega)).trans ?_
    refine (zLet_eq (show _ = ρ 43 from rfl)).trans ?_
    refine (if_pos (show ρ 43 ≠ 44 by omega)).trans ?_
    rfl
  exact zGoo_ato hJ hD
theorem vn41a0_11 {S : Nat → zSpc} (hS6 : ∀ x g o v gz, S 6 x g o v gz → sn6 x g o v gz) (hS7 : ∀ x g o v gz, S 7 x g o v gz → sn7 x g o v gz) (hS8 : ∀ x g o v gz, S 8 x g o v gz → sn8 x g o v gz) (hS20 : ∀ x g o v gz, S 20 x g o v gz → sn20 x g o v gz) (hS21 : ∀ x g o v gz, S 21 x g o v gz → sn21 x g o v gz) (hS24 : ∀ x g o v gz, S 24 x g o v gz → sn24 x g o v gz) (hS25 : ∀ x g o v gz, S 25 x g o v gz → sn25 x g o v gz) (hS33 : ∀ x g o v gz, S 33 x g o v gz → sn33 x g o v gz) (hS39 : ∀ x g o v gz, S 39 x g o v gz → sn39 x g o v gz) {a : List Int} {g : rHp} : ∀ (ρ : Nat → Int) (γ : Nat → rHp), jn41 a g 0 (zAg (zNA a41_ 0) ρ) (γ 1) → zO 19 S a g q41a0_11 ρ γ → zGl (fun i vs g1 => jn41 a g i vs g1) (sn41 a g) q41a0_11 ρ γ := by
  intro ρ γ hJ h
  obtain ⟨ha, hg, hr, hf, hm, hc, hl⟩ := h
  have ha : a = [ρ 0, ρ 1, ρ 2, ρ 3, ρ 4, ρ 5, ρ 6, ρ 7, ρ 8, ρ 9, ρ 10, ρ 11, ρ 12, ρ 13, ρ 14, ρ 15, ρ 16, ρ 17, ρ 18] := ha
  subst ha
  subst hg
  have hJ : jn41 [ρ 0, ρ 1, ρ 2, ρ 3, ρ 4, ρ 5, ρ 6, ρ 7, ρ 8, ρ 9, ρ 10, ρ 11, ρ 12, ρ 13, ρ 14, ρ 15, ρ 16, ρ 17, ρ 18] (γ 0) 0 [ρ 0, ρ 1, ρ 2, ρ 3, ρ 4, ρ 5, ρ 6, ρ 7, ρ 8, ρ 9, ρ 10, ρ 11, ρ 12, ρ 13, ρ 14, ρ 15, ρ 16, ρ 17, ρ 18, ρ 19, ρ 20, ρ 21, ρ 22, ρ 23, ρ 24, ρ 25, ρ 26, ρ 27, ρ 28, ρ 29] (γ 1) := hJ
  obtain ⟨r0, r1, r2, r3, r4, r5, r6, r7, r8, r9, r10, r11, r12, r13, r14, r15, r16, r17, r18, r19, r20, r21, r22, r23, r24, r25, r26, r27, r28, r29, r30, r31, r32, r33, r34, r35, r36, r37, r38, r39, r40, r41, r42, r43, r44, -⟩ := hr
  have r0 : (0 : Int) ≤ ρ 0 ∧ ρ 0 ≤ 1 := r0
  have r1 : (0 : Int) ≤ ρ 1 ∧ ρ 1 ≤ 2000 := r1
  have r2 : (1 : Int) ≤ ρ 2 ∧ ρ 2 ≤ 2000 := r2
  have r3 : (0 : Int) ≤ ρ 3 ∧ ρ 3 ≤ 12288 := r3
  have r4 : (0 : Int) ≤ ρ 4 ∧ ρ 4 ≤ 12288 := r4
  have r5 : (0 : Int) ≤ ρ 5 ∧ ρ 5 ≤ 64 := r5
  have r6 : (0 : Int) ≤ ρ 6 ∧ ρ 6 ≤ 2000 := r6
  have r7 : (0 : Int) ≤ ρ 7 ∧ ρ 7 ≤ 12 := r7
  have r8 : (0 : Int) ≤ ρ 8 ∧ ρ 8 ≤ 20 := r8
  have r9 : (0 : Int) ≤ ρ 9 ∧ ρ 9 ≤ 60 := r9
  have r10 : (0 : Int) ≤ ρ 10 ∧ ρ 10 ≤ 60 := r10
  have r11 : (0 : Int) ≤ ρ 11 ∧ ρ 11 ≤ 61 := r11
  have r12 : (0 : Int) ≤ ρ 12 ∧ ρ 12 ≤ 7 := r12
  have r13 : (0 : Int) ≤ ρ 13 ∧ ρ 13 ≤ 7 := r13
  have r14 : ((-2147483648) : Int) ≤ ρ 14 ∧ ρ 14 ≤ 1099511640064 := r14
  have r15 : (0 : Int) ≤ ρ 15 ∧ ρ 15 ≤ 19 := r15
  have r16 : (0 : Int) ≤ ρ 16 ∧ ρ 16 ≤ 2000 := r16
  have r17 : (0 : Int) ≤ ρ 17 ∧ ρ 17 ≤ 3 := r17
  have r18 : ((-2147483648) : Int) ≤ ρ 18 ∧ ρ 18 ≤ 2147483647 := r18
  have r19 : (1 : Int) ≤ ρ 19 ∧ ρ 19 ≤ 1 := r19
  have r20 : ((-2147483648) : Int) ≤ ρ 20 ∧ ρ 20 ≤ 2147483647 := r20
  have r21 : (0 : Int) ≤ ρ 21 ∧ ρ 21 ≤ 3 := r21
  have r22 : (1 : Int) ≤ ρ 22 ∧ ρ 22 ≤ 2000 := r22
  have r23 : (0 : Int) ≤ ρ 23 ∧ ρ 23 ≤ 12288 := r23
  have r24 : (0 : Int) ≤ ρ 24 ∧ ρ 24 ≤ 12288 := r24
  have r25 : (0 : Int) ≤ ρ 25 ∧ ρ 25 ≤ 40 := r25
  have r26 : (0 : Int) ≤ ρ 26 ∧ ρ 26 ≤ 2000 := r26
  have r27 : (0 : Int) ≤ ρ 27 ∧ ρ 27 ≤ 2000 := r27
  have r28 : (0 : Int) ≤ ρ 28 ∧ ρ 28 ≤ 3 := r28
  have r29 : ((-2147483648) : Int) ≤ ρ 29 ∧ ρ 29 ≤ 1099511640064 := r29
  have r30 : (0 : Int) ≤ ρ 30 ∧ ρ 30 ≤ 2000 := r30
  have r31 : ((-2147483648) : Int) ≤ ρ 31 ∧ ρ 31 ≤ 1099511640064 := r31
  have r32 : (1 : Int) ≤ ρ 32 ∧ ρ 32 ≤ 2000 := r32
  have r33 : (0 : Int) ≤ ρ 33 ∧ ρ 33 ≤ 12288 := r33
  have r34 : (0 : Int) ≤ ρ 34 ∧ ρ 34 ≤ 12288 := r34
  have r35 : ((-2147483648) : Int) ≤ ρ 35 ∧ ρ 35 ≤ 1099511640064 := r35
  have r36 : (1 : Int) ≤ ρ 36 ∧ ρ 36 ≤ 1 := r36
  have r37 : (0 : Int) ≤ ρ 37 ∧ ρ 37 ≤ 2000 := r37
  have r38 : (0 : Int) ≤ ρ 38 ∧ ρ 38 ≤ 2000 := r38
  have r39 : ((-2147483648) : Int) ≤ ρ 39 ∧ ρ 39 ≤ 2147483647 := r39
  have r40 : ((-2147483648) : Int) ≤ ρ 40 ∧ ρ 40 ≤ 2147483647 := r40
  have r41 : ((-2147483648) : Int) ≤ ρ 41 ∧ ρ 41 ≤ 2147483647 := r41
  have r42 : (0 : Int) ≤ ρ 42 ∧ ρ 42 ≤ 2000 := r42
  have r43 : (44 : Int) ≤ ρ 43 ∧ ρ 43 ≤ 44 := r43
  have r44 : ((-2147483648) : Int) ≤ ρ 44 ∧ ρ 44 ≤ 1099511640064 := r44
  obtain ⟨f0, f1, f2, f3, f4, f5, f6, f7, f8, f9, f10, f11, f12, f13, f14, f15, f16, f17, f18, f19, f20, f21, f22, f23, f24, f25, f26, f27, f28, f29, f30, f31, f32, f33, -⟩ := hf
  have f0 : (0 : Int) ≤ -ρ 42 + ρ 2 + (-1) := f0
  have f1 : (0 : Int) ≤ -ρ 32 + ρ 2 := f1
  have f2 : (0 : Int) ≤ ρ 42 + -ρ 32 := f2
  have f3 : (0 : Int) ≤ -ρ 42 + ρ 2 := f3
  have f4 : (0 : Int) ≤ ρ 30 + (-ρ 23 + -ρ 2) + 12288 := f4
  have f5 : (0 : Int) ≤ ρ 30 + (-ρ 24 + -ρ 2) + 12288 := f5
  have f6 : (0 : Int) ≤ -ρ 30 + ρ 2 := f6
  have f7 : (0 : Int) ≤ ρ 32 + -ρ 30 + (-1) := f7
  have f8 : (0 : Int) ≤ ρ 33 + -ρ 23 := f8
  have f9 : (0 : Int) ≤ ρ 34 + -ρ 24 := f9
  have f10 : (0 : Int) ≤ -ρ 30 + ρ 2 + (-1) := f10
  have f11 : (0 : Int) ≤ -ρ 33 + (ρ 32 + (-ρ 30 + ρ 23)) := f11
  have f12 : (0 : Int) ≤ -ρ 34 + (ρ 32 + (-ρ 30 + ρ 24)) := f12
  have f13 : (0 : Int) ≤ -ρ 22 + ρ 2 := f13
  have f14 : (0 : Int) ≤ ρ 30 + -ρ 22 := f14
  have f15 : (0 : Int) ≤ -ρ 25 + (ρ 21 + 4 * ρ 12) + 6 := f15
  have f16 : (0 : Int) ≤ -ρ 25 + 4 * ρ 12 + 10 := f16
  have f17 : (0 : Int) ≤ -ρ 24 + (ρ 22 + -ρ 2) + 12288 := f17
  have f18 : (0 : Int) ≤ -ρ 23 + (ρ 22 + -ρ 2) + 12288 := f18
  have f19 : (0 : Int) ≤ -ρ 24 + (ρ 22 + (ρ 4 + -ρ 1)) := f19
  have f20 : (0 : Int) ≤ -ρ 23 + (ρ 22 + (ρ 3 + -ρ 1)) := f20
  have f21 : (0 : Int) ≤ -ρ 7 + -ρ 6 + 2000 := f21
  have f22 : (0 : Int) ≤ -ρ 21 + ρ 2 := f22
  have f23 : (0 : Int) ≤ ρ 25 + -ρ 5 := f23
  have f24 : (0 : Int) ≤ ρ 24 + -ρ 4 := f24
  have f25 : (0 : Int) ≤ ρ 23 + -ρ 3 := f25
  have f26 : (0 : Int) ≤ ρ 22 + -ρ 1 + (-1) := f26
  have f27 : (0 : Int) ≤ ρ 22 + -ρ 21 + (-1) := f27
  have f28 : (0 : Int) ≤ 4 * ρ 12 + -ρ 5 + 6 := f28
  have f29 : (0 : Int) ≤ -ρ 11 + (ρ 10 + ρ 9) := f29
  have f30 : (0 : Int) ≤ ρ 11 + (-ρ 10 + -ρ 9) := f30
  have f31 : (0 : Int) ≤ ρ 2 + -ρ 1 + (-1) := f31
  have f32 : (0 : Int) ≤ -ρ 4 + (-ρ 2 + ρ 1) + 12288 := f32
  have f33 : (0 : Int) ≤ -ρ 3 + (-ρ 2 + ρ 1) + 12288 := f33
  obtain ⟨m0, m1, m2, m3, m4, m5, m6, m7, m8, m9, m10, m11, m12, m13, m14, m15, m16, m17, m18, m19, m20, m21, m22, m23, m24, m25, m26, m27, m28, m29, m30, m31, m32, m33, m34, m35, m36, m37, m38, -⟩ := hm
  have m0 : γ 0 15 0 35 = ρ 1 := m0
  have m1 : γ 0 15 0 34 = ρ 2 := m1
  have m2 : γ 0 15 0 8 = ρ 3 := m2
  have m3 : γ 0 15 0 9 = ρ 4 := m3
  have m4 : γ 0 15 0 58 = ρ 5 := m4
  have m5 : γ 0 15 0 37 = ρ 6 := m5
  have m6 : γ 0 15 0 38 = ρ 7 := m6
  have m7 : γ 0 15 0 14 = ρ 8 := m7
  have m8 : γ 0 15 0 32 = ρ 9 := m8
  have m9 : γ 0 15 0 33 = ρ 10 := m9
  have m10 : γ 0 15 0 44 = ρ 11 := m10
  have m11 : γ 0 73 0 (ρ 11) = ρ 12 := m11
  have m12 : γ 0 77 0 (ρ 12 + 8 * ρ 11) = ρ 13 := m12
  have m13 : γ 0 81 0 (4 * ρ 12 + 32 * ρ 11) = ρ 14 := m13
  have m14 : γ 0 78 0 (ρ 12 + 8 * ρ 11) = ρ 15 := m14
  have m15 : γ 0 15 0 36 = ρ 16 := m15
  have m16 : γ 0 15 0 40 = ρ 17 := m16
  have m17 : γ 0 15 0 45 = ρ 18 := m17
  have m18 : γ 1 15 0 35 = ρ 22 := m18
  have m19 : γ 1 15 0 8 = ρ 23 := m19
  have m20 : γ 1 15 0 9 = ρ 24 := m20
  have m21 : γ 1 15 0 58 = ρ 25 := m21
  have m22 : γ 1 15 0 37 = ρ 26 := m22
  have m23 : γ 1 15 0 38 = ρ 27 := m23
  have m24 : γ 1 15 0 36 = ρ 16 := m24
  have m25 : γ 1 15 0 40 = ρ 28 := m25
  have m26 : γ 1 81 0 (4 * ρ 12 + 32 * ρ 11) = ρ 29 := m26
  have m27 : γ 2 15 0 35 = ρ 30 := m27
  have m28 : γ 1 15 0 39 = ρ 31 := m28
  have m29 : γ 3 15 0 35 = ρ 32 := m29
  have m30 : γ 3 15 0 8 = ρ 33 := m30
  have m31 : γ 3 15 0 9 = ρ 34 := m31
  have m32 : γ 3 15 0 39 = ρ 35 := m32
  have m33 : γ 3 15 0 40 = ρ 36 := m33
  have m34 : γ 3 15 0 36 = ρ 16 := m34
  have m35 : γ 3 15 0 37 = ρ 37 := m35
  have m36 : γ 3 15 0 38 = ρ 38 := m36
  have m37 : γ 6 15 0 35 = ρ 42 := m37
  have m38 : γ 5 81 0 (4 * ρ 12 + 32 * ρ 11) = ρ 44 := m38
  obtain ⟨⟨⟨⟨⟨⟨⟨⟨-, c1⟩, c2⟩, c3⟩, c4⟩, c5⟩, c6⟩, c7⟩, c8⟩ := hc
  have c1 : ∀ (G : Nat) (k j : Int), ¬ rMdP m26_ G j → γ 1 G k j = γ 0 G k j := c1
  have c2 : ∀ (G : Nat) (k j : Int), ¬ rMdP m6_ G j → γ 2 G k j = γ 1 G k j := c2
  have c3 : ∀ (G : Nat) (k j : Int), ¬ rMdP m14_ G j → γ 3 G k j = γ 2 G k j := c3
  have c4 : γ 4 = rUp (γ 3) 80 0 (ρ 21 + (4 * ρ 12 + 32 * ρ 11)) (ρ 36) := c4
  have c5 : γ 5 = rUp (γ 4) 81 0 (ρ 21 + (4 * ρ 12 + 32 * ρ 11)) (ρ 35) := c5
  have c6 : ∀ (G : Nat) (k j : Int), ¬ rMdP m6_ G j → γ 6 G k j = γ 5 G k j := c6
  have c7 : ∀ (G : Nat) (k j : Int), ¬ rMdP m0_ G j → γ 7 G k j = γ 6 G k j := c7
  have c8 : γ 8 = rUp (γ 7) 15 0 35 (ρ 42 + 1) := c8
  obtain ⟨l0, l1, l2, l3, l4, l5, l6, l7, -⟩ := hl
  have l0 : sn7 [ρ 22, ρ 2] (γ 1) 0 0 (γ 2) := hS7 _ _ _ _ _ l0
  have l1 : sn20 [1, ρ 30, ρ 2, ρ 23, ρ 24, ρ 31, ρ 28, ρ 16, ρ 26, ρ 27, ρ 11] (γ 2) 0 1 (γ 3) := hS20 _ _ _ _ _ l1
  have l2 : ρ 36 ≠ 1 := l2
  have l3 : zOpP (.l2i) (γ 0) (γ 1) [ρ 35] (ρ 39) := l3
  have l4 : zOpP (.ishl) (γ 0) (γ 1) [1, ρ 39] (ρ 40) := l4
  have l5 : zOpP (.ior) (γ 0) (γ 1) [ρ 20, ρ 40] (ρ 41) := l5
  have l6 : sn7 [ρ 32, ρ 2] (γ 5) 0 0 (γ 6) := hS7 _ _ _ _ _ l6
  have l7 : sn6 [ρ 42, ρ 2] (γ 6) 0 (ρ 43) (γ 7) := hS6 _ _ _ _ _ l7
  show jn41 [ρ 0, ρ 1, ρ 2, ρ 3, ρ 4, ρ 5, ρ 6, ρ 7, ρ 8, ρ 9, ρ 10, ρ 11, ρ 12, ρ 13, ρ 14, ρ 15, ρ 16, ρ 17, ρ 18] (γ 0) 0 [ρ 0, ρ 1, ρ 2, ρ 3, ρ 4, ρ 5, ρ 6, ρ 7, ρ 8, ρ 9, ρ 10, ρ 11, ρ 12, ρ 13, ρ 14, ρ 15, ρ 16, ρ 17, ρ 18, 1, ρ 41, ρ 21 + 1, ρ 42 + 1, ρ 33, ρ 34, ρ 25, ρ 37, ρ 38, ρ 36, ρ 44] (γ 8)
  have hD : en41 (γ 0) (0, [ρ 0, ρ 19, ρ 20, ρ 21], γ 1) = .inl (0, [ρ 0, 1, ρ 41, ρ 21 + 1], γ 8) := by
    unfold en41
    refine (if_pos (show (0 : Nat) = 0 by decide)).trans ?_
    refine (zLet_eq (show _ = γ 1 from rfl)).trans ?_
    refine (zLet_eq (show _ = ρ 0 from rfl)).trans ?_
    refine (zLet_eq (show _ = ρ 19 from rfl)).trans ?_
    refine (zLet_eq (show _ = ρ 20 from rfl)).trans ?_
    refine (zLet_eq (show _ = ρ 21 from rfl)).trans ?_
    refine (zLet_eq m1).trans ?_
    refine (zLet_eq m5).trans ?_
    refine (zLet_eq m6).trans ?_
    refine (zLet_eq m7).trans ?_
    refine (zLet_eq m10).trans ?_
    refine (zLet_eq m11).trans ?_
    refine (zLet_eq m17).trans ?_
    refine (if_neg (show ¬ (ρ 19 = 0) by omega)).trans ?_
    refine (zLet_eq (show fn7 [] (γ 1) = (0, 0, γ 2) from l0.symm)).trans ?_
    refine (zLet_eq (show _ = γ 2 from rfl)).trans ?_
    refine (zLet_eq m27).trans ?_
    refine (if_pos (show ρ 21 ≠ 4 by omega)).trans ?_
    refine (zLet_eq (show fn20 [1] (γ 2) = (0, 1, γ 3) from l1.symm)).trans ?_
    refine (zLet_eq (show _ = γ 3 from rfl)).trans ?_
    refine (if_pos (show (1 : Int) ≤ 1 by omega)).trans ?_
    refine (zLet_eq m32).trans ?_
    refine (zLet_eq m33).trans ?_
    refine (zLet_eq c4.symm).trans ?_
    refine (zLet_eq c5.symm).trans ?_
    refine (if_pos (show ρ 36 ≠ 1 by omega)).trans ?_
    refine (if_neg (show ¬ (ρ 36 ≠ 1) by omega)).trans ?_
    refine (zLet_eq (zF1_ok l3)).trans ?_
    refine (zLet_eq (zF2_ok l4)).trans ?_
    refine (zLet_eq (zF2_ok l5)).trans ?_
    refine (zLet_eq (show fn7 [] (γ 5) = (0, 0, γ 6) from l6.symm)).trans ?_
    refine (zLet_eq (show _ = γ 6 from rfl)).trans ?_
    refine (zLet_eq m37).trans ?_
    refine (zLet_eq (show fn6 [ρ 42] (γ 6) = (0, ρ 43, γ 7) from l7.symm)).trans ?_
    refine (zLet_eq (show _ = γ 7 from rfl)).trans ?_
    refine (if_pos (show 0 ≤ -ρ 42 + ρ 2 + (-1) by omega)).trans ?_
    refine (zLet_eq (show _ = ρ 43 from rfl)).trans ?_
    refine (if_neg (show ¬ (ρ 43 ≠ 44) by omega)).trans ?_
    refine (zLet_eq c8.symm).trans ?_
    rfl
  exact zGoo_ato hJ hD
theorem vn41a0_12 {S : Nat → zSpc} (hS6 : ∀ x g o v gz, S 6 x g o v gz → sn6 x g o v gz) (hS7 : ∀ x g o v gz, S 7 x g o v gz → sn7 x g o v gz) (hS8 : ∀ x g o v gz, S 8 x g o v gz → sn8 x g o v gz) (hS20 : ∀ x g o v gz, S 20 x g o v gz → sn20 x g o v gz) (hS21 : ∀ x g o v gz, S 21 x g o v gz → sn21 x g o v gz) (hS24 : ∀ x g o v gz, S 24 x g o v gz → sn24 x g o v gz) (hS25 : ∀ x g o v gz, S 25 x g o v gz → sn25 x g o v gz) (hS33 : ∀ x g o v gz, S 33 x g o v gz → sn33 x g o v gz) (hS39 : ∀ x g o v gz, S 39 x g o v gz → sn39 x g o v gz) {a : List Int} {g : rHp} : ∀ (ρ : Nat → Int) (γ : Nat → rHp), jn41 a g 0 (zAg (zNA a41_ 0) ρ) (γ 1) → zO 19 S a g q41a0_12 ρ γ → zGl (fun i vs g1 => jn41 a g i vs g1) (sn41 a g) q41a0_12 ρ γ := by
  intro ρ γ hJ h
  obtain ⟨ha, hg, hr, hf, hm, hc, hl⟩ := h
  have ha : a = [ρ 0, ρ 1, ρ 2, ρ 3, ρ 4, ρ 5, ρ 6, ρ 7, ρ 8, ρ 9, ρ 10, ρ 11, ρ 12, ρ 13, ρ 14, ρ 15, ρ 16, ρ 17, ρ 18] := ha
  subst ha
  subst hg
  have hJ : jn41 [ρ 0, ρ 1, ρ 2, ρ 3, ρ 4, ρ 5, ρ 6, ρ 7, ρ 8, ρ 9, ρ 10, ρ 11, ρ 12, ρ 13, ρ 14, ρ 15, ρ 16, ρ 17, ρ 18] (γ 0) 0 [ρ 0, ρ 1, ρ 2, ρ 3, ρ 4, ρ 5, ρ 6, ρ 7, ρ 8, ρ 9, ρ 10, ρ 11, ρ 12, ρ 13, ρ 14, ρ 15, ρ 16, ρ 17, ρ 18, ρ 19, ρ 20, ρ 21, ρ 22, ρ 23, ρ 24, ρ 25, ρ 26, ρ 27, ρ 28, ρ 29] (γ 1) := hJ
  obtain ⟨r0, r1, r2, r3, r4, r5, r6, r7, r8, r9, r10, r11, r12, r13, r14, r15, r16, r17, r18, r19, r20, r21, r22, r23, r24, r25, r26, r27, r28, r29, r30, r31, r32, r33, r34, r35, r36, r37, r38, r39, r40, r41, r42, r43, -⟩ := hr
  have r0 : (0 : Int) ≤ ρ 0 ∧ ρ 0 ≤ 1 := r0
  have r1 : (0 : Int) ≤ ρ 1 ∧ ρ 1 ≤ 2000 := r1
  have r2 : (1 : Int) ≤ ρ 2 ∧ ρ 2 ≤ 2000 := r2
  have r3 : (0 : Int) ≤ ρ 3 ∧ ρ 3 ≤ 12288 := r3
  have r4 : (0 : Int) ≤ ρ 4 ∧ ρ 4 ≤ 12288 := r4
  have r5 : (0 : Int) ≤ ρ 5 ∧ ρ 5 ≤ 64 := r5
  have r6 : (0 : Int) ≤ ρ 6 ∧ ρ 6 ≤ 2000 := r6
  have r7 : (0 : Int) ≤ ρ 7 ∧ ρ 7 ≤ 12 := r7
  have r8 : (0 : Int) ≤ ρ 8 ∧ ρ 8 ≤ 20 := r8
  have r9 : (0 : Int) ≤ ρ 9 ∧ ρ 9 ≤ 60 := r9
  have r10 : (0 : Int) ≤ ρ 10 ∧ ρ 10 ≤ 60 := r10
  have r11 : (0 : Int) ≤ ρ 11 ∧ ρ 11 ≤ 61 := r11
  have r12 : (0 : Int) ≤ ρ 12 ∧ ρ 12 ≤ 7 := r12
  have r13 : (0 : Int) ≤ ρ 13 ∧ ρ 13 ≤ 7 := r13
  have r14 : ((-2147483648) : Int) ≤ ρ 14 ∧ ρ 14 ≤ 1099511640064 := r14
  have r15 : (0 : Int) ≤ ρ 15 ∧ ρ 15 ≤ 19 := r15
  have r16 : (0 : Int) ≤ ρ 16 ∧ ρ 16 ≤ 2000 := r16
  have r17 : (0 : Int) ≤ ρ 17 ∧ ρ 17 ≤ 3 := r17
  have r18 : ((-2147483648) : Int) ≤ ρ 18 ∧ ρ 18 ≤ 2147483647 := r18
  have r19 : (1 : Int) ≤ ρ 19 ∧ ρ 19 ≤ 1 := r19
  have r20 : ((-2147483648) : Int) ≤ ρ 20 ∧ ρ 20 ≤ 2147483647 := r20
  have r21 : (0 : Int) ≤ ρ 21 ∧ ρ 21 ≤ 3 := r21
  have r22 : (1 : Int) ≤ ρ 22 ∧ ρ 22 ≤ 2000 := r22
  have r23 : (0 : Int) ≤ ρ 23 ∧ ρ 23 ≤ 12288 := r23
  have r24 : (0 : Int) ≤ ρ 24 ∧ ρ 24 ≤ 12288 := r24
  have r25 : (0 : Int) ≤ ρ 25 ∧ ρ 25 ≤ 40 := r25
  have r26 : (0 : Int) ≤ ρ 26 ∧ ρ 26 ≤ 2000 := r26
  have r27 : (0 : Int) ≤ ρ 27 ∧ ρ 27 ≤ 2000 := r27
  have r28 : (0 : Int) ≤ ρ 28 ∧ ρ 28 ≤ 3 := r28
  have r29 : ((-2147483648) : Int) ≤ ρ 29 ∧ ρ 29 ≤ 1099511640064 := r29
  have r30 : (0 : Int) ≤ ρ 30 ∧ ρ 30 ≤ 2000 := r30
  have r31 : ((-2147483648) : Int) ≤ ρ 31 ∧ ρ 31 ≤ 1099511640064 := r31
  have r32 : (1 : Int) ≤ ρ 32 ∧ ρ 32 ≤ 2000 := r32
  have r33 : (0 : Int) ≤ ρ 33 ∧ ρ 33 ≤ 12288 := r33
  have r34 : (0 : Int) ≤ ρ 34 ∧ ρ 34 ≤ 12288 := r34
  have r35 : ((-2147483648) : Int) ≤ ρ 35 ∧ ρ 35 ≤ 1099511640064 := r35
  have r36 : (1 : Int) ≤ ρ 36 ∧ ρ 36 ≤ 1 := r36
  have r37 : (0 : Int) ≤ ρ 37 ∧ ρ 37 ≤ 2000 := r37
  have r38 : (0 : Int) ≤ ρ 38 ∧ ρ 38 ≤ 2000 := r38
  have r39 : ((-2147483648) : Int) ≤ ρ 39 ∧ ρ 39 ≤ 2147483647 := r39
  have r40 : ((-2147483648) : Int) ≤ ρ 40 ∧ ρ 40 ≤ 2147483647 := r40
  have r41 : ((-2147483648) : Int) ≤ ρ 41 ∧ ρ 41 ≤ 2147483647 := r41
  have r42 : (0 : Int) ≤ ρ 42 ∧ ρ 42 ≤ 2000 := r42
  have r43 : ((-2147483648) : Int) ≤ ρ 43 ∧ ρ 43 ≤ 1099511640064 := r43
  obtain ⟨f0, f1, f2, f3, f4, f5, f6, f7, f8, f9, f10, f11, f12, f13, f14, f15, f16, f17, f18, f19, f20, f21, f22, f23, f24, f25, f26, f27, f28, f29, f30, f31, f32, f33, -⟩ := hf
  have f0 : (0 : Int) ≤ ρ 42 + -ρ 2 := f0
  have f1 : (0 : Int) ≤ -ρ 32 + ρ 2 := f1
  have f2 : (0 : Int) ≤ ρ 42 + -ρ 32 := f2
  have f3 : (0 : Int) ≤ -ρ 42 + ρ 2 := f3
  have f4 : (0 : Int) ≤ ρ 30 + (-ρ 23 + -ρ 2) + 12288 := f4
  have f5 : (0 : Int) ≤ ρ 30 + (-ρ 24 + -ρ 2) + 12288 := f5
  have f6 : (0 : Int) ≤ -ρ 30 + ρ 2 := f6
  have f7 : (0 : Int) ≤ ρ 32 + -ρ 30 + (-1) := f7
  have f8 : (0 : Int) ≤ ρ 33 + -ρ 23 := f8
  have f9 : (0 : Int) ≤ ρ 34 + -ρ 24 := f9
  have f10 : (0 : Int) ≤ -ρ 30 + ρ 2 + (-1) := f10
  have f11 : (0 : Int) ≤ -ρ 33 + (ρ 32 + (-ρ 30 + ρ 23)) := f11
  have f12 : (0 : Int) ≤ -ρ 34 + (ρ 32 + (-ρ 30 + ρ 24)) := f12
  have f13 : (0 : Int) ≤ -ρ 22 + ρ 2 := f13
  have f14 : (0 : Int) ≤ ρ 30 + -ρ 22 := f14
  have f15 : (0 : Int) ≤ -ρ 25 + (ρ 21 + 4 * ρ 12) + 6 := f15
  have f16 : (0 : Int) ≤ -ρ 25 + 4 * ρ 12 + 10 := f16
  have f17 : (0 : Int) ≤ -ρ 24 + (ρ 22 + -ρ 2) + 12288 := f17
  have f18 : (0 : Int) ≤ -ρ 23 + (ρ 22 + -ρ 2) + 12288 := f18
  have f19 : (0 : Int) ≤ -ρ 24 + (ρ 22 + (ρ 4 + -ρ 1)) := f19
  have f20 : (0 : Int) ≤ -ρ 23 + (ρ 22 + (ρ 3 + -ρ 1)) := f20
  have f21 : (0 : Int) ≤ -ρ 7 + -ρ 6 + 2000 := f21
  have f22 : (0 : Int) ≤ -ρ 21 + ρ 2 := f22
  have f23 : (0 : Int) ≤ ρ 25 + -ρ 5 := f23
  have f24 : (0 : Int) ≤ ρ 24 + -ρ 4 := f24
  have f25 : (0 : Int) ≤ ρ 23 + -ρ 3 := f25
  have f26 : (0 : Int) ≤ ρ 22 + -ρ 1 + (-1) := f26
  have f27 : (0 : Int) ≤ ρ 22 + -ρ 21 + (-1) := f27
  have f28 : (0 : Int) ≤ 4 * ρ 12 + -ρ 5 + 6 := f28
  have f29 : (0 : Int) ≤ -ρ 11 + (ρ 10 + ρ 9) := f29
  have f30 : (0 : Int) ≤ ρ 11 + (-ρ 10 + -ρ 9) := f30
  have f31 : (0 : Int) ≤ ρ 2 + -ρ 1 + (-1) := f31
  have f32 : (0 : Int) ≤ -ρ 4 + (-ρ 2 + ρ 1) + 12288 := f32
  have f33 : (0 : Int) ≤ -ρ 3 + (-ρ 2 + ρ 1) + 12288 := f33
  obtain ⟨m0, m1, m2, m3, m4, m5, m6, m7, m8, m9, m10, m11, m12, m13, m14, m15, m16, m17, m18, m19, m20, m21, m22, m23, m24, m25, m26, m27, m28, m29, m30, m31, m32, m33, m34, m35, m36, m37, m38, -⟩ := hm
  have m0 : γ 0 15 0 35 = ρ 1 := m0
  have m1 : γ 0 15 0 34 = ρ 2 := m1
  have m2 : γ 0 15 0 8 = ρ 3 := m2
  have m3 : γ 0 15 0 9 = ρ 4 := m3
  have m4 : γ 0 15 0 58 = ρ 5 := m4
  have m5 : γ 0 15 0 37 = ρ 6 := m5
  have m6 : γ 0 15 0 38 = ρ 7 := m6
  have m7 : γ 0 15 0 14 = ρ 8 := m7
  have m8 : γ 0 15 0 32 = ρ 9 := m8
  have m9 : γ 0 15 0 33 = ρ 10 := m9
  have m10 : γ 0 15 0 44 = ρ 11 := m10
  have m11 : γ 0 73 0 (ρ 11) = ρ 12 := m11
  have m12 : γ 0 77 0 (ρ 12 + 8 * ρ 11) = ρ 13 := m12
  have m13 : γ 0 81 0 (4 * ρ 12 + 32 * ρ 11) = ρ 14 := m13
  have m14 : γ 0 78 0 (ρ 12 + 8 * ρ 11) = ρ 15 := m14
  have m15 : γ 0 15 0 36 = ρ 16 := m15
  have m16 : γ 0 15 0 40 = ρ 17 := m16
  have m17 : γ 0 15 0 45 = ρ 18 := m17
  have m18 : γ 1 15 0 35 = ρ 22 := m18
  have m19 : γ 1 15 0 8 = ρ 23 := m19
  have m20 : γ 1 15 0 9 = ρ 24 := m20
  have m21 : γ 1 15 0 58 = ρ 25 := m21
  have m22 : γ 1 15 0 37 = ρ 26 := m22
  have m23 : γ 1 15 0 38 = ρ 27 := m23
  have m24 : γ 1 15 0 36 = ρ 16 := m24
  have m25 : γ 1 15 0 40 = ρ 28 := m25
  have m26 : γ 1 81 0 (4 * ρ 12 + 32 * ρ 11) = ρ 29 := m26
  have m27 : γ 2 15 0 35 = ρ 30 := m27
  have m28 : γ 1 15 0 39 = ρ 31 := m28
  have m29 : γ 3 15 0 35 = ρ 32 := m29
  have m30 : γ 3 15 0 8 = ρ 33 := m30
  have m31 : γ 3 15 0 9 = ρ 34 := m31
  have m32 : γ 3 15 0 39 = ρ 35 := m32
  have m33 : γ 3 15 0 40 = ρ 36 := m33
  have m34 : γ 3 15 0 36 = ρ 16 := m34
  have m35 : γ 3 15 0 37 = ρ 37 := m35
  have m36 : γ 3 15 0 38 = ρ 38 := m36
  have m37 : γ 6 15 0 35 = ρ 42 := m37
  have m38 : γ 5 81 0 (4 * ρ 12 + 32 * ρ 11) = ρ 43 := m38
  obtain ⟨⟨⟨⟨⟨⟨⟨-, c1⟩, c2⟩, c3⟩, c4⟩, c5⟩, c6⟩, c7⟩ := hc
  have c1 : ∀ (G : Nat) (k j : Int), ¬ rMdP m26_ G j → γ 1 G k j = γ 0 G k j := c1
  have c2 : ∀ (G : Nat) (k j : Int), ¬ rMdP m6_ G j → γ 2 G k j = γ 1 G k j := c2
  have c3 : ∀ (G : Nat) (k j : Int), ¬ rMdP m14_ G j → γ 3 G k j = γ 2 G k j := c3
  have c4 : γ 4 = rUp (γ 3) 80 0 (ρ 21 + (4 * ρ 12 + 32 * ρ 11)) (ρ 36) := c4
  have c5 : γ 5 = rUp (γ 4) 81 0 (ρ 21 + (4 * ρ 12 + 32 * ρ 11)) (ρ 35) := c5
  have c6 : ∀ (G : Nat) (k j : Int), ¬ rMdP m6_ G j → γ 6 G k j = γ 5 G k j := c6
  have c7 : ∀ (G : Nat) (k j : Int), ¬ rMdP m0_ G j → γ 7 G k j = γ 6 G k j := c7
  obtain ⟨l0, l1, l2, l3, l4, l5, l6, l7, -⟩ := hl
  have l0 : sn7 [ρ 22, ρ 2] (γ 1) 0 0 (γ 2) := hS7 _ _ _ _ _ l0
  have l1 : sn20 [1, ρ 30, ρ 2, ρ 23, ρ 24, ρ 31, ρ 28, ρ 16, ρ 26, ρ 27, ρ 11] (γ 2) 0 1 (γ 3) := hS20 _ _ _ _ _ l1
  have l2 : ρ 36 ≠ 1 := l2
  have l3 : zOpP (.l2i) (γ 0) (γ 1) [ρ 35] (ρ 39) := l3
  have l4 : zOpP (.ishl) (γ 0) (γ 1) [1, ρ 39] (ρ 40) := l4
  have l5 : zOpP (.ior) (γ 0) (γ 1) [ρ 20, ρ 40] (ρ 41) := l5
  have l6 : sn7 [ρ 32, ρ 2] (γ 5) 0 0 (γ 6) := hS7 _ _ _ _ _ l6
  have l7 : sn6 [ρ 42, ρ 2] (γ 6) 0 (-1) (γ 7) := hS6 _ _ _ _ _ l7
  show jn41 [ρ 0, ρ 1, ρ 2, ρ 3, ρ 4, ρ 5, ρ 6, ρ 7, ρ 8, ρ 9, ρ 10, ρ 11, ρ 12, ρ 13, ρ 14, ρ 15, ρ 16, ρ 17, ρ 18] (γ 0) 0 [ρ 0, ρ 1, ρ 2, ρ 3, ρ 4, ρ 5, ρ 6, ρ 7, ρ 8, ρ 9, ρ 10, ρ 11, ρ 12, ρ 13, ρ 14, ρ 15, ρ 16, ρ 17, ρ 18, 0, ρ 41, ρ 21 + 1, ρ 42, ρ 33, ρ 34, ρ 25, ρ 37, ρ 38, ρ 36, ρ 43] (γ 7)
  have hD : en41 (γ 0) (0, [ρ 0, ρ 19, ρ 20, ρ 21], γ 1) = .inl (0, [ρ 0, 0, ρ 41, ρ 21 + 1], γ 7) := by
    unfold en41
    refine (if_pos (show (0 : Nat) = 0 by decide)).trans ?_
    refine (zLet_eq (show _ = γ 1 from rfl)).trans ?_
    refine (zLet_eq (show _ = ρ 0 from rfl)).trans ?_
    refine (zLet_eq (show _ = ρ 19 from rfl)).trans ?_
    refine (zLet_eq (show _ = ρ 20 from rfl)).trans ?_
    refine (zLet_eq (show _ = ρ 21 from rfl)).trans ?_
    refine (zLet_eq m1).trans ?_
    refine (zLet_eq m5).trans ?_
    refine (zLet_eq m6).trans ?_
    refine (zLet_eq m7).trans ?_
    refine (zLet_eq m10).trans ?_
    refine (zLet_eq m11).trans ?_
    refine (zLet_eq m17).trans ?_
    refine (if_neg (show ¬ (ρ 19 = 0) by omega)).trans ?_
    refine (zLet_eq (show fn7 [] (γ 1) = (0, 0, γ 2) from l0.symm)).trans ?_
    refine (zLet_eq (show _ = γ 2 from rfl)).trans ?_
    refine (zLet_eq m27).trans ?_
    refine (if_pos (show ρ 21 ≠ 4 by omega)).trans ?_
    refine (zLet_eq (show fn20 [1] (γ 2) = (0, 1, γ 3) from l1.symm)).trans ?_
    refine (zLet_eq (show _ = γ 3 from rfl)).trans ?_
    refine (if_pos (show (1 : Int) ≤ 1 by omega)).trans ?_
    refine (zLet_eq m32).trans ?_
    refine (zLet_eq m33).trans ?_
    refine (zLet_eq c4.symm).trans ?_
    refine (zLet_eq c5.symm).trans ?_
    refine (if_pos (show ρ 36 ≠ 1 by omega)).trans ?_
    refine (if_neg (show ¬ (ρ 36 ≠ 1) by omega)).trans ?_
    refine (zLet_eq (zF1_ok l3)).trans ?_
    refine (zLet_eq (zF2_ok l4)).trans ?_
    refine (zLet_eq (zF2_ok l5)).trans ?_
    refine (zLet_eq (show fn7 [] (γ 5) = (0, 0, γ 6) from l6.symm)).trans ?_
    refine (zLet_eq (show _ = γ 6 from rfl)).trans ?_
    refine (zLet_eq m37).trans ?_
    refine (zLet_eq (show fn6 [ρ 42] (γ 6) = (0, (-1), γ 7) from l7.symm)).trans ?_
    refine (zLet_eq (show _ = γ 7 from rfl)).trans ?_
    refine (if_neg (show ¬ (0 ≤ -ρ 42 + ρ 2 + (-1)) by omega)).trans ?_
    rfl
  exact zGoo_ato hJ hD
theorem vn41a0_13 {S : Nat → zSpc} (hS6 : ∀ x g o v gz, S 6 x g o v gz → sn6 x g o v gz) (hS7 : ∀ x g o v gz, S 7 x g o v gz → sn7 x g o v gz) (hS8 : ∀ x g o v gz, S 8 x g o v gz → sn8 x g o v gz) (hS20 : ∀ x g o v gz, S 20 x g o v gz → sn20 x g o v gz) (hS21 : ∀ x g o v gz, S 21 x g o v gz → sn21 x g o v gz) (hS24 : ∀ x g o v gz, S 24 x g o v gz → sn24 x g o v gz) (hS25 : ∀ x g o v gz, S 25 x g o v gz → sn25 x g o v gz) (hS33 : ∀ x g o v gz, S 33 x g o v gz → sn33 x g o v gz) (hS39 : ∀ x g o v gz, S 39 x g o v gz → sn39 x g o v gz) {a : List Int} {g : rHp} : ∀ (ρ : Nat → Int) (γ : Nat → rHp), jn41 a g 0 (zAg (zNA a41_ 0) ρ) (γ 1) → zO 19 S a g q41a0_13 ρ γ → zGl (fun i vs g1 => jn41 a g i vs g1) (sn41 a g) q41a0_13 ρ γ := by
  intro ρ γ hJ h
  obtain ⟨ha, hg, hr, hf, hm, hc, hl⟩ := h
  have ha : a = [ρ 0, ρ 1, ρ 2, ρ 3, ρ 4, ρ 5, ρ 6, ρ 7, ρ 8, ρ 9, ρ 10, ρ 11, ρ 12, ρ 13, ρ 14, ρ 15, ρ 16, ρ 17, ρ 18] := ha
  subst ha
  subst hg
  have hJ : jn41 [ρ 0, ρ 1, ρ 2, ρ 3, ρ 4, ρ 5, ρ 6, ρ 7, ρ 8, ρ 9, ρ 10, ρ 11, ρ 12, ρ 13, ρ 14, ρ 15, ρ 16, ρ 17, ρ 18] (γ 0) 0 [ρ 0, ρ 1, ρ 2, ρ 3, ρ 4, ρ 5, ρ 6, ρ 7, ρ 8, ρ 9, ρ 10, ρ 11, ρ 12, ρ 13, ρ 14, ρ 15, ρ 16, ρ 17, ρ 18, ρ 19, ρ 20, ρ 21, ρ 22, ρ 23, ρ 24, ρ 25, ρ 26, ρ 27, ρ 28, ρ 29] (γ 1) := hJ
  obtain ⟨r0, r1, r2, r3, r4, r5, r6, r7, r8, r9, r10, r11, r12, r13, r14, r15, r16, r17, r18, r19, r20, r21, r22, r23, r24, r25, r26, r27, r28, r29, r30, r31, r32, r33, r34, r35, r36, r37, r38, r39, r40, r41, r42, r43, r44, -⟩ := hr
  have r0 : (0 : Int) ≤ ρ 0 ∧ ρ 0 ≤ 0 := r0
  have r1 : (0 : Int) ≤ ρ 1 ∧ ρ 1 ≤ 2000 := r1
  have r2 : (1 : Int) ≤ ρ 2 ∧ ρ 2 ≤ 2000 := r2
  have r3 : (0 : Int) ≤ ρ 3 ∧ ρ 3 ≤ 12288 := r3
  have r4 : (0 : Int) ≤ ρ 4 ∧ ρ 4 ≤ 12288 := r4
  have r5 : (0 : Int) ≤ ρ 5 ∧ ρ 5 ≤ 64 := r5
  have r6 : (0 : Int) ≤ ρ 6 ∧ ρ 6 ≤ 2000 := r6
  have r7 : (0 : Int) ≤ ρ 7 ∧ ρ 7 ≤ 12 := r7
  have r8 : (0 : Int) ≤ ρ 8 ∧ ρ 8 ≤ 20 := r8
  have r9 : (0 : Int) ≤ ρ 9 ∧ ρ 9 ≤ 60 := r9
  have r10 : (0 : Int) ≤ ρ 10 ∧ ρ 10 ≤ 60 := r10
  have r11 : (0 : Int) ≤ ρ 11 ∧ ρ 11 ≤ 61 := r11
  have r12 : (0 : Int) ≤ ρ 12 ∧ ρ 12 ≤ 7 := r12
  have r13 : (0 : Int) ≤ ρ 13 ∧ ρ 13 ≤ 7 := r13
  have r14 : ((-2147483648) : Int) ≤ ρ 14 ∧ ρ 14 ≤ 1099511640064 := r14
  have r15 : (0 : Int) ≤ ρ 15 ∧ ρ 15 ≤ 19 := r15
  have r16 : (0 : Int) ≤ ρ 16 ∧ ρ 16 ≤ 2000 := r16
  have r17 : (0 : Int) ≤ ρ 17 ∧ ρ 17 ≤ 3 := r17
  have r18 : ((-2147483648) : Int) ≤ ρ 18 ∧ ρ 18 ≤ 2147483647 := r18
  have r19 : (1 : Int) ≤ ρ 19 ∧ ρ 19 ≤ 1 := r19
  have r20 : ((-2147483648) : Int) ≤ ρ 20 ∧ ρ 20 ≤ 2147483647 := r20
  have r21 : (0 : Int) ≤ ρ 21 ∧ ρ 21 ≤ 3 := r21
  have r22 : (1 : Int) ≤ ρ 22 ∧ ρ 22 ≤ 2000 := r22
  have r23 : (0 : Int) ≤ ρ 23 ∧ ρ 23 ≤ 12288 := r23
  have r24 : (0 : Int) ≤ ρ 24 ∧ ρ 24 ≤ 12288 := r24
  have r25 : (0 : Int) ≤ ρ 25 ∧ ρ 25 ≤ 40 := r25
  have r26 : (0 : Int) ≤ ρ 26 ∧ ρ 26 ≤ 2000 := r26
  have r27 : (0 : Int) ≤ ρ 27 ∧ ρ 27 ≤ 2000 := r27
  have r28 : (0 : Int) ≤ ρ 28 ∧ ρ 28 ≤ 3 := r28
  have r29 : ((-2147483648) : Int) ≤ ρ 29 ∧ ρ 29 ≤ 1099511640064 := r29
  have r30 : (0 : Int) ≤ ρ 30 ∧ ρ 30 ≤ 2000 := r30
  have r31 : ((-2147483648) : Int) ≤ ρ 31 ∧ ρ 31 ≤ 1099511640064 := r31
  have r32 : (1 : Int) ≤ ρ 32 ∧ ρ 32 ≤ 2000 := r32
  have r33 : (0 : Int) ≤ ρ 33 ∧ ρ 33 ≤ 12288 := r33
  have r34 : (0 : Int) ≤ ρ 34 ∧ ρ 34 ≤ 12288 := r34
  have r35 : ((-2147483648) : Int) ≤ ρ 35 ∧ ρ 35 ≤ 1099511640064 := r35
  have r36 : (1 : Int) ≤ ρ 36 ∧ ρ 36 ≤ 1 := r36
  have r37 : (0 : Int) ≤ ρ 37 ∧ ρ 37 ≤ 2000 := r37
  have r38 : (0 : Int) ≤ ρ 38 ∧ ρ 38 ≤ 2000 := r38
  have r39 : ((-2147483648) : Int) ≤ ρ 39 ∧ ρ 39 ≤ 2147483647 := r39
  have r40 : ((-2147483648) : Int) ≤ ρ 40 ∧ ρ 40 ≤ 2147483647 := r40
  have r41 : ((-2147483648) : Int) ≤ ρ 41 ∧ ρ 41 ≤ 2147483647 := r41
  have r42 : (0 : Int) ≤ ρ 42 ∧ ρ 42 ≤ 2000 := r42
  have r43 : ((-128) : Int) ≤ ρ 43 ∧ ρ 43 ≤ 127 := r43
  have r44 : ((-2147483648) : Int) ≤ ρ 44 ∧ ρ 44 ≤ 1099511640064 := r44
  obtain ⟨f0, f1, f2, f3, f4, f5, f6, f7, f8, f9, f10, f11, f12, f13, f14, f15, f16, f17, f18, f19, f20, f21, f22, f23, f24, f25, f26, f27, f28, f29, f30, f31, f32, f33, -⟩ := hf
  have f0 : (0 : Int) ≤ -ρ 42 + ρ 2 + (-1) := f0
  have f1 : (0 : Int) ≤ -ρ 32 + ρ 2 := f1
  have f2 : (0 : Int) ≤ ρ 42 + -ρ 32 := f2
  have f3 : (0 : Int) ≤ -ρ 42 + ρ 2 := f3
  have f4 : (0 : Int) ≤ ρ 30 + (-ρ 23 + -ρ 2) + 12288 := f4
  have f5 : (0 : Int) ≤ ρ 30 + (-ρ 24 + -ρ 2) + 12288 := f5
  have f6 : (0 : Int) ≤ -ρ 30 + ρ 2 := f6
  have f7 : (0 : Int) ≤ ρ 32 + -ρ 30 + (-1) := f7
  have f8 : (0 : Int) ≤ ρ 33 + -ρ 23 := f8
  have f9 : (0 : Int) ≤ ρ 34 + -ρ 24 := f9
  have f10 : (0 : Int) ≤ -ρ 30 + ρ 2 + (-1) := f10
  have f11 : (0 : Int) ≤ -ρ 33 + (ρ 32 + (-ρ 30 + ρ 23)) := f11
  have f12 : (0 : Int) ≤ -ρ 34 + (ρ 32 + (-ρ 30 + ρ 24)) := f12
  have f13 : (0 : Int) ≤ -ρ 22 + ρ 2 := f13
  have f14 : (0 : Int) ≤ ρ 30 + -ρ 22 := f14
  have f15 : (0 : Int) ≤ -ρ 25 + (ρ 21 + 4 * ρ 12) + 6 := f15
  have f16 : (0 : Int) ≤ -ρ 25 + 4 * ρ 12 + 10 := f16
  have f17 : (0 : Int) ≤ -ρ 24 + (ρ 22 + -ρ 2) + 12288 := f17
  have f18 : (0 : Int) ≤ -ρ 23 + (ρ 22 + -ρ 2) + 12288 := f18
  have f19 : (0 : Int) ≤ -ρ 24 + (ρ 22 + (ρ 4 + -ρ 1)) := f19
  have f20 : (0 : Int) ≤ -ρ 23 + (ρ 22 + (ρ 3 + -ρ 1)) := f20
  have f21 : (0 : Int) ≤ -ρ 7 + -ρ 6 + 2000 := f21
  have f22 : (0 : Int) ≤ -ρ 21 + ρ 2 := f22
  have f23 : (0 : Int) ≤ ρ 25 + -ρ 5 := f23
  have f24 : (0 : Int) ≤ ρ 24 + -ρ 4 := f24
  have f25 : (0 : Int) ≤ ρ 23 + -ρ 3 := f25
  have f26 : (0 : Int) ≤ ρ 22 + -ρ 1 + (-1) := f26
  have f27 : (0 : Int) ≤ ρ 22 + -ρ 21 + (-1) := f27
  have f28 : (0 : Int) ≤ 4 * ρ 12 + -ρ 5 + 6 := f28
  have f29 : (0 : Int) ≤ -ρ 11 + (ρ 10 + ρ 9) := f29
  have f30 : (0 : Int) ≤ ρ 11 + (-ρ 10 + -ρ 9) := f30
  have f31 : (0 : Int) ≤ ρ 2 + -ρ 1 + (-1) := f31
  have f32 : (0 : Int) ≤ -ρ 4 + (-ρ 2 + ρ 1) + 12288 := f32
  have f33 : (0 : Int) ≤ -ρ 3 + (-ρ 2 + ρ 1) + 12288 := f33
  obtain ⟨m0, m1, m2, m3, m4, m5, m6, m7, m8, m9, m10, m11, m12, m13, m14, m15, m16, m17, m18, m19, m20, m21, m22, m23, m24, m25, m26, m27, m28, m29, m30, m31, m32, m33, m34, m35, m36, m37, m38, -⟩ := hm
  have m0 : γ 0 15 0 35 = ρ 1 := m0
  have m1 : γ 0 15 0 34 = ρ 2 := m1
  have m2 : γ 0 15 0 8 = ρ 3 := m2
  have m3 : γ 0 15 0 9 = ρ 4 := m3
  have m4 : γ 0 15 0 58 = ρ 5 := m4
  have m5 : γ 0 15 0 37 = ρ 6 := m5
  have m6 : γ 0 15 0 38 = ρ 7 := m6
  have m7 : γ 0 15 0 14 = ρ 8 := m7
  have m8 : γ 0 15 0 32 = ρ 9 := m8
  have m9 : γ 0 15 0 33 = ρ 10 := m9
  have m10 : γ 0 15 0 44 = ρ 11 := m10
  have m11 : γ 0 73 0 (ρ 11) = ρ 12 := m11
  have m12 : γ 0 77 0 (ρ 12 + 8 * ρ 11) = ρ 13 := m12
  have m13 : γ 0 81 0 (4 * ρ 12 + 32 * ρ 11) = ρ 14 := m13
  have m14 : γ 0 78 0 (ρ 12 + 8 * ρ 11) = ρ 15 := m14
  have m15 : γ 0 15 0 36 = ρ 16 := m15
  have m16 : γ 0 15 0 40 = ρ 17 := m16
  have m17 : γ 0 15 0 45 = ρ 18 := m17
  have m18 : γ 1 15 0 35 = ρ 22 := m18
  have m19 : γ 1 15 0 8 = ρ 23 := m19
  have m20 : γ 1 15 0 9 = ρ 24 := m20
  have m21 : γ 1 15 0 58 = ρ 25 := m21
  have m22 : γ 1 15 0 37 = ρ 26 := m22
  have m23 : γ 1 15 0 38 = ρ 27 := m23
  have m24 : γ 1 15 0 36 = ρ 16 := m24
  have m25 : γ 1 15 0 40 = ρ 28 := m25
  have m26 : γ 1 81 0 (4 * ρ 12 + 32 * ρ 11) = ρ 29 := m26
  have m27 : γ 2 15 0 35 = ρ 30 := m27
  have m28 : γ 1 15 0 39 = ρ 31 := m28
  have m29 : γ 3 15 0 35 = ρ 32 := m29
  have m30 : γ 3 15 0 8 = ρ 33 := m30
  have m31 : γ 3 15 0 9 = ρ 34 := m31
  have m32 : γ 3 15 0 39 = ρ 35 := m32
  have m33 : γ 3 15 0 40 = ρ 36 := m33
  have m34 : γ 3 15 0 36 = ρ 16 := m34
  have m35 : γ 3 15 0 37 = ρ 37 := m35
  have m36 : γ 3 15 0 38 = ρ 38 := m36
  have m37 : γ 6 15 0 35 = ρ 42 := m37
  have m38 : γ 5 81 0 (4 * ρ 12 + 32 * ρ 11) = ρ 44 := m38
  obtain ⟨⟨⟨⟨⟨⟨⟨-, c1⟩, c2⟩, c3⟩, c4⟩, c5⟩, c6⟩, c7⟩ := hc
  have c1 : ∀ (G : Nat) (k j : Int), ¬ rMdP m26_ G j → γ 1 G k j = γ 0 G k j := c1
  have c2 : ∀ (G : Nat) (k j : Int), ¬ rMdP m6_ G j → γ 2 G k j = γ 1 G k j := c2
  have c3 : ∀ (G : Nat) (k j : Int), ¬ rMdP m14_ G j → γ 3 G k j = γ 2 G k j := c3
  have c4 : γ 4 = rUp (γ 3) 80 0 (ρ 21 + (4 * ρ 12 + 32 * ρ 11)) (ρ 36) := c4
  have c5 : γ 5 = rUp (γ 4) 81 0 (ρ 21 + (4 * ρ 12 + 32 * ρ 11)) (ρ 35) := c5
  have c6 : ∀ (G : Nat) (k j : Int), ¬ rMdP m6_ G j → γ 6 G k j = γ 5 G k j := c6
  have c7 : ∀ (G : Nat) (k j : Int), ¬ rMdP m0_ G j → γ 7 G k j = γ 6 G k j := c7
  obtain ⟨l0, l1, l2, l3, l4, l5, l6, l7, -⟩ := hl
  have l0 : sn7 [ρ 22, ρ 2] (γ 1) 0 0 (γ 2) := hS7 _ _ _ _ _ l0
  have l1 : sn20 [1, ρ 30, ρ 2, ρ 23, ρ 24, ρ 31, ρ 28, ρ 16, ρ 26, ρ 27, ρ 11] (γ 2) 0 1 (γ 3) := hS20 _ _ _ _ _ l1
  have l2 : zOpP (.l2i) (γ 0) (γ 1) [ρ 35] (ρ 39) := l2
  have l3 : zOpP (.ishl) (γ 0) (γ 1) [1, ρ 39] (ρ 40) := l3
  have l4 : zOpP (.ior) (γ 0) (γ 1) [ρ 20, ρ 40] (ρ 41) := l4
  have l5 : sn7 [ρ 32, ρ 2] (γ 5) 0 0 (γ 6) := hS7 _ _ _ _ _ l5
  have l6 : sn6 [ρ 42, ρ 2] (γ 6) 0 (ρ 43) (γ 7) := hS6 _ _ _ _ _ l6
  have l7 : ρ 43 ≠ 44 := l7
  show jn41 [ρ 0, ρ 1, ρ 2, ρ 3, ρ 4, ρ 5, ρ 6, ρ 7, ρ 8, ρ 9, ρ 10, ρ 11, ρ 12, ρ 13, ρ 14, ρ 15, ρ 16, ρ 17, ρ 18] (γ 0) 0 [ρ 0, ρ 1, ρ 2, ρ 3, ρ 4, ρ 5, ρ 6, ρ 7, ρ 8, ρ 9, ρ 10, ρ 11, ρ 12, ρ 13, ρ 14, ρ 15, ρ 16, ρ 17, ρ 18, 0, ρ 41, ρ 21 + 1, ρ 42, ρ 33, ρ 34, ρ 25, ρ 37, ρ 38, ρ 36, ρ 44] (γ 7)
  have hD : en41 (γ 0) (0, [ρ 0, ρ 19, ρ 20, ρ 21], γ 1) = .inl (0, [ρ 0, 0, ρ 41, ρ 21 + 1], γ 7) := by
    unfold en41
    refine (if_pos (show (0 : Nat) = 0 by decide)).trans ?_
    refine (zLet_eq (show _ = γ 1 from rfl)).trans ?_
    refine (zLet_eq (show _ = ρ 0 from rfl)).trans ?_
    refine (zLet_eq (show _ = ρ 19 from rfl)).trans ?_
    refine (zLet_eq (show _ = ρ 20 from rfl)).trans ?_
    refine (zLet_eq (show _ = ρ 21 from rfl)).trans ?_
    refine (zLet_eq m1).trans ?_
    refine (zLet_eq m5).trans ?_
    refine (zLet_eq m6).trans ?_
    refine (zLet_eq m7).trans ?_
    refine (zLet_eq m10).trans ?_
    refine (zLet_eq m11).trans ?_
    refine (zLet_eq m17).trans ?_
    refine (if_neg (show ¬ (ρ 19 = 0) by omega)).trans ?_
    refine (zLet_eq (show fn7 [] (γ 1) = (0, 0, γ 2) from l0.symm)).trans ?_
    refine (zLet_eq (show _ = γ 2 from rfl)).trans ?_
    refine (zLet_eq m27).trans ?_
    refine (if_pos (show ρ 21 ≠ 4 by omega)).trans ?_
    refine (zLet_eq (show fn20 [1] (γ 2) = (0, 1, γ 3) from l1.symm)).trans ?_
    refine (zLet_eq (show _ = γ 3 from rfl)).trans ?_
    refine (if_pos (show (1 : Int) ≤ 1 by omega)).trans ?_
    refine (zLet_eq m32).trans ?_
    refine (zLet_eq m33).trans ?_
    refine (zLet_eq c4.symm).trans ?_
    refine (zLet_eq c5.symm).trans ?_
    refine (if_neg (show ¬ (ρ 36 ≠ 1) by omega)).trans ?_
    refine (if_pos (show ρ 0 = 0 by omega)).trans ?_
    refine (zLet_eq (zF1_ok l2)).trans ?_
    refine (zLet_eq (zF2_ok l3)).trans ?_
    refine (zLet_eq (zF2_ok l4)).trans ?_
    refine (zLet_eq (show fn7 [] (γ 5) = (0, 0, γ 6) from l5.symm)).trans ?_
    refine (zLet_eq (show _ = γ 6 from rfl)).trans ?_
    refine (zLet_eq m37).trans ?_
    refine (zLet_eq (show fn6 [ρ 42] (γ 6) = (0, ρ 43, γ 7) from l6.symm)).trans ?_
    refine (zLet_eq (show _ = γ 7 from rfl)).trans ?_
    refine (if_pos (show 0 ≤ -ρ 42 + ρ 2 + (-1) by omega)).trans ?_
    refine (zLet_eq (show _ = ρ 43 from rfl)).trans ?_
    refine (if_pos (show ρ 43 ≠ 44 by omega)).trans ?_
    rfl
  exact zGoo_ato hJ hD
theorem vn41a0_14 {S : Nat → zSpc} (hS6 : ∀ x g o v gz, S 6 x g o v gz → sn6 x g o v gz) (hS7 : ∀ x g o v gz, S 7 x g o v gz → sn7 x g o v gz) (hS8 : ∀ x g o v gz, S 8 x g o v gz → sn8 x g o v gz) (hS20 : ∀ x g o v gz, S 20 x g o v gz → sn20 x g o v gz) (hS21 : ∀ x g o v gz, S 21 x g o v gz → sn21 x g o v gz) (hS24 : ∀ x g o v gz, S 24 x g o v gz → sn24 x g o v gz) (hS25 : ∀ x g o v gz, S 25 x g o v gz → sn25 x g o v gz) (hS33 : ∀ x g o v gz, S 33 x g o v gz → sn33 x g o v gz) (hS39 : ∀ x g o v gz, S 39 x g o v gz → sn39 x g o v gz) {a : List Int} {g : rHp} : ∀ (ρ : Nat → Int) (γ : Nat → rHp), jn41 a g 0 (zAg (zNA a41_ 0) ρ) (γ 1) → zO 19 S a g q41a0_14 ρ γ → zGl (fun i vs g1 => jn41 a g i vs g1) (sn41 a g) q41a0_14 ρ γ := by
  intro ρ γ hJ h
  obtain ⟨ha, hg, hr, hf, hm, hc, hl⟩ := h
  have ha : a = [ρ 0, ρ 1, ρ 2, ρ 3, ρ 4, ρ 5, ρ 6, ρ 7, ρ 8, ρ 9, ρ 10, ρ 11, ρ 12, ρ 13, ρ 14, ρ 15, ρ 16, ρ 17, ρ 18] := ha
  subst ha
  subst hg
  have hJ : jn41 [ρ 0, ρ 1, ρ 2, ρ 3, ρ 4, ρ 5, ρ 6, ρ 7, ρ 8, ρ 9, ρ 10, ρ 11, ρ 12, ρ 13, ρ 14, ρ 15, ρ 16, ρ 17, ρ 18] (γ 0) 0 [ρ 0, ρ 1, ρ 2, ρ 3, ρ 4, ρ 5, ρ 6, ρ 7, ρ 8, ρ 9, ρ 10, ρ 11, ρ 12, ρ 13, ρ 14, ρ 15, ρ 16, ρ 17, ρ 18, ρ 19, ρ 20, ρ 21, ρ 22, ρ 23, ρ 24, ρ 25, ρ 26, ρ 27, ρ 28, ρ 29] (γ 1) := hJ
  obtain ⟨r0, r1, r2, r3, r4, r5, r6, r7, r8, r9, r10, r11, r12, r13, r14, r15, r16, r17, r18, r19, r20, r21, r22, r23, r24, r25, r26, r27, r28, r29, r30, r31, r32, r33, r34, r35, r36, r37, r38, r39, r40, r41, r42, r43, r44, -⟩ := hr
  have r0 : (0 : Int) ≤ ρ 0 ∧ ρ 0 ≤ 0 := r0
  have r1 : (0 : Int) ≤ ρ 1 ∧ ρ 1 ≤ 2000 := r1
  have r2 : (1 : Int) ≤ ρ 2 ∧ ρ 2 ≤ 2000 := r2
  have r3 : (0 : Int) ≤ ρ 3 ∧ ρ 3 ≤ 12288 := r3
  have r4 : (0 : Int) ≤ ρ 4 ∧ ρ 4 ≤ 12288 := r4
  have r5 : (0 : Int) ≤ ρ 5 ∧ ρ 5 ≤ 64 := r5
  have r6 : (0 : Int) ≤ ρ 6 ∧ ρ 6 ≤ 2000 := r6
  have r7 : (0 : Int) ≤ ρ 7 ∧ ρ 7 ≤ 12 := r7
  have r8 : (0 : Int) ≤ ρ 8 ∧ ρ 8 ≤ 20 := r8
  have r9 : (0 : Int) ≤ ρ 9 ∧ ρ 9 ≤ 60 := r9
  have r10 : (0 : Int) ≤ ρ 10 ∧ ρ 10 ≤ 60 := r10
  have r11 : (0 : Int) ≤ ρ 11 ∧ ρ 11 ≤ 61 := r11
  have r12 : (0 : Int) ≤ ρ 12 ∧ ρ 12 ≤ 7 := r12
  have r13 : (0 : Int) ≤ ρ 13 ∧ ρ 13 ≤ 7 := r13
  have r14 : ((-2147483648) : Int) ≤ ρ 14 ∧ ρ 14 ≤ 1099511640064 := r14
  have r15 : (0 : Int) ≤ ρ 15 ∧ ρ 15 ≤ 19 := r15
  have r16 : (0 : Int) ≤ ρ 16 ∧ ρ 16 ≤ 2000 := r16
  have r17 : (0 : Int) ≤ ρ 17 ∧ ρ 17 ≤ 3 := r17
  have r18 : ((-2147483648) : Int) ≤ ρ 18 ∧ ρ 18 ≤ 2147483647 := r18
  have r19 : (1 : Int) ≤ ρ 19 ∧ ρ 19 ≤ 1 := r19
  have r20 : ((-2147483648) : Int) ≤ ρ 20 ∧ ρ 20 ≤ 2147483647 := r20
  have r21 : (0 : Int) ≤ ρ 21 ∧ ρ 21 ≤ 3 := r21
  have r22 : (1 : Int) ≤ ρ 22 ∧ ρ 22 ≤ 2000 := r22
  have r23 : (0 : Int) ≤ ρ 23 ∧ ρ 23 ≤ 12288 := r23
  have r24 : (0 : Int) ≤ ρ 24 ∧ ρ 24 ≤ 12288 := r24
  have r25 : (0 : Int) ≤ ρ 25 ∧ ρ 25 ≤ 40 := r25
  have r26 : (0 : Int) ≤ ρ 26 ∧ ρ 26 ≤ 2000 := r26
  have r27 : (0 : Int) ≤ ρ 27 ∧ ρ 27 ≤ 2000 := r27
  have r28 : (0 : Int) ≤ ρ 28 ∧ ρ 28 ≤ 3 := r28
  have r29 : ((-2147483648) : Int) ≤ ρ 29 ∧ ρ 29 ≤ 1099511640064 := r29
  have r30 : (0 : Int) ≤ ρ 30 ∧ ρ 30 ≤ 2000 := r30
  have r31 : ((-2147483648) : Int) ≤ ρ 31 ∧ ρ 31 ≤ 1099511640064 := r31
  have r32 : (1 : Int) ≤ ρ 32 ∧ ρ 32 ≤ 2000 := r32
  have r33 : (0 : Int) ≤ ρ 33 ∧ ρ 33 ≤ 12288 := r33
  have r34 : (0 : Int) ≤ ρ 34 ∧ ρ 34 ≤ 12288 := r34
  have r35 : ((-2147483648) : Int) ≤ ρ 35 ∧ ρ 35 ≤ 1099511640064 := r35
  have r36 : (1 : Int) ≤ ρ 36 ∧ ρ 36 ≤ 1 := r36
  have r37 : (0 : Int) ≤ ρ 37 ∧ ρ 37 ≤ 2000 := r37
  have r38 : (0 : Int) ≤ ρ 38 ∧ ρ 38 ≤ 2000 := r38
  have r39 : ((-2147483648) : Int) ≤ ρ 39 ∧ ρ 39 ≤ 2147483647 := r39
  have r40 : ((-2147483648) : Int) ≤ ρ 40 ∧ ρ 40 ≤ 2147483647 := r40
  have r41 : ((-2147483648) : Int) ≤ ρ 41 ∧ ρ 41 ≤ 2147483647 := r41
  have r42 : (0 : Int) ≤ ρ 42 ∧ ρ 42 ≤ 2000 := r42
  have r43 : (44 : Int) ≤ ρ 43 ∧ ρ 43 ≤ 44 := r43
  have r44 : ((-2147483648) : Int) ≤ ρ 44 ∧ ρ 44 ≤ 1099511640064 := r44
  obtain ⟨f0, f1, f2, f3, f4, f5, f6, f7, f8, f9, f10, f11, f12, f13, f14, f15, f16, f17, f18, f19, f20, f21, f22, f23, f24, f25, f26, f27, f28, f29, f30, f31, f32, f33, -⟩ := hf
  have f0 : (0 : Int) ≤ -ρ 42 + ρ 2 + (-1) := f0
  have f1 : (0 : Int) ≤ -ρ 32 + ρ 2 := f1
  have f2 : (0 : Int) ≤ ρ 42 + -ρ 32 := f2
  have f3 : (0 : Int) ≤ -ρ 42 + ρ 2 := f3
  have f4 : (0 : Int) ≤ ρ 30 + (-ρ 23 + -ρ 2) + 12288 := f4
  have f5 : (0 : Int) ≤ ρ 30 + (-ρ 24 + -ρ 2) + 12288 := f5
  have f6 : (0 : Int) ≤ -ρ 30 + ρ 2 := f6
  have f7 : (0 : Int) ≤ ρ 32 + -ρ 30 + (-1) := f7
  have f8 : (0 : Int) ≤ ρ 33 + -ρ 23 := f8
  have f9 : (0 : Int) ≤ ρ 34 + -ρ 24 := f9
  have f10 : (0 : Int) ≤ -ρ 30 + ρ 2 + (-1) := f10
  have f11 : (0 : Int) ≤ -ρ 33 + (ρ 32 + (-ρ 30 + ρ 23)) := f11
  have f12 : (0 : Int) ≤ -ρ 34 + (ρ 32 + (-ρ 30 + ρ 24)) := f12
  have f13 : (0 : Int) ≤ -ρ 22 + ρ 2 := f13
  have f14 : (0 : Int) ≤ ρ 30 + -ρ 22 := f14
  have f15 : (0 : Int) ≤ -ρ 25 + (ρ 21 + 4 * ρ 12) + 6 := f15
  have f16 : (0 : Int) ≤ -ρ 25 + 4 * ρ 12 + 10 := f16
  have f17 : (0 : Int) ≤ -ρ 24 + (ρ 22 + -ρ 2) + 12288 := f17
  have f18 : (0 : Int) ≤ -ρ 23 + (ρ 22 + -ρ 2) + 12288 := f18
  have f19 : (0 : Int) ≤ -ρ 24 + (ρ 22 + (ρ 4 + -ρ 1)) := f19
  have f20 : (0 : Int) ≤ -ρ 23 + (ρ 22 + (ρ 3 + -ρ 1)) := f20
  have f21 : (0 : Int) ≤ -ρ 7 + -ρ 6 + 2000 := f21
  have f22 : (0 : Int) ≤ -ρ 21 + ρ 2 := f22
  have f23 : (0 : Int) ≤ ρ 25 + -ρ 5 := f23
  have f24 : (0 : Int) ≤ ρ 24 + -ρ 4 := f24
  have f25 : (0 : Int) ≤ ρ 23 + -ρ 3 := f25
  have f26 : (0 : Int) ≤ ρ 22 + -ρ 1 + (-1) := f26
  have f27 : (0 : Int) ≤ ρ 22 + -ρ 21 + (-1) := f27
  have f28 : (0 : Int) ≤ 4 * ρ 12 + -ρ 5 + 6 := f28
  have f29 : (0 : Int) ≤ -ρ 11 + (ρ 10 + ρ 9) := f29
  have f30 : (0 : Int) ≤ ρ 11 + (-ρ 10 + -ρ 9) := f30
  have f31 : (0 : Int) ≤ ρ 2 + -ρ 1 + (-1) := f31
  have f32 : (0 : Int) ≤ -ρ 4 + (-ρ 2 + ρ 1) + 12288 := f32
  have f33 : (0 : Int) ≤ -ρ 3 + (-ρ 2 + ρ 1) + 12288 := f33
  obtain ⟨m0, m1, m2, m3, m4, m5, m6, m7, m8, m9, m10, m11, m12, m13, m14, m15, m16, m17, m18, m19, m20, m21, m22, m23, m24, m25, m26, m27, m28, m29, m30, m31, m32, m33, m34, m35, m36, m37, m38, -⟩ := hm
  have m0 : γ 0 15 0 35 = ρ 1 := m0
  have m1 : γ 0 15 0 34 = ρ 2 := m1
  have m2 : γ 0 15 0 8 = ρ 3 := m2
  have m3 : γ 0 15 0 9 = ρ 4 := m3
  have m4 : γ 0 15 0 58 = ρ 5 := m4
  have m5 : γ 0 15 0 37 = ρ 6 := m5
  have m6 : γ 0 15 0 38 = ρ 7 := m6
  have m7 : γ 0 15 0 14 = ρ 8 := m7
  have m8 : γ 0 15 0 32 = ρ 9 := m8
  have m9 : γ 0 15 0 33 = ρ 10 := m9
  have m10 : γ 0 15 0 44 = ρ 11 := m10
  have m11 : γ 0 73 0 (ρ 11) = ρ 12 := m11
  have m12 : γ 0 77 0 (ρ 12 + 8 * ρ 11) = ρ 13 := m12
  have m13 : γ 0 81 0 (4 * ρ 12 + 32 * ρ 11) = ρ 14 := m13
  have m14 : γ 0 78 0 (ρ 12 + 8 * ρ 11) = ρ 15 := m14
  have m15 : γ 0 15 0 36 = ρ 16 := m15
  have m16 : γ 0 15 0 40 = ρ 17 := m16
  have m17 : γ 0 15 0 45 = ρ 18 := m17
  have m18 : γ 1 15 0 35 = ρ 22 := m18
  have m19 : γ 1 15 0 8 = ρ 23 := m19
  have m20 : γ 1 15 0 9 = ρ 24 := m20
  have m21 : γ 1 15 0 58 = ρ 25 := m21
  have m22 : γ 1 15 0 37 = ρ 26 := m22
  have m23 : γ 1 15 0 38 = ρ 27 := m23
  have m24 : γ 1 15 0 36 = ρ 16 := m24
  have m25 : γ 1 15 0 40 = ρ 28 := m25
  have m26 : γ 1 81 0 (4 * ρ 12 + 32 * ρ 11) = ρ 29 := m26
  have m27 : γ 2 15 0 35 = ρ 30 := m27
  have m28 : γ 1 15 0 39 = ρ 31 := m28
  have m29 : γ 3 15 0 35 = ρ 32 := m29
  have m30 : γ 3 15 0 8 = ρ 33 := m30
  have m31 : γ 3 15 0 9 = ρ 34 := m31
  have m32 : γ 3 15 0 39 = ρ 35 := m32
  have m33 : γ 3 15 0 40 = ρ 36 := m33
  have m34 : γ 3 15 0 36 = ρ 16 := m34
  have m35 : γ 3 15 0 37 = ρ 37 := m35
  have m36 : γ 3 15 0 38 = ρ 38 := m36
  have m37 : γ 6 15 0 35 = ρ 42 := m37
  have m38 : γ 5 81 0 (4 * ρ 12 + 32 * ρ 11) = ρ 44 := m38
  obtain ⟨⟨⟨⟨⟨⟨⟨⟨-, c1⟩, c2⟩, c3⟩, c4⟩, c5⟩, c6⟩, c7⟩, c8⟩ := hc
  have c1 : ∀ (G : Nat) (k j : Int), ¬ rMdP m26_ G j → γ 1 G k j = γ 0 G k j := c1
  have c2 : ∀ (G : Nat) (k j : Int), ¬ rMdP m6_ G j → γ 2 G k j = γ 1 G k j := c2
  have c3 : ∀ (G : Nat) (k j : Int), ¬ rMdP m14_ G j → γ 3 G k j = γ 2 G k j := c3
  have c4 : γ 4 = rUp (γ 3) 80 0 (ρ 21 + (4 * ρ 12 + 32 * ρ 11)) (ρ 36) := c4
  have c5 : γ 5 = rUp (γ 4) 81 0 (ρ 21 + (4 * ρ 12 + 32 * ρ 11)) (ρ 35) := c5
  have c6 : ∀ (G : Nat) (k j : Int), ¬ rMdP m6_ G j → γ 6 G k j = γ 5 G k j := c6
  have c7 : ∀ (G : Nat) (k j : Int), ¬ rMdP m0_ G j → γ 7 G k j = γ 6 G k j := c7
  have c8 : γ 8 = rUp (γ 7) 15 0 35 (ρ 42 + 1) := c8
  obtain ⟨l0, l1, l2, l3, l4, l5, l6, -⟩ := hl
  have l0 : sn7 [ρ 22, ρ 2] (γ 1) 0 0 (γ 2) := hS7 _ _ _ _ _ l0
  have l1 : sn20 [1, ρ 30, ρ 2, ρ 23, ρ 24, ρ 31, ρ 28, ρ 16, ρ 26, ρ 27, ρ 11] (γ 2) 0 1 (γ 3) := hS20 _ _ _ _ _ l1
  have l2 : zOpP (.l2i) (γ 0) (γ 1) [ρ 35] (ρ 39) := l2
  have l3 : zOpP (.ishl) (γ 0) (γ 1) [1, ρ 39] (ρ 40) := l3
  have l4 : zOpP (.ior) (γ 0) (γ 1) [ρ 20, ρ 40] (ρ 41) := l4
  have l5 : sn7 [ρ 32, ρ 2] (γ 5) 0 0 (γ 6) := hS7 _ _ _ _ _ l5
  have l6 : sn6 [ρ 42, ρ 2] (γ 6) 0 (ρ 43) (γ 7) := hS6 _ _ _ _ _ l6
  show jn41 [ρ 0, ρ 1, ρ 2, ρ 3, ρ 4, ρ 5, ρ 6, ρ 7, ρ 8, ρ 9, ρ 10, ρ 11, ρ 12, ρ 13, ρ 14, ρ 15, ρ 16, ρ 17, ρ 18] (γ 0) 0 [ρ 0, ρ 1, ρ 2, ρ 3, ρ 4, ρ 5, ρ 6, ρ 7, ρ 8, ρ 9, ρ 10, ρ 11, ρ 12, ρ 13, ρ 14, ρ 15, ρ 16, ρ 17, ρ 18, 1, ρ 41, ρ 21 + 1, ρ 42 + 1, ρ 33, ρ 34, ρ 25, ρ 37, ρ 38, ρ 36, ρ 44] (γ 8)
  have hD : en41 (γ 0) (0, [ρ 0, ρ 19, ρ 20, ρ 21], γ 1) = .inl (0, [ρ 0, 1, ρ 41, ρ 21 + 1], γ 8) := by
    unfold en41
    refine (if_pos (show (0 : Nat) = 0 by decide)).trans ?_
    refine (zLet_eq (show _ = γ 1 from rfl)).trans ?_
    refine (zLet_eq (show _ = ρ 0 from rfl)).trans ?_
    refine (zLet_eq (show _ = ρ 19 from rfl)).trans ?_
    refine (zLet_eq (show _ = ρ 20 from rfl)).trans ?_
    refine (zLet_eq (show _ = ρ 21 from rfl)).trans ?_
    refine (zLet_eq m1).trans ?_
    refine (zLet_eq m5).trans ?_
    refine (zLet_eq m6).trans ?_
    refine (zLet_eq m7).trans ?_
    refine (zLet_eq m10).trans ?_
    refine (zLet_eq m11).trans ?_
    refine (zLet_eq m17).trans ?_
    refine (if_neg (show ¬ (ρ 19 = 0) by omega)).trans ?_
    refine (zLet_eq (show fn7 [] (γ 1) = (0, 0, γ 2) from l0.symm)).trans ?_
    refine (zLet_eq (show _ = γ 2 from rfl)).trans ?_
    refine (zLet_eq m27).trans ?_
    refine (if_pos (show ρ 21 ≠ 4 by omega)).trans ?_
    refine (zLet_eq (show fn20 [1] (γ 2) = (0, 1, γ 3) from l1.symm)).trans ?_
    refine (zLet_eq (show _ = γ 3 from rfl)).trans ?_
    refine (if_pos (show (1 : Int) ≤ 1 by omega)).trans ?_
    refine (zLet_eq m32).trans ?_
    refine (zLet_eq m33).trans ?_
    refine (zLet_eq c4.symm).trans ?_
    refine (zLet_eq c5.symm).trans ?_
    refine (if_neg (show ¬ (ρ 36 ≠ 1) by omega)).trans ?_
    refine (if_pos (show ρ 0 = 0 by omega)).trans ?_
    refine (zLet_eq (zF1_ok l2)).trans ?_
    refine (zLet_eq (zF2_ok l3)).trans ?_
    refine (zLet_eq (zF2_ok l4)).trans ?_
    refine (zLet_eq (show fn7 [] (γ 5) = (0, 0, γ 6) from l5.symm)).trans ?_
    refine (zLet_eq (show _ = γ 6 from rfl)).trans ?_
    refine (zLet_eq m37).trans ?_
    refine (zLet_eq (show fn6 [ρ 42] (γ 6) = (0, ρ 43, γ 7) from l6.symm)).trans ?_
    refine (zLet_eq (show _ = γ 7 from rfl)).trans ?_
    refine (if_pos (show 0 ≤ -ρ 42 + ρ 2 + (-1) by omega)).trans ?_
    refine (zLet_eq (show _ = ρ 43 from rfl)).trans ?_
    refine (if_neg (show ¬ (ρ 43 ≠ 44) by omega)).trans ?_
    refine (zLet_eq c8.symm).trans ?_
    rfl
  exact zGoo_ato hJ hD
theorem vn41a0_15 {S : Nat → zSpc} (hS6 : ∀ x g o v gz, S 6 x g o v gz → sn6 x g o v gz) (hS7 : ∀ x g o v gz, S 7 x g o v gz → sn7 x g o v gz) (hS8 : ∀ x g o v gz, S 8 x g o v gz → sn8 x g o v gz) (hS20 : ∀ x g o v gz, S 20 x g o v gz → sn20 x g o v gz) (hS21 : ∀ x g o v gz, S 21 x g o v gz → sn21 x g o v gz) (hS24 : ∀ x g o v gz, S 24 x g o v gz → sn24 x g o v gz) (hS25 : ∀ x g o v gz, S 25 x g o v gz → sn25 x g o v gz) (hS33 : ∀ x g o v gz, S 33 x g o v gz → sn33 x g o v gz) (hS39 : ∀ x g o v gz, S 39 x g o v gz → sn39 x g o v gz) {a : List Int} {g : rHp} : ∀ (ρ : Nat → Int) (γ : Nat → rHp), jn41 a g 0 (zAg (zNA a41_ 0) ρ) (γ 1) → zO 19 S a g q41a0_15 ρ γ → zGl (fun i vs g1 => jn41 a g i vs g1) (sn41 a g) q41a0_15 ρ γ := by
  intro ρ γ hJ h
  obtain ⟨ha, hg, hr, hf, hm, hc, hl⟩ := h
  have ha : a = [ρ 0, ρ 1, ρ 2, ρ 3, ρ 4, ρ 5, ρ 6, ρ 7, ρ 8, ρ 9, ρ 10, ρ 11, ρ 12, ρ 13, ρ 14, ρ 15, ρ 16, ρ 17, ρ 18] := ha
  subst ha
  subst hg
  have hJ : jn41 [ρ 0, ρ 1, ρ 2, ρ 3, ρ 4, ρ 5, ρ 6, ρ 7, ρ 8, ρ 9, ρ 10, ρ 11, ρ 12, ρ 13, ρ 14, ρ 15, ρ 16, ρ 17, ρ 18] (γ 0) 0 [ρ 0, ρ 1, ρ 2, ρ 3, ρ 4, ρ 5, ρ 6, ρ 7, ρ 8, ρ 9, ρ 10, ρ 11, ρ 12, ρ 13, ρ 14, ρ 15, ρ 16, ρ 17, ρ 18, ρ 19, ρ 20, ρ 21, ρ 22, ρ 23, ρ 24, ρ 25, ρ 26, ρ 27, ρ 28, ρ 29] (γ 1) := hJ
  obtain ⟨r0, r1, r2, r3, r4, r5, r6, r7, r8, r9, r10, r11, r12, r13, r14, r15, r16, r17, r18, r19, r20, r21, r22, r23, r24, r25, r26, r27, r28, r29, r30, r31, r32, r33, r34, r35, r36, r37, r38, r39, r40, r41, r42, r43, -⟩ := hr
  have r0 : (0 : Int) ≤ ρ 0 ∧ ρ 0 ≤ 0 := r0
  have r1 : (0 : Int) ≤ ρ 1 ∧ ρ 1 ≤ 2000 := r1
  have r2 : (1 : Int) ≤ ρ 2 ∧ ρ 2 ≤ 2000 := r2
  have r3 : (0 : Int) ≤ ρ 3 ∧ ρ 3 ≤ 12288 := r3
  have r4 : (0 : Int) ≤ ρ 4 ∧ ρ 4 ≤ 12288 := r4
  have r5 : (0 : Int) ≤ ρ 5 ∧ ρ 5 ≤ 64 := r5
  have r6 : (0 : Int) ≤ ρ 6 ∧ ρ 6 ≤ 2000 := r6
  have r7 : (0 : Int) ≤ ρ 7 ∧ ρ 7 ≤ 12 := r7
  have r8 : (0 : Int) ≤ ρ 8 ∧ ρ 8 ≤ 20 := r8
  have r9 : (0 : Int) ≤ ρ 9 ∧ ρ 9 ≤ 60 := r9
  have r10 : (0 : Int) ≤ ρ 10 ∧ ρ 10 ≤ 60 := r10
  have r11 : (0 : Int) ≤ ρ 11 ∧ ρ 11 ≤ 61 := r11
  have r12 : (0 : Int) ≤ ρ 12 ∧ ρ 12 ≤ 7 := r12
  have r13 : (0 : Int) ≤ ρ 13 ∧ ρ 13 ≤ 7 := r13
  have r14 : ((-2147483648) : Int) ≤ ρ 14 ∧ ρ 14 ≤ 1099511640064 := r14
  have r15 : (0 : Int) ≤ ρ 15 ∧ ρ 15 ≤ 19 := r15
  have r16 : (0 : Int) ≤ ρ 16 ∧ ρ 16 ≤ 2000 := r16
  have r17 : (0 : Int) ≤ ρ 17 ∧ ρ 17 ≤ 3 := r17
  have r18 : ((-2147483648) : Int) ≤ ρ 18 ∧ ρ 18 ≤ 2147483647 := r18
  have r19 : (1 : Int) ≤ ρ 19 ∧ ρ 19 ≤ 1 := r19
  have r20 : ((-2147483648) : Int) ≤ ρ 20 ∧ ρ 20 ≤ 2147483647 := r20
  have r21 : (0 : Int) ≤ ρ 21 ∧ ρ 21 ≤ 3 := r21
  have r22 : (1 : Int) ≤ ρ 22 ∧ ρ 22 ≤ 2000 := r22
  have r23 : (0 : Int) ≤ ρ 23 ∧ ρ 23 ≤ 12288 := r23
  have r24 : (0 : Int) ≤ ρ 24 ∧ ρ 24 ≤ 12288 := r24
  have r25 : (0 : Int) ≤ ρ 25 ∧ ρ 25 ≤ 40 := r25
  have r26 : (0 : Int) ≤ ρ 26 ∧ ρ 26 ≤ 2000 := r26
  have r27 : (0 : Int) ≤ ρ 27 ∧ ρ 27 ≤ 2000 := r27
  have r28 : (0 : Int) ≤ ρ 28 ∧ ρ 28 ≤ 3 := r28
  have r29 : ((-2147483648) : Int) ≤ ρ 29 ∧ ρ 29 ≤ 1099511640064 := r29
  have r30 : (0 : Int) ≤ ρ 30 ∧ ρ 30 ≤ 2000 := r30
  have r31 : ((-2147483648) : Int) ≤ ρ 31 ∧ ρ 31 ≤ 1099511640064 := r31
  have r32 : (1 : Int) ≤ ρ 32 ∧ ρ 32 ≤ 2000 := r32
  have r33 : (0 : Int) ≤ ρ 33 ∧ ρ 33 ≤ 12288 := r33
  have r34 : (0 : Int) ≤ ρ 34 ∧ ρ 34 ≤ 12288 := r34
  have r35 : ((-2147483648) : Int) ≤ ρ 35 ∧ ρ 35 ≤ 1099511640064 := r35
  have r36 : (1 : Int) ≤ ρ 36 ∧ ρ 36 ≤ 1 := r36
  have r37 : (0 : Int) ≤ ρ 37 ∧ ρ 37 ≤ 2000 := r37
  have r38 : (0 : Int) ≤ ρ 38 ∧ ρ 38 ≤ 2000 := r38
  have r39 : ((-2147483648) : Int) ≤ ρ 39 ∧ ρ 39 ≤ 2147483647 := r39
  have r40 : ((-2147483648) : Int) ≤ ρ 40 ∧ ρ 40 ≤ 2147483647 := r40
  have r41 : ((-2147483648) : Int) ≤ ρ 41 ∧ ρ 41 ≤ 2147483647 := r41
  have r42 : (0 : Int) ≤ ρ 42 ∧ ρ 42 ≤ 2000 := r42
  have r43 : ((-2147483648) : Int) ≤ ρ 43 ∧ ρ 43 ≤ 1099511640064 := r43
  obtain ⟨f0, f1, f2, f3, f4, f5, f6, f7, f8, f9, f10, f11, f12, f13, f14, f15, f16, f17, f18, f19, f20, f21, f22, f23, f24, f25, f26, f27, f28, f29, f30, f31, f32, f33, -⟩ := hf
  have f0 : (0 : Int) ≤ ρ 42 + -ρ 2 := f0
  have f1 : (0 : Int) ≤ -ρ 32 + ρ 2 := f1
  have f2 : (0 : Int) ≤ ρ 42 + -ρ 32 := f2
  have f3 : (0 : Int) ≤ -ρ 42 + ρ 2 := f3
  have f4 : (0 : Int) ≤ ρ 30 + (-ρ 23 + -ρ 2) + 12288 := f4
  have f5 : (0 : Int) ≤ ρ 30 + (-ρ 24 + -ρ 2) + 12288 := f5
  have f6 : (0 : Int) ≤ -ρ 30 + ρ 2 := f6
  have f7 : (0 : Int) ≤ ρ 32 + -ρ 30 + (-1) := f7
  have f8 : (0 : Int) ≤ ρ 33 + -ρ 23 := f8
  have f9 : (0 : Int) ≤ ρ 34 + -ρ 24 := f9
  have f10 : (0 : Int) ≤ -ρ 30 + ρ 2 + (-1) := f10
  have f11 : (0 : Int) ≤ -ρ 33 + (ρ 32 + (-ρ 30 + ρ 23)) := f11
  have f12 : (0 : Int) ≤ -ρ 34 + (ρ 32 + (-ρ 30 + ρ 24)) := f12
  have f13 : (0 : Int) ≤ -ρ 22 + ρ 2 := f13
  have f14 : (0 : Int) ≤ ρ 30 + -ρ 22 := f14
  have f15 : (0 : Int) ≤ -ρ 25 + (ρ 21 + 4 * ρ 12) + 6 := f15
  have f16 : (0 : Int) ≤ -ρ 25 + 4 * ρ 12 + 10 := f16
  have f17 : (0 : Int) ≤ -ρ 24 + (ρ 22 + -ρ 2) + 12288 := f17
  have f18 : (0 : Int) ≤ -ρ 23 + (ρ 22 + -ρ 2) + 12288 := f18
  have f19 : (0 : Int) ≤ -ρ 24 + (ρ 22 + (ρ 4 + -ρ 1)) := f19
  have f20 : (0 : Int) ≤ -ρ 23 + (ρ 22 + (ρ 3 + -ρ 1)) := f20
  have f21 : (0 : Int) ≤ -ρ 7 + -ρ 6 + 2000 := f21
  have f22 : (0 : Int) ≤ -ρ 21 + ρ 2 := f22
  have f23 : (0 : Int) ≤ ρ 25 + -ρ 5 := f23
  have f24 : (0 : Int) ≤ ρ 24 + -ρ 4 := f24
  have f25 : (0 : Int) ≤ ρ 23 + -ρ 3 := f25
  have f26 : (0 : Int) ≤ ρ 22 + -ρ 1 + (-1) := f26
  have f27 : (0 : Int) ≤ ρ 22 + -ρ 21 + (-1) := f27
  have f28 : (0 : Int) ≤ 4 * ρ 12 + -ρ 5 + 6 := f28
  have f29 : (0 : Int) ≤ -ρ 11 + (ρ 10 + ρ 9) := f29
  have f30 : (0 : Int) ≤ ρ 11 + (-ρ 10 + -ρ 9) := f30
  have f31 : (0 : Int) ≤ ρ 2 + -ρ 1 + (-1) := f31
  have f32 : (0 : Int) ≤ -ρ 4 + (-ρ 2 + ρ 1) + 12288 := f32
  have f33 : (0 : Int) ≤ -ρ 3 + (-ρ 2 + ρ 1) + 12288 := f33
  obtain ⟨m0, m1, m2, m3, m4, m5, m6, m7, m8, m9, m10, m11, m12, m13, m14, m15, m16, m17, m18, m19, m20, m21, m22, m23, m24, m25, m26, m27, m28, m29, m30, m31, m32, m33, m34, m35, m36, m37, m38, -⟩ := hm
  have m0 : γ 0 15 0 35 = ρ 1 := m0
  have m1 : γ 0 15 0 34 = ρ 2 := m1
  have m2 : γ 0 15 0 8 = ρ 3 := m2
  have m3 : γ 0 15 0 9 = ρ 4 := m3
  have m4 : γ 0 15 0 58 = ρ 5 := m4
  have m5 : γ 0 15 0 37 = ρ 6 := m5
  have m6 : γ 0 15 0 38 = ρ 7 := m6
  have m7 : γ 0 15 0 14 = ρ 8 := m7
  have m8 : γ 0 15 0 32 = ρ 9 := m8
  have m9 : γ 0 15 0 33 = ρ 10 := m9
  have m10 : γ 0 15 0 44 = ρ 11 := m10
  have m11 : γ 0 73 0 (ρ 11) = ρ 12 := m11
  have m12 : γ 0 77 0 (ρ 12 + 8 * ρ 11) = ρ 13 := m12
  have m13 : γ 0 81 0 (4 * ρ 12 + 32 * ρ 11) = ρ 14 := m13
  have m14 : γ 0 78 0 (ρ 12 + 8 * ρ 11) = ρ 15 := m14
  have m15 : γ 0 15 0 36 = ρ 16 := m15
  have m16 : γ 0 15 0 40 = ρ 17 := m16
  have m17 : γ 0 15 0 45 = ρ 18 := m17
  have m18 : γ 1 15 0 35 = ρ 22 := m18
  have m19 : γ 1 15 0 8 = ρ 23 := m19
  have m20 : γ 1 15 0 9 = ρ 24 := m20
  have m21 : γ 1 15 0 58 = ρ 25 := m21
  have m22 : γ 1 15 0 37 = ρ 26 := m22
  have m23 : γ 1 15 0 38 = ρ 27 := m23
  have m24 : γ 1 15 0 36 = ρ 16 := m24
  have m25 : γ 1 15 0 40 = ρ 28 := m25
  have m26 : γ 1 81 0 (4 * ρ 12 + 32 * ρ 11) = ρ 29 := m26
  have m27 : γ 2 15 0 35 = ρ 30 := m27
  have m28 : γ 1 15 0 39 = ρ 31 := m28
  have m29 : γ 3 15 0 35 = ρ 32 := m29
  have m30 : γ 3 15 0 8 = ρ 33 := m30
  have m31 : γ 3 15 0 9 = ρ 34 := m31
  have m32 : γ 3 15 0 39 = ρ 35 := m32
  have m33 : γ 3 15 0 40 = ρ 36 := m33
  have m34 : γ 3 15 0 36 = ρ 16 := m34
  have m35 : γ 3 15 0 37 = ρ 37 := m35
  have m36 : γ 3 15 0 38 = ρ 38 := m36
  have m37 : γ 6 15 0 35 = ρ 42 := m37
  have m38 : γ 5 81 0 (4 * ρ 12 + 32 * ρ 11) = ρ 43 := m38
  obtain ⟨⟨⟨⟨⟨⟨⟨-, c1⟩, c2⟩, c3⟩, c4⟩, c5⟩, c6⟩, c7⟩ := hc
  have c1 : ∀ (G : Nat) (k j : Int), ¬ rMdP m26_ G j → γ 1 G k j = γ 0 G k j := c1
  have c2 : ∀ (G : Nat) (k j : Int), ¬ rMdP m6_ G j → γ 2 G k j = γ 1 G k j := c2
  have c3 : ∀ (G : Nat) (k j : Int), ¬ rMdP m14_ G j → γ 3 G k j = γ 2 G k j := c3
  have c4 : γ 4 = rUp (γ 3) 80 0 (ρ 21 + (4 * ρ 12 + 32 * ρ 11)) (ρ 36) := c4
  have c5 : γ 5 = rUp (γ 4) 81 0 (ρ 21 + (4 * ρ 12 + 32 * ρ 11)) (ρ 35) := c5
  have c6 : ∀ (G : Nat) (k j : Int), ¬ rMdP m6_ G j → γ 6 G k j = γ 5 G k j := c6
  have c7 : ∀ (G : Nat) (k j : Int), ¬ rMdP m0_ G j → γ 7 G k j = γ 6 G k j := c7
  obtain ⟨l0, l1, l2, l3, l4, l5, l6, -⟩ := hl
  have l0 : sn7 [ρ 22, ρ 2] (γ 1) 0 0 (γ 2) := hS7 _ _ _ _ _ l0
  have l1 : sn20 [1, ρ 30, ρ 2, ρ 23, ρ 24, ρ 31, ρ 28, ρ 16, ρ 26, ρ 27, ρ 11] (γ 2) 0 1 (γ 3) := hS20 _ _ _ _ _ l1
  have l2 : zOpP (.l2i) (γ 0) (γ 1) [ρ 35] (ρ 39) := l2
  have l3 : zOpP (.ishl) (γ 0) (γ 1) [1, ρ 39] (ρ 40) := l3
  have l4 : zOpP (.ior) (γ 0) (γ 1) [ρ 20, ρ 40] (ρ 41) := l4
  have l5 : sn7 [ρ 32, ρ 2] (γ 5) 0 0 (γ 6) := hS7 _ _ _ _ _ l5
  have l6 : sn6 [ρ 42, ρ 2] (γ 6) 0 (-1) (γ 7) := hS6 _ _ _ _ _ l6
  show jn41 [ρ 0, ρ 1, ρ 2, ρ 3, ρ 4, ρ 5, ρ 6, ρ 7, ρ 8, ρ 9, ρ 10, ρ 11, ρ 12, ρ 13, ρ 14, ρ 15, ρ 16, ρ 17, ρ 18] (γ 0) 0 [ρ 0, ρ 1, ρ 2, ρ 3, ρ 4, ρ 5, ρ 6, ρ 7, ρ 8, ρ 9, ρ 10, ρ 11, ρ 12, ρ 13, ρ 14, ρ 15, ρ 16, ρ 17, ρ 18, 0, ρ 41, ρ 21 + 1, ρ 42, ρ 33, ρ 34, ρ 25, ρ 37, ρ 38, ρ 36, ρ 43] (γ 7)
  have hD : en41 (γ 0) (0, [ρ 0, ρ 19, ρ 20, ρ 21], γ 1) = .inl (0, [ρ 0, 0, ρ 41, ρ 21 + 1], γ 7) := by
    unfold en41
    refine (if_pos (show (0 : Nat) = 0 by decide)).trans ?_
    refine (zLet_eq (show _ = γ 1 from rfl)).trans ?_
    refine (zLet_eq (show _ = ρ 0 from rfl)).trans ?_
    refine (zLet_eq (show _ = ρ 19 from rfl)).trans ?_
    refine (zLet_eq (show _ = ρ 20 from rfl)).trans ?_
    refine (zLet_eq (show _ = ρ 21 from rfl)).trans ?_
    refine (zLet_eq m1).trans ?_
    refine (zLet_eq m5).trans ?_
    refine (zLet_eq m6).trans ?_
    refine (zLet_eq m7).trans ?_
    refine (zLet_eq m10).trans ?_
    refine (zLet_eq m11).trans ?_
    refine (zLet_eq m17).trans ?_
    refine (if_neg (show ¬ (ρ 19 = 0) by omega)).trans ?_
    refine (zLet_eq (show fn7 [] (γ 1) = (0, 0, γ 2) from l0.symm)).trans ?_
    refine (zLet_eq (show _ = γ 2 from rfl)).trans ?_
    refine (zLet_eq m27).trans ?_
    refine (if_pos (show ρ 21 ≠ 4 by omega)).trans ?_
    refine (zLet_eq (show fn20 [1] (γ 2) = (0, 1, γ 3) from l1.symm)).trans ?_
    refine (zLet_eq (show _ = γ 3 from rfl)).trans ?_
    refine (if_pos (show (1 : Int) ≤ 1 by omega)).trans ?_
    refine (zLet_eq m32).trans ?_
    refine (zLet_eq m33).trans ?_
    refine (zLet_eq c4.symm).trans ?_
    refine (zLet_eq c5.symm).trans ?_
    refine (if_neg (show ¬ (ρ 36 ≠ 1) by omega)).trans ?_
    refine (if_pos (show ρ 0 = 0 by omega)).trans ?_
    refine (zLet_eq (zF1_ok l2)).trans ?_
    refine (zLet_eq (zF2_ok l3)).trans ?_
    refine (zLet_eq (zF2_ok l4)).trans ?_
    refine (zLet_eq (show fn7 [] (γ 5) = (0, 0, γ 6) from l5.symm)).trans ?_
    refine (zLet_eq (show _ = γ 6 from rfl)).trans ?_
    refine (zLet_eq m37).trans ?_
    refine (zLet_eq (show fn6 [ρ 42] (γ 6) = (0, (-1), γ 7) from l6.symm)).trans ?_
    refine (zLet_eq (show _ = γ 7 from rfl)).trans ?_
    refine (if_neg (show ¬ (0 ≤ -ρ 42 + ρ 2 + (-1)) by omega)).trans ?_
    rfl
  exact zGoo_ato hJ hD
theorem vn41a0_16 {S : Nat → zSpc} (hS6 : ∀ x g o v gz, S 6 x g o v gz → sn6 x g o v gz) (hS7 : ∀ x g o v gz, S 7 x g o v gz → sn7 x g o v gz) (hS8 : ∀ x g o v gz, S 8 x g o v gz → sn8 x g o v gz) (hS20 : ∀ x g o v gz, S 20 x g o v gz → sn20 x g o v gz) (hS21 : ∀ x g o v gz, S 21 x g o v gz → sn21 x g o v gz) (hS24 : ∀ x g o v gz, S 24 x g o v gz → sn24 x g o v gz) (hS25 : ∀ x g o v gz, S 25 x g o v gz → sn25 x g o v gz) (hS33 : ∀ x g o v gz, S 33 x g o v gz → sn33 x g o v gz) (hS39 : ∀ x g o v gz, S 39 x g o v gz → sn39 x g o v gz) {a : List Int} {g : rHp} : ∀ (ρ : Nat → Int) (γ : Nat → rHp), jn41 a g 0 (zAg (zNA a41_ 0) ρ) (γ 1) → zO 19 S a g q41a0_16 ρ γ → zGl (fun i vs g1 => jn41 a g i vs g1) (sn41 a g) q41a0_16 ρ γ := by
  intro ρ γ hJ h
  obtain ⟨ha, hg, hr, hf, hm, hc, hl⟩ := h
  have ha : a = [ρ 0, ρ 1, ρ 2, ρ 3, ρ 4, ρ 5, ρ 6, ρ 7, ρ 8, ρ 9, ρ 10, ρ 11, ρ 12, ρ 13, ρ 14, ρ 15, ρ 16, ρ 17, ρ 18] := ha
  subst ha
  subst hg
  have hJ : jn41 [ρ 0, ρ 1, ρ 2, ρ 3, ρ 4, ρ 5, ρ 6, ρ 7, ρ 8, ρ 9, ρ 10, ρ 11, ρ 12, ρ 13, ρ 14, ρ 15, ρ 16, ρ 17, ρ 18] (γ 0) 0 [ρ 0, ρ 1, ρ 2, ρ 3, ρ 4, ρ 5, ρ 6, ρ 7, ρ 8, ρ 9, ρ 10, ρ 11, ρ 12, ρ 13, ρ 14, ρ 15, ρ 16, ρ 17, ρ 18, ρ 19, ρ 20, ρ 21, ρ 22, ρ 23, ρ 24, ρ 25, ρ 26, ρ 27, ρ 28, ρ 29] (γ 1) := hJ
  obtain ⟨r0, r1, r2, r3, r4, r5, r6, r7, r8, r9, r10, r11, r12, r13, r14, r15, r16, r17, r18, r19, r20, r21, r22, r23, r24, r25, r26, r27, r28, r29, r30, r31, r32, r33, r34, r35, r36, r37, r38, r39, r40, r41, r42, r43, -⟩ := hr
  have r0 : (1 : Int) ≤ ρ 0 ∧ ρ 0 ≤ 1 := r0
  have r1 : (0 : Int) ≤ ρ 1 ∧ ρ 1 ≤ 2000 := r1
  have r2 : (1 : Int) ≤ ρ 2 ∧ ρ 2 ≤ 2000 := r2
  have r3 : (0 : Int) ≤ ρ 3 ∧ ρ 3 ≤ 12288 := r3
  have r4 : (0 : Int) ≤ ρ 4 ∧ ρ 4 ≤ 12288 := r4
  have r5 : (0 : Int) ≤ ρ 5 ∧ ρ 5 ≤ 64 := r5
  have r6 : (0 : Int) ≤ ρ 6 ∧ ρ 6 ≤ 2000 := r6
  have r7 : (0 : Int) ≤ ρ 7 ∧ ρ 7 ≤ 12 := r7
  have r8 : (0 : Int) ≤ ρ 8 ∧ ρ 8 ≤ 20 := r8
  have r9 : (0 : Int) ≤ ρ 9 ∧ ρ 9 ≤ 60 := r9
  have r10 : (0 : Int) ≤ ρ 10 ∧ ρ 10 ≤ 60 := r10
  have r11 : (0 : Int) ≤ ρ 11 ∧ ρ 11 ≤ 61 := r11
  have r12 : (0 : Int) ≤ ρ 12 ∧ ρ 12 ≤ 7 := r12
  have r13 : (0 : Int) ≤ ρ 13 ∧ ρ 13 ≤ 7 := r13
  have r14 : ((-2147483648) : Int) ≤ ρ 14 ∧ ρ 14 ≤ 1099511640064 := r14
  have r15 : (0 : Int) ≤ ρ 15 ∧ ρ 15 ≤ 19 := r15
  have r16 : (0 : Int) ≤ ρ 16 ∧ ρ 16 ≤ 2000 := r16
  have r17 : (0 : Int) ≤ ρ 17 ∧ ρ 17 ≤ 3 := r17
  have r18 : ((-2147483648) : Int) ≤ ρ 18 ∧ ρ 18 ≤ 2147483647 := r18
  have r19 : (1 : Int) ≤ ρ 19 ∧ ρ 19 ≤ 1 := r19
  have r20 : ((-2147483648) : Int) ≤ ρ 20 ∧ ρ 20 ≤ 2147483647 := r20
  have r21 : (0 : Int) ≤ ρ 21 ∧ ρ 21 ≤ 3 := r21
  have r22 : (1 : Int) ≤ ρ 22 ∧ ρ 22 ≤ 2000 := r22
  have r23 : (0 : Int) ≤ ρ 23 ∧ ρ 23 ≤ 12288 := r23
  have r24 : (0 : Int) ≤ ρ 24 ∧ ρ 24 ≤ 12288 := r24
  have r25 : (0 : Int) ≤ ρ 25 ∧ ρ 25 ≤ 40 := r25
  have r26 : (0 : Int) ≤ ρ 26 ∧ ρ 26 ≤ 2000 := r26
  have r27 : (0 : Int) ≤ ρ 27 ∧ ρ 27 ≤ 2000 := r27
  have r28 : (0 : Int) ≤ ρ 28 ∧ ρ 28 ≤ 3 := r28
  have r29 : ((-2147483648) : Int) ≤ ρ 29 ∧ ρ 29 ≤ 1099511640064 := r29
  have r30 : (0 : Int) ≤ ρ 30 ∧ ρ 30 ≤ 2000 := r30
  have r31 : ((-2147483648) : Int) ≤ ρ 31 ∧ ρ 31 ≤ 1099511640064 := r31
  have r32 : (1 : Int) ≤ ρ 32 ∧ ρ 32 ≤ 2000 := r32
  have r33 : (0 : Int) ≤ ρ 33 ∧ ρ 33 ≤ 12288 := r33
  have r34 : (0 : Int) ≤ ρ 34 ∧ ρ 34 ≤ 12288 := r34
  have r35 : (0 : Int) ≤ ρ 35 ∧ ρ 35 ≤ 7 := r35
  have r36 : (1 : Int) ≤ ρ 36 ∧ ρ 36 ≤ 1 := r36
  have r37 : (0 : Int) ≤ ρ 37 ∧ ρ 37 ≤ 2000 := r37
  have r38 : (0 : Int) ≤ ρ 38 ∧ ρ 38 ≤ 2000 := r38
  have r39 : ((-2147483648) : Int) ≤ ρ 39 ∧ ρ 39 ≤ 2147483647 := r39
  have r40 : ((-2147483648) : Int) ≤ ρ 40 ∧ ρ 40 ≤ 2147483647 := r40
  have r41 : (0 : Int) ≤ ρ 41 ∧ ρ 41 ≤ 2000 := r41
  have r42 : ((-128) : Int) ≤ ρ 42 ∧ ρ 42 ≤ 127 := r42
  have r43 : ((-2147483648) : Int) ≤ ρ 43 ∧ ρ 43 ≤ 1099511640064 := r43
  obtain ⟨f0, f1, f2, f3, f4, f5, f6, f7, f8, f9, f10, f11, f12, f13, f14, f15, f16, f17, f18, f19, f20, f21, f22, f23, f24, f25, f26, f27, f28, f29, f30, f31, f32, f33, -⟩ := hf
  have f0 : (0 : Int) ≤ -ρ 41 + ρ 2 + (-1) := f0
  have f1 : (0 : Int) ≤ -ρ 32 + ρ 2 := f1
  have f2 : (0 : Int) ≤ ρ 41 + -ρ 32 := f2
  have f3 : (0 : Int) ≤ -ρ 41 + ρ 2 := f3
  have f4 : (0 : Int) ≤ ρ 30 + (-ρ 23 + -ρ 2) + 12288 := f4
  have f5 : (0 : Int) ≤ ρ 30 + (-ρ 24 + -ρ 2) + 12288 := f5
  have f6 : (0 : Int) ≤ -ρ 30 + ρ 2 := f6
  have f7 : (0 : Int) ≤ ρ 32 + -ρ 30 + (-1) := f7
  have f8 : (0 : Int) ≤ ρ 33 + -ρ 23 := f8
  have f9 : (0 : Int) ≤ ρ 34 + -ρ 24 := f9
  have f10 : (0 : Int) ≤ -ρ 30 + ρ 2 + (-1) := f10
  have f11 : (0 : Int) ≤ -ρ 33 + (ρ 32 + (-ρ 30 + ρ 23)) := f11
  have f12 : (0 : Int) ≤ -ρ 34 + (ρ 32 + (-ρ 30 + ρ 24)) := f12
  have f13 : (0 : Int) ≤ -ρ 22 + ρ 2 := f13
  have f14 : (0 : Int) ≤ ρ 30 + -ρ 22 := f14
  have f15 : (0 : Int) ≤ -ρ 25 + (ρ 21 + 4 * ρ 12) + 6 := f15
  have f16 : (0 : Int) ≤ -ρ 25 + 4 * ρ 12 + 10 := f16
  have f17 : (0 : Int) ≤ -ρ 24 + (ρ 22 + -ρ 2) + 12288 := f17
  have f18 : (0 : Int) ≤ -ρ 23 + (ρ 22 + -ρ 2) + 12288 := f18
  have f19 : (0 : Int) ≤ -ρ 24 + (ρ 22 + (ρ 4 + -ρ 1)) := f19
  have f20 : (0 : Int) ≤ -ρ 23 + (ρ 22 + (ρ 3 + -ρ 1)) := f20
  have f21 : (0 : Int) ≤ -ρ 7 + -ρ 6 + 2000 := f21
  have f22 : (0 : Int) ≤ -ρ 21 + ρ 2 := f22
  have f23 : (0 : Int) ≤ ρ 25 + -ρ 5 := f23
  have f24 : (0 : Int) ≤ ρ 24 + -ρ 4 := f24
  have f25 : (0 : Int) ≤ ρ 23 + -ρ 3 := f25
  have f26 : (0 : Int) ≤ ρ 22 + -ρ 1 + (-1) := f26
  have f27 : (0 : Int) ≤ ρ 22 + -ρ 21 + (-1) := f27
  have f28 : (0 : Int) ≤ 4 * ρ 12 + -ρ 5 + 6 := f28
  have f29 : (0 : Int) ≤ -ρ 11 + (ρ 10 + ρ 9) := f29
  have f30 : (0 : Int) ≤ ρ 11 + (-ρ 10 + -ρ 9) := f30
  have f31 : (0 : Int) ≤ ρ 2 + -ρ 1 + (-1) := f31
  have f32 : (0 : Int) ≤ -ρ 4 + (-ρ 2 + ρ 1) + 12288 := f32
  have f33 : (0 : Int) ≤ -ρ 3 + (-ρ 2 + ρ 1) + 12288 := f33
  obtain ⟨m0, m1, m2, m3, m4, m5, m6, m7, m8, m9, m10, m11, m12, m13, m14, m15, m16, m17, m18, m19, m20, m21, m22, m23, m24, m25, m26, m27, m28, m29, m30, m31, m32, m33, m34, m35, m36, m37, m38, m39, -⟩ := hm
  have m0 : γ 0 15 0 35 = ρ 1 := m0
  have m1 : γ 0 15 0 34 = ρ 2 := m1
  have m2 : γ 0 15 0 8 = ρ 3 := m2
  have m3 : γ 0 15 0 9 = ρ 4 := m3
  have m4 : γ 0 15 0 58 = ρ 5 := m4
  have m5 : γ 0 15 0 37 = ρ 6 := m5
  have m6 : γ 0 15 0 38 = ρ 7 := m6
  have m7 : γ 0 15 0 14 = ρ 8 := m7
  have m8 : γ 0 15 0 32 = ρ 9 := m8
  have m9 : γ 0 15 0 33 = ρ 10 := m9
  have m10 : γ 0 15 0 44 = ρ 11 := m10
  have m11 : γ 0 73 0 (ρ 11) = ρ 12 := m11
  have m12 : γ 0 77 0 (ρ 12 + 8 * ρ 11) = ρ 13 := m12
  have m13 : γ 0 81 0 (4 * ρ 12 + 32 * ρ 11) = ρ 14 := m13
  have m14 : γ 0 78 0 (ρ 12 + 8 * ρ 11) = ρ 15 := m14
  have m15 : γ 0 15 0 36 = ρ 16 := m15
  have m16 : γ 0 15 0 40 = ρ 17 := m16
  have m17 : γ 0 15 0 45 = ρ 18 := m17
  have m18 : γ 1 15 0 35 = ρ 22 := m18
  have m19 : γ 1 15 0 8 = ρ 23 := m19
  have m20 : γ 1 15 0 9 = ρ 24 := m20
  have m21 : γ 1 15 0 58 = ρ 25 := m21
  have m22 : γ 1 15 0 37 = ρ 26 := m22
  have m23 : γ 1 15 0 38 = ρ 27 := m23
  have m24 : γ 1 15 0 36 = ρ 16 := m24
  have m25 : γ 1 15 0 40 = ρ 28 := m25
  have m26 : γ 1 81 0 (4 * ρ 12 + 32 * ρ 11) = ρ 29 := m26
  have m27 : γ 2 15 0 35 = ρ 30 := m27
  have m28 : γ 1 15 0 39 = ρ 31 := m28
  have m29 : γ 3 15 0 35 = ρ 32 := m29
  have m30 : γ 3 15 0 8 = ρ 33 := m30
  have m31 : γ 3 15 0 9 = ρ 34 := m31
  have m32 : γ 3 15 0 39 = ρ 35 := m32
  have m33 : γ 3 15 0 40 = ρ 36 := m33
  have m34 : γ 3 15 0 36 = ρ 16 := m34
  have m35 : γ 3 15 0 37 = ρ 37 := m35
  have m36 : γ 3 15 0 38 = ρ 38 := m36
  have m37 : γ 6 15 0 58 = ρ 25 + 1 := m37
  have m38 : γ 7 15 0 35 = ρ 41 := m38
  have m39 : γ 5 81 0 (4 * ρ 12 + 32 * ρ 11) = ρ 43 := m39
  obtain ⟨⟨⟨⟨⟨⟨⟨⟨-, c1⟩, c2⟩, c3⟩, c4⟩, c5⟩, c6⟩, c7⟩, c8⟩ := hc
  have c1 : ∀ (G : Nat) (k j : Int), ¬ rMdP m26_ G j → γ 1 G k j = γ 0 G k j := c1
  have c2 : ∀ (G : Nat) (k j : Int), ¬ rMdP m6_ G j → γ 2 G k j = γ 1 G k j := c2
  have c3 : ∀ (G : Nat) (k j : Int), ¬ rMdP m14_ G j → γ 3 G k j = γ 2 G k j := c3
  have c4 : γ 4 = rUp (γ 3) 80 0 (ρ 21 + (4 * ρ 12 + 32 * ρ 11)) (ρ 36) := c4
  have c5 : γ 5 = rUp (γ 4) 81 0 (ρ 21 + (4 * ρ 12 + 32 * ρ 11)) (ρ 35) := c5
  have c6 : ∀ (G : Nat) (k j : Int), ¬ rMdP m18_ G j → γ 6 G k j = γ 5 G k j := c6
  have c7 : ∀ (G : Nat) (k j : Int), ¬ rMdP m6_ G j → γ 7 G k j = γ 6 G k j := c7
  have c8 : ∀ (G : Nat) (k j : Int), ¬ rMdP m0_ G j → γ 8 G k j = γ 7 G k j := c8
  obtain ⟨l0, l1, l2, l3, l4, l5, l6, l7, -⟩ := hl
  have l0 : sn7 [ρ 22, ρ 2] (γ 1) 0 0 (γ 2) := hS7 _ _ _ _ _ l0
  have l1 : sn20 [1, ρ 30, ρ 2, ρ 23, ρ 24, ρ 31, ρ 28, ρ 16, ρ 26, ρ 27, ρ 11] (γ 2) 0 1 (γ 3) := hS20 _ _ _ _ _ l1
  have l2 : sn25 [ρ 30, ρ 35, 1, ρ 25, ρ 18] (γ 5) 0 0 (γ 6) := hS25 _ _ _ _ _ l2
  have l3 : zOpP (.ishl) (γ 0) (γ 1) [1, ρ 35] (ρ 39) := l3
  have l4 : zOpP (.ior) (γ 0) (γ 1) [ρ 20, ρ 39] (ρ 40) := l4
  have l5 : sn7 [ρ 32, ρ 2] (γ 6) 0 0 (γ 7) := hS7 _ _ _ _ _ l5
  have l6 : sn6 [ρ 41, ρ 2] (γ 7) 0 (ρ 42) (γ 8) := hS6 _ _ _ _ _ l6
  have l7 : ρ 42 ≠ 44 := l7
  show jn41 [ρ 0, ρ 1, ρ 2, ρ 3, ρ 4, ρ 5, ρ 6, ρ 7, ρ 8, ρ 9, ρ 10, ρ 11, ρ 12, ρ 13, ρ 14, ρ 15, ρ 16, ρ 17, ρ 18] (γ 0) 0 [ρ 0, ρ 1, ρ 2, ρ 3, ρ 4, ρ 5, ρ 6, ρ 7, ρ 8, ρ 9, ρ 10, ρ 11, ρ 12, ρ 13, ρ 14, ρ 15, ρ 16, ρ 17, ρ 18, 0, ρ 40, ρ 21 + 1, ρ 41, ρ 33, ρ 34, ρ 25 + 1, ρ 37, ρ 38, ρ 36, ρ 43] (γ 8)
  have hD : en41 (γ 0) (0, [ρ 0, ρ 19, ρ 20, ρ 21], γ 1) = .inl (0, [ρ 0, 0, ρ 40, ρ 21 + 1], γ 8) := by
    unfold en41
    refine (if_pos (show (0 : Nat) = 0 by decide)).trans ?_
    refine (zLet_eq (show _ = γ 1 from rfl)).trans ?_
    refine (zLet_eq (show _ = ρ 0 from rfl)).trans ?_
    refine (zLet_eq (show _ = ρ 19 from rfl)).trans ?_
    refine (zLet_eq (show _ = ρ 20 from rfl)).trans ?_
    refine (zLet_eq (show _ = ρ 21 from rfl)).trans ?_
    refine (zLet_eq m1).trans ?_
    refine (zLet_eq m5).trans ?_
    refine (zLet_eq m6).trans ?_
    refine (zLet_eq m7).trans ?_
    refine (zLet_eq m10).trans ?_
    refine (zLet_eq m11).trans ?_
    refine (zLet_eq m17).trans ?_
    refine (if_neg (show ¬ (ρ 19 = 0) by omega)).trans ?_
    refine (zLet_eq (show fn7 [] (γ 1) = (0, 0, γ 2) from l0.symm)).trans ?_
    refine (zLet_eq (show _ = γ 2 from rfl)).trans ?_
    refine (zLet_eq m27).trans ?_
    refine (if_pos (show ρ 21 ≠ 4 by omega)).trans ?_
    refine (zLet_eq (show fn20 [1] (γ 2) = (0, 1, γ 3) from l1.symm)).trans ?_
    refine (zLet_eq (show _ = γ 3 from rfl)).trans ?_
    refine (if_pos (show (1 : Int) ≤ 1 by omega)).trans ?_
    refine (zLet_eq m32).trans ?_
    refine (zLet_eq m33).trans ?_
    refine (zLet_eq c4.symm).trans ?_
    refine (zLet_eq c5.symm).trans ?_
    refine (if_neg (show ¬ (ρ 36 ≠ 1) by omega)).trans ?_
    refine (if_neg (show ¬ (ρ 0 = 0) by omega)).trans ?_
    refine (zLet_eq (show fn25 [ρ 30, ρ 35, 1] (γ 5) = (0, 0, γ 6) from l2.symm)).trans ?_
    refine (zLet_eq (show _ = γ 6 from rfl)).trans ?_
    refine (zLet_eq (zF2_ok l3)).trans ?_
    refine (zLet_eq (zF2_ok l4)).trans ?_
    refine (zLet_eq (show fn7 [] (γ 6) = (0, 0, γ 7) from l5.symm)).trans ?_
    refine (zLet_eq (show _ = γ 7 from rfl)).trans ?_
    refine (zLet_eq m38).trans ?_
    refine (zLet_eq (show fn6 [ρ 41] (γ 7) = (0, ρ 42, γ 8) from l6.symm)).trans ?_
    refine (zLet_eq (show _ = γ 8 from rfl)).trans ?_
    refine (if_pos (show 0 ≤ -ρ 41 + ρ 2 + (-1) by omega)).trans ?_
    refine (zLet_eq (show _ = ρ 42 from rfl)).trans ?_
    refine (if_pos (show ρ 42 ≠ 44 by omega)).trans ?_
    rfl
  exact zGoo_ato hJ hD
theorem vn41a0_17 {S : Nat → zSpc} (hS6 : ∀ x g o v gz, S 6 x g o v gz → sn6 x g o v gz) (hS7 : ∀ x g o v gz, S 7 x g o v gz → sn7 x g o v gz) (hS8 : ∀ x g o v gz, S 8 x g o v gz → sn8 x g o v gz) (hS20 : ∀ x g o v gz, S 20 x g o v gz → sn20 x g o v gz) (hS21 : ∀ x g o v gz, S 21 x g o v gz → sn21 x g o v gz) (hS24 : ∀ x g o v gz, S 24 x g o v gz → sn24 x g o v gz) (hS25 : ∀ x g o v gz, S 25 x g o v gz → sn25 x g o v gz) (hS33 : ∀ x g o v gz, S 33 x g o v gz → sn33 x g o v gz) (hS39 : ∀ x g o v gz, S 39 x g o v gz → sn39 x g o v gz) {a : List Int} {g : rHp} : ∀ (ρ : Nat → Int) (γ : Nat → rHp), jn41 a g 0 (zAg (zNA a41_ 0) ρ) (γ 1) → zO 19 S a g q41a0_17 ρ γ → zGl (fun i vs g1 => jn41 a g i vs g1) (sn41 a g) q41a0_17 ρ γ := by
  intro ρ γ hJ h
  obtain ⟨ha, hg, hr, hf, hm, hc, hl⟩ := h
  have ha : a = [ρ 0, ρ 1, ρ 2, ρ 3, ρ 4, ρ 5, ρ 6, ρ 7, ρ 8, ρ 9, ρ 10, ρ 11, ρ 12, ρ 13, ρ 14, ρ 15, ρ 16, ρ 17, ρ 18] := ha
  subst ha
  subst hg
  have hJ : jn41 [ρ 0, ρ 1, ρ 2, ρ 3, ρ 4, ρ 5, ρ 6, ρ 7, ρ 8, ρ 9, ρ 10, ρ 11, ρ 12, ρ 13, ρ 14, ρ 15, ρ 16, ρ 17, ρ 18] (γ 0) 0 [ρ 0, ρ 1, ρ 2, ρ 3, ρ 4, ρ 5, ρ 6, ρ 7, ρ 8, ρ 9, ρ 10, ρ 11, ρ 12, ρ 13, ρ 14, ρ 15, ρ 16, ρ 17, ρ 18, ρ 19, ρ 20, ρ 21, ρ 22, ρ 23, ρ 24, ρ 25, ρ 26, ρ 27, ρ 28, ρ 29] (γ 1) := hJ
  obtain ⟨r0, r1, r2, r3, r4, r5, r6, r7, r8, r9, r10, r11, r12, r13, r14, r15, r16, r17, r18, r19, r20, r21, r22, r23, r24, r25, r26, r27, r28, r29, r30, r31, r32, r33, r34, r35, r36, r37, r38, r39, r40, r41, r42, r43, -⟩ := hr
  have r0 : (1 : Int) ≤ ρ 0 ∧ ρ 0 ≤ 1 := r0
  have r1 : (0 : Int) ≤ ρ 1 ∧ ρ 1 ≤ 2000 := r1
  have r2 : (1 : Int) ≤ ρ 2 ∧ ρ 2 ≤ 2000 := r2
  have r3 : (0 : Int) ≤ ρ 3 ∧ ρ 3 ≤ 12288 := r3
  have r4 : (0 : Int) ≤ ρ 4 ∧ ρ 4 ≤ 12288 := r4
  have r5 : (0 : Int) ≤ ρ 5 ∧ ρ 5 ≤ 64 := r5
  have r6 : (0 : Int) ≤ ρ 6 ∧ ρ 6 ≤ 2000 := r6
  have r7 : (0 : Int) ≤ ρ 7 ∧ ρ 7 ≤ 12 := r7
  have r8 : (0 : Int) ≤ ρ 8 ∧ ρ 8 ≤ 20 := r8
  have r9 : (0 : Int) ≤ ρ 9 ∧ ρ 9 ≤ 60 := r9
  have r10 : (0 : Int) ≤ ρ 10 ∧ ρ 10 ≤ 60 := r10
  have r11 : (0 : Int) ≤ ρ 11 ∧ ρ 11 ≤ 61 := r11
  have r12 : (0 : Int) ≤ ρ 12 ∧ ρ 12 ≤ 7 := r12
  have r13 : (0 : Int) ≤ ρ 13 ∧ ρ 13 ≤ 7 := r13
  have r14 : ((-2147483648) : Int) ≤ ρ 14 ∧ ρ 14 ≤ 1099511640064 := r14
  have r15 : (0 : Int) ≤ ρ 15 ∧ ρ 15 ≤ 19 := r15
  have r16 : (0 : Int) ≤ ρ 16 ∧ ρ 16 ≤ 2000 := r16
  have r17 : (0 : Int) ≤ ρ 17 ∧ ρ 17 ≤ 3 := r17
  have r18 : ((-2147483648) : Int) ≤ ρ 18 ∧ ρ 18 ≤ 2147483647 := r18
  have r19 : (1 : Int) ≤ ρ 19 ∧ ρ 19 ≤ 1 := r19
  have r20 : ((-2147483648) : Int) ≤ ρ 20 ∧ ρ 20 ≤ 2147483647 := r20
  have r21 : (0 : Int) ≤ ρ 21 ∧ ρ 21 ≤ 3 := r21
  have r22 : (1 : Int) ≤ ρ 22 ∧ ρ 22 ≤ 2000 := r22
  have r23 : (0 : Int) ≤ ρ 23 ∧ ρ 23 ≤ 12288 := r23
  have r24 : (0 : Int) ≤ ρ 24 ∧ ρ 24 ≤ 12288 := r24
  have r25 : (0 : Int) ≤ ρ 25 ∧ ρ 25 ≤ 40 := r25
  have r26 : (0 : Int) ≤ ρ 26 ∧ ρ 26 ≤ 2000 := r26
  have r27 : (0 : Int) ≤ ρ 27 ∧ ρ 27 ≤ 2000 := r27
  have r28 : (0 : Int) ≤ ρ 28 ∧ ρ 28 ≤ 3 := r28
  have r29 : ((-2147483648) : Int) ≤ ρ 29 ∧ ρ 29 ≤ 1099511640064 := r29
  have r30 : (0 : Int) ≤ ρ 30 ∧ ρ 30 ≤ 2000 := r30
  have r31 : ((-2147483648) : Int) ≤ ρ 31 ∧ ρ 31 ≤ 1099511640064 := r31
  have r32 : (1 : Int) ≤ ρ 32 ∧ ρ 32 ≤ 2000 := r32
  have r33 : (0 : Int) ≤ ρ 33 ∧ ρ 33 ≤ 12288 := r33
  have r34 : (0 : Int) ≤ ρ 34 ∧ ρ 34 ≤ 12288 := r34
  have r35 : (0 : Int) ≤ ρ 35 ∧ ρ 35 ≤ 7 := r35
  have r36 : (1 : Int) ≤ ρ 36 ∧ ρ 36 ≤ 1 := r36
  have r37 : (0 : Int) ≤ ρ 37 ∧ ρ 37 ≤ 2000 := r37
  have r38 : (0 : Int) ≤ ρ 38 ∧ ρ 38 ≤ 2000 := r38
  have r39 : ((-2147483648) : Int) ≤ ρ 39 ∧ ρ 39 ≤ 2147483647 := r39
  have r40 : ((-2147483648) : Int) ≤ ρ 40 ∧ ρ 40 ≤ 2147483647 := r40
  have r41 : (0 : Int) ≤ ρ 41 ∧ ρ 41 ≤ 2000 := r41
  have r42 : (44 : Int) ≤ ρ 42 ∧ ρ 42 ≤ 44 := r42
  have r43 : ((-2147483648) : Int) ≤ ρ 43 ∧ ρ 43 ≤ 1099511640064 := r43
  obtain ⟨f0, f1, f2, f3, f4, f5, f6, f7, f8, f9, f10, f11, f12, f13, f14, f15, f16, f17, f18, f19, f20, f21, f22, f23, f24, f25, f26, f27, f28, f29, f30, f31, f32, f33, -⟩ := hf
  have f0 : (0 : Int) ≤ -ρ 41 + ρ 2 + (-1) := f0
  have f1 : (0 : Int) ≤ -ρ 32 + ρ 2 := f1
  have f2 : (0 : Int) ≤ ρ 41 + -ρ 32 := f2
  have f3 : (0 : Int) ≤ -ρ 41 + ρ 2 := f3
  have f4 : (0 : Int) ≤ ρ 30 + (-ρ 23 + -ρ 2) + 12288 := f4
  have f5 : (0 : Int) ≤ ρ 30 + (-ρ 24 + -ρ 2) + 12288 := f5
  have f6 : (0 : Int) ≤ -ρ 30 + ρ 2 := f6
  have f7 : (0 : Int) ≤ ρ 32 + -ρ 30 + (-1) := f7
  have f8 : (0 : Int) ≤ ρ 33 + -ρ 23 := f8
  have f9 : (0 : Int) ≤ ρ 34 + -ρ 24 := f9
  have f10 : (0 : Int) ≤ -ρ 30 + ρ 2 + (-1) := f10
  have f11 : (0 : Int) ≤ -ρ 33 + (ρ 32 + (-ρ 30 + ρ 23)) := f11
  have f12 : (0 : Int) ≤ -ρ 34 + (ρ 32 + (-ρ 30 + ρ 24)) := f12
  have f13 : (0 : Int) ≤ -ρ 22 + ρ 2 := f13
  have f14 : (0 : Int) ≤ ρ 30 + -ρ 22 := f14
  have f15 : (0 : Int) ≤ -ρ 25 + (ρ 21 + 4 * ρ 12) + 6 := f15
  have f16 : (0 : Int) ≤ -ρ 25 + 4 * ρ 12 + 10 := f16
  have f17 : (0 : Int) ≤ -ρ 24 + (ρ 22 + -ρ 2) + 12288 := f17
  have f18 : (0 : Int) ≤ -ρ 23 + (ρ 22 + -ρ 2) + 12288 := f18
  have f19 : (0 : Int) ≤ -ρ 24 + (ρ 22 + (ρ 4 + -ρ 1)) := f19
  have f20 : (0 : Int) ≤ -ρ 23 + (ρ 22 + (ρ 3 + -ρ 1)) := f20
  have f21 : (0 : Int) ≤ -ρ 7 + -ρ 6 + 2000 := f21
  have f22 : (0 : Int) ≤ -ρ 21 + ρ 2 := f22
  have f23 : (0 : Int) ≤ ρ 25 + -ρ 5 := f23
  have f24 : (0 : Int) ≤ ρ 24 + -ρ 4 := f24
  have f25 : (0 : Int) ≤ ρ 23 + -ρ 3 := f25
  have f26 : (0 : Int) ≤ ρ 22 + -ρ 1 + (-1) := f26
  have f27 : (0 : Int) ≤ ρ 22 + -ρ 21 + (-1) := f27
  have f28 : (0 : Int) ≤ 4 * ρ 12 + -ρ 5 + 6 := f28
  have f29 : (0 : Int) ≤ -ρ 11 + (ρ 10 + ρ 9) := f29
  have f30 : (0 : Int) ≤ ρ 11 + (-ρ 10 + -ρ 9) := f30
  have f31 : (0 : Int) ≤ ρ 2 + -ρ 1 + (-1) := f31
  have f32 : (0 : Int) ≤ -ρ 4 + (-ρ 2 + ρ 1) + 12288 := f32
  have f33 : (0 : Int) ≤ -ρ 3 + (-ρ 2 + ρ 1) + 12288 := f33
  obtain ⟨m0, m1, m2, m3, m4, m5, m6, m7, m8, m9, m10, m11, m12, m13, m14, m15, m16, m17, m18, m19, m20, m21, m22, m23, m24, m25, m26, m27, m28, m29, m30, m31, m32, m33, m34, m35, m36, m37, m38, m39, -⟩ := hm
  have m0 : γ 0 15 0 35 = ρ 1 := m0
  have m1 : γ 0 15 0 34 = ρ 2 := m1
  have m2 : γ 0 15 0 8 = ρ 3 := m2
  have m3 : γ 0 15 0 9 = ρ 4 := m3
  have m4 : γ 0 15 0 58 = ρ 5 := m4
  have m5 : γ 0 15 0 37 = ρ 6 := m5
  have m6 : γ 0 15 0 38 = ρ 7 := m6
  have m7 : γ 0 15 0 14 = ρ 8 := m7
  have m8 : γ 0 15 0 32 = ρ 9 := m8
  have m9 : γ 0 15 0 33 = ρ 10 := m9
  have m10 : γ 0 15 0 44 = ρ 11 := m10
  have m11 : γ 0 73 0 (ρ 11) = ρ 12 := m11
  have m12 : γ 0 77 0 (ρ 12 + 8 * ρ 11) = ρ 13 := m12
  have m13 : γ 0 81 0 (4 * ρ 12 + 32 * ρ 11) = ρ 14 := m13
  have m14 : γ 0 78 0 (ρ 12 + 8 * ρ 11) = ρ 15 := m14
  have m15 : γ 0 15 0 36 = ρ 16 := m15
  have m16 : γ 0 15 0 40 = ρ 17 := m16
  have m17 : γ 0 15 0 45 = ρ 18 := m17
  have m18 : γ 1 15 0 35 = ρ 22 := m18
  have m19 : γ 1 15 0 8 = ρ 23 := m19
  have m20 : γ 1 15 0 9 = ρ 24 := m20
  have m21 : γ 1 15 0 58 = ρ 25 := m21
  have m22 : γ 1 15 0 37 = ρ 26 := m22
  have m23 : γ 1 15 0 38 = ρ 27 := m23
  have m24 : γ 1 15 0 36 = ρ 16 := m24
  have m25 : γ 1 15 0 40 = ρ 28 := m25
  have m26 : γ 1 81 0 (4 * ρ 12 + 32 * ρ 11) = ρ 29 := m26
  have m27 : γ 2 15 0 35 = ρ 30 := m27
  have m28 : γ 1 15 0 39 = ρ 31 := m28
  have m29 : γ 3 15 0 35 = ρ 32 := m29
  have m30 : γ 3 15 0 8 = ρ 33 := m30
  have m31 : γ 3 15 0 9 = ρ 34 := m31
  have m32 : γ 3 15 0 39 = ρ 35 := m32
  have m33 : γ 3 15 0 40 = ρ 36 := m33
  have m34 : γ 3 15 0 36 = ρ 16 := m34
  have m35 : γ 3 15 0 37 = ρ 37 := m35
  have m36 : γ 3 15 0 38 = ρ 38 := m36
  have m37 : γ 6 15 0 58 = ρ 25 + 1 := m37
  have m38 : γ 7 15 0 35 = ρ 41 := m38
  have m39 : γ 5 81 0 (4 * ρ 12 + 32 * ρ 11) = ρ 43 := m39
  obtain ⟨⟨⟨⟨⟨⟨⟨⟨⟨-, c1⟩, c2⟩, c3⟩, c4⟩, c5⟩, c6⟩, c7⟩, c8⟩, c9⟩ := hc
  have c1 : ∀ (G : Nat) (k j : Int), ¬ rMdP m26_ G j → γ 1 G k j = γ 0 G k j := c1
  have c2 : ∀ (G : Nat) (k j : Int), ¬ rMdP m6_ G j → γ 2 G k j = γ 1 G k j := c2
  have c3 : ∀ (G : Nat) (k j : Int), ¬ rMdP m14_ G j → γ 3 G k j = γ 2 G k j := c3
  have c4 : γ 4 = rUp (γ 3) 80 0 (ρ 21 + (4 * ρ 12 + 32 * ρ 11)) (ρ 36) := c4
  have c5 : γ 5 = rUp (γ 4) 81 0 (ρ 21 + (4 * ρ 12 + 32 * ρ 11)) (ρ 35) := c5
  have c6 : ∀ (G : Nat) (k j : Int), ¬ rMdP m18_ G j → γ 6 G k j = γ 5 G k j := c6
  have c7 : ∀ (G : Nat) (k j : Int), ¬ rMdP m6_ G j → γ 7 G k j = γ 6 G k j := c7
  have c8 : ∀ (G : Nat) (k j : Int), ¬ rMdP m0_ G j → γ 8 G k j = γ 7 G k j := c8
  have c9 : γ 9 = rUp (γ 8) 15 0 35 (ρ 41 + 1) := c9
  obtain ⟨l0, l1, l2, l3, l4, l5, l6, -⟩ := hl
  have l0 : sn7 [ρ 22, ρ 2] (γ 1) 0 0 (γ 2) := hS7 _ _ _ _ _ l0
  have l1 : sn20 [1, ρ 30, ρ 2, ρ 23, ρ 24, ρ 31, ρ 28, ρ 16, ρ 26, ρ 27, ρ 11] (γ 2) 0 1 (γ 3) := hS20 _ _ _ _ _ l1
  have l2 : sn25 [ρ 30, ρ 35, 1, ρ 25, ρ 18] (γ 5) 0 0 (γ 6) := hS25 _ _ _ _ _ l2
  have l3 : zOpP (.ishl) (γ 0) (γ 1) [1, ρ 35] (ρ 39) := l3
  have l4 : zOpP (.ior) (γ 0) (γ 1) [ρ 20, ρ 39] (ρ 40) := l4
  have l5 : sn7 [ρ 32, ρ 2] (γ 6) 0 0 (γ 7) := hS7 _ _ _ _ _ l5
  have l6 : sn6 [ρ 41, ρ 2] (γ 7) 0 (ρ 42) (γ 8) := hS6 _ _ _ _ _ l6
  show jn41 [ρ 0, ρ 1, ρ 2, ρ 3, ρ 4, ρ 5, ρ 6, ρ 7, ρ 8, ρ 9, ρ 10, ρ 11, ρ 12, ρ 13, ρ 14, ρ 15, ρ 16, ρ 17, ρ 18] (γ 0) 0 [ρ 0, ρ 1, ρ 2, ρ 3, ρ 4, ρ 5, ρ 6, ρ 7, ρ 8, ρ 9, ρ 10, ρ 11, ρ 12, ρ 13, ρ 14, ρ 15, ρ 16, ρ 17, ρ 18, 1, ρ 40, ρ 21 + 1, ρ 41 + 1, ρ 33, ρ 34, ρ 25 + 1, ρ 37, ρ 38, ρ 36, ρ 43] (γ 9)
  have hD : en41 (γ 0) (0, [ρ 0, ρ 19, ρ 20, ρ 21], γ 1) = .inl (0, [ρ 0, 1, ρ 40, ρ 21 + 1], γ 9) := by
    unfold en41
    refine (if_pos (show (0 : Nat) = 0 by decide)).trans ?_
    refine (zLet_eq (show _ = γ 1 from rfl)).trans ?_
    refine (zLet_eq (show _ = ρ 0 from rfl)).trans ?_
    refine (zLet_eq (show _ = ρ 19 from rfl)).trans ?_
    refine (zLet_eq (show _ = ρ 20 from rfl)).trans ?_
    refine (zLet_eq (show _ = ρ 21 from rfl)).trans ?_
    refine (zLet_eq m1).trans ?_
    refine (zLet_eq m5).trans ?_
    refine (zLet_eq m6).trans ?_
    refine (zLet_eq m7).trans ?_
    refine (zLet_eq m10).trans ?_
    refine (zLet_eq m11).trans ?_
    refine (zLet_eq m17).trans ?_
    refine (if_neg (show ¬ (ρ 19 = 0) by omega)).trans ?_
    refine (zLet_eq (show fn7 [] (γ 1) = (0, 0, γ 2) from l0.symm)).trans ?_
    refine (zLet_eq (show _ = γ 2 from rfl)).trans ?_
    refine (zLet_eq m27).trans ?_
    refine (if_pos (show ρ 21 ≠ 4 by omega)).trans ?_
    refine (zLet_eq (show fn20 [1] (γ 2) = (0, 1, γ 3) from l1.symm)).trans ?_
    refine (zLet_eq (show _ = γ 3 from rfl)).trans ?_
    refine (if_pos (show (1 : Int) ≤ 1 by omega)).trans ?_
    refine (zLet_eq m32).trans ?_
    refine (zLet_eq m33).trans ?_
    refine (zLet_eq c4.symm).trans ?_
    refine (zLet_eq c5.symm).trans ?_
    refine (if_neg (show ¬ (ρ 36 ≠ 1) by omega)).trans ?_
    refine (if_neg (show ¬ (ρ 0 = 0) by omega)).trans ?_
    refine (zLet_eq (show fn25 [ρ 30, ρ 35, 1] (γ 5) = (0, 0, γ 6) from l2.symm)).trans ?_
    refine (zLet_eq (show _ = γ 6 from rfl)).trans ?_
    refine (zLet_eq (zF2_ok l3)).trans ?_
    refine (zLet_eq (zF2_ok l4)).trans ?_
    refine (zLet_eq (show fn7 [] (γ 6) = (0, 0, γ 7) from l5.symm)).trans ?_
    refine (zLet_eq (show _ = γ 7 from rfl)).trans ?_
    refine (zLet_eq m38).trans ?_
    refine (zLet_eq (show fn6 [ρ 41] (γ 7) = (0, ρ 42, γ 8) from l6.symm)).trans ?_
    refine (zLet_eq (show _ = γ 8 from rfl)).trans ?_
    refine (if_pos (show 0 ≤ -ρ 41 + ρ 2 + (-1) by omega)).trans ?_
    refine (zLet_eq (show _ = ρ 42 from rfl)).trans ?_
    refine (if_neg (show ¬ (ρ 42 ≠ 44) by omega)).trans ?_
    refine (zLet_eq c9.symm).trans ?_
    rfl
  exact zGoo_ato hJ hD
theorem vn41a0_18 {S : Nat → zSpc} (hS6 : ∀ x g o v gz, S 6 x g o v gz → sn6 x g o v gz) (hS7 : ∀ x g o v gz, S 7 x g o v gz → sn7 x g o v gz) (hS8 : ∀ x g o v gz, S 8 x g o v gz → sn8 x g o v gz) (hS20 : ∀ x g o v gz, S 20 x g o v gz → sn20 x g o v gz) (hS21 : ∀ x g o v gz, S 21 x g o v gz → sn21 x g o v gz) (hS24 : ∀ x g o v gz, S 24 x g o v gz → sn24 x g o v gz) (hS25 : ∀ x g o v gz, S 25 x g o v gz → sn25 x g o v gz) (hS33 : ∀ x g o v gz, S 33 x g o v gz → sn33 x g o v gz) (hS39 : ∀ x g o v gz, S 39 x g o v gz → sn39 x g o v gz) {a : List Int} {g : rHp} : ∀ (ρ : Nat → Int) (γ : Nat → rHp), jn41 a g 0 (zAg (zNA a41_ 0) ρ) (γ 1) → zO 19 S a g q41a0_18 ρ γ → zGl (fun i vs g1 => jn41 a g i vs g1) (sn41 a g) q41a0_18 ρ γ := by
  intro ρ γ hJ h
  obtain ⟨ha, hg, hr, hf, hm, hc, hl⟩ := h
  have ha : a = [ρ 0, ρ 1, ρ 2, ρ 3, ρ 4, ρ 5, ρ 6, ρ 7, ρ 8, ρ 9, ρ 10, ρ 11, ρ 12, ρ 13, ρ 14, ρ 15, ρ 16, ρ 17, ρ 18] := ha
  subst ha
  subst hg
  have hJ : jn41 [ρ 0, ρ 1, ρ 2, ρ 3, ρ 4, ρ 5, ρ 6, ρ 7, ρ 8, ρ 9, ρ 10, ρ 11, ρ 12, ρ 13, ρ 14, ρ 15, ρ 16, ρ 17, ρ 18] (γ 0) 0 [ρ 0, ρ 1, ρ 2, ρ 3, ρ 4, ρ 5, ρ 6, ρ 7, ρ 8, ρ 9, ρ 10, ρ 11, ρ 12, ρ 13, ρ 14, ρ 15, ρ 16, ρ 17, ρ 18, ρ 19, ρ 20, ρ 21, ρ 22, ρ 23, ρ 24, ρ 25, ρ 26, ρ 27, ρ 28, ρ 29] (γ 1) := hJ
  obtain ⟨r0, r1, r2, r3, r4, r5, r6, r7, r8, r9, r10, r11, r12, r13, r14, r15, r16, r17, r18, r19, r20, r21, r22, r23, r24, r25, r26, r27, r28, r29, r30, r31, r32, r33, r34, r35, r36, r37, r38, r39, r40, r41, r42, -⟩ := hr
  have r0 : (1 : Int) ≤ ρ 0 ∧ ρ 0 ≤ 1 := r0
  have r1 : (0 : Int) ≤ ρ 1 ∧ ρ 1 ≤ 2000 := r1
  have r2 : (1 : Int) ≤ ρ 2 ∧ ρ 2 ≤ 2000 := r2
  have r3 : (0 : Int) ≤ ρ 3 ∧ ρ 3 ≤ 12288 := r3
  have r4 : (0 : Int) ≤ ρ 4 ∧ ρ 4 ≤ 12288 := r4
  have r5 : (0 : Int) ≤ ρ 5 ∧ ρ 5 ≤ 64 := r5
  have r6 : (0 : Int) ≤ ρ 6 ∧ ρ 6 ≤ 2000 := r6
  have r7 : (0 : Int) ≤ ρ 7 ∧ ρ 7 ≤ 12 := r7
  have r8 : (0 : Int) ≤ ρ 8 ∧ ρ 8 ≤ 20 := r8
  have r9 : (0 : Int) ≤ ρ 9 ∧ ρ 9 ≤ 60 := r9
  have r10 : (0 : Int) ≤ ρ 10 ∧ ρ 10 ≤ 60 := r10
  have r11 : (0 : Int) ≤ ρ 11 ∧ ρ 11 ≤ 61 := r11
  have r12 : (0 : Int) ≤ ρ 12 ∧ ρ 12 ≤ 7 := r12
  have r13 : (0 : Int) ≤ ρ 13 ∧ ρ 13 ≤ 7 := r13
  have r14 : ((-2147483648) : Int) ≤ ρ 14 ∧ ρ 14 ≤ 1099511640064 := r14
  have r15 : (0 : Int) ≤ ρ 15 ∧ ρ 15 ≤ 19 := r15
  have r16 : (0 : Int) ≤ ρ 16 ∧ ρ 16 ≤ 2000 := r16
  have r17 : (0 : Int) ≤ ρ 17 ∧ ρ 17 ≤ 3 := r17
  have r18 : ((-2147483648) : Int) ≤ ρ 18 ∧ ρ 18 ≤ 2147483647 := r18
  have r19 : (1 : Int) ≤ ρ 19 ∧ ρ 19 ≤ 1 := r19
  have r20 : ((-2147483648) : Int) ≤ ρ 20 ∧ ρ 20 ≤ 2147483647 := r20
  have r21 : (0 : Int) ≤ ρ 21 ∧ ρ 21 ≤ 3 := r21
  have r22 : (1 : Int) ≤ ρ 22 ∧ ρ 22 ≤ 2000 := r22
  have r23 : (0 : Int) ≤ ρ 23 ∧ ρ 23 ≤ 12288 := r23
  have r24 : (0 : Int) ≤ ρ 24 ∧ ρ 24 ≤ 12288 := r24
  have r25 : (0 : Int) ≤ ρ 25 ∧ ρ 25 ≤ 40 := r25
  have r26 : (0 : Int) ≤ ρ 26 ∧ ρ 26 ≤ 2000 := r26
  have r27 : (0 : Int) ≤ ρ 27 ∧ ρ 27 ≤ 2000 := r27
  have r28 : (0 : Int) ≤ ρ 28 ∧ ρ 28 ≤ 3 := r28
  have r29 : ((-2147483648) : Int) ≤ ρ 29 ∧ ρ 29 ≤ 1099511640064 := r29
  have r30 : (0 : Int) ≤ ρ 30 ∧ ρ 30 ≤ 2000 := r30
  have r31 : ((-2147483648) : Int) ≤ ρ 31 ∧ ρ 31 ≤ 1099511640064 := r31
  have r32 : (1 : Int) ≤ ρ 32 ∧ ρ 32 ≤ 2000 := r32
  have r33 : (0 : Int) ≤ ρ 33 ∧ ρ 33 ≤ 12288 := r33
  have r34 : (0 : Int) ≤ ρ 34 ∧ ρ 34 ≤ 12288 := r34
  have r35 : (0 : Int) ≤ ρ 35 ∧ ρ 35 ≤ 7 := r35
  have r36 : (1 : Int) ≤ ρ 36 ∧ ρ 36 ≤ 1 := r36
  have r37 : (0 : Int) ≤ ρ 37 ∧ ρ 37 ≤ 2000 := r37
  have r38 : (0 : Int) ≤ ρ 38 ∧ ρ 38 ≤ 2000 := r38
  have r39 : ((-2147483648) : Int) ≤ ρ 39 ∧ ρ 39 ≤ 2147483647 := r39
  have r40 : ((-2147483648) : Int) ≤ ρ 40 ∧ ρ 40 ≤ 2147483647 := r40
  have r41 : (0 : Int) ≤ ρ 41 ∧ ρ 41 ≤ 2000 := r41
  have r42 : ((-2147483648) : Int) ≤ ρ 42 ∧ ρ 42 ≤ 1099511640064 := r42
  obtain ⟨f0, f1, f2, f3, f4, f5, f6, f7, f8, f9, f10, f11, f12, f13, f14, f15, f16, f17, f18, f19, f20, f21, f22, f23, f24, f25, f26, f27, f28, f29, f30, f31, f32, f33, -⟩ := hf
  have f0 : (0 : Int) ≤ ρ 41 + -ρ 2 := f0
  have f1 : (0 : Int) ≤ -ρ 32 + ρ 2 := f1
  have f2 : (0 : Int) ≤ ρ 41 + -ρ 32 := f2
  have f3 : (0 : Int) ≤ -ρ 41 + ρ 2 := f3
  have f4 : (0 : Int) ≤ ρ 30 + (-ρ 23 + -ρ 2) + 12288 := f4
  have f5 : (0 : Int) ≤ ρ 30 + (-ρ 24 + -ρ 2) + 12288 := f5
  have f6 : (0 : Int) ≤ -ρ 30 + ρ 2 := f6
  have f7 : (0 : Int) ≤ ρ 32 + -ρ 30 + (-1) := f7
  have f8 : (0 : Int) ≤ ρ 33 + -ρ 23 := f8
  have f9 : (0 : Int) ≤ ρ 34 + -ρ 24 := f9
  have f10 : (0 : Int) ≤ -ρ 30 + ρ 2 + (-1) := f10
  have f11 : (0 : Int) ≤ -ρ 33 + (ρ 32 + (-ρ 30 + ρ 23)) := f11
  have f12 : (0 : Int) ≤ -ρ 34 + (ρ 32 + (-ρ 30 + ρ 24)) := f12
  have f13 : (0 : Int) ≤ -ρ 22 + ρ 2 := f13
  have f14 : (0 : Int) ≤ ρ 30 + -ρ 22 := f14
  have f15 : (0 : Int) ≤ -ρ 25 + (ρ 21 + 4 * ρ 12) + 6 := f15
  have f16 : (0 : Int) ≤ -ρ 25 + 4 * ρ 12 + 10 := f16
  have f17 : (0 : Int) ≤ -ρ 24 + (ρ 22 + -ρ 2) + 12288 := f17
  have f18 : (0 : Int) ≤ -ρ 23 + (ρ 22 + -ρ 2) + 12288 := f18
  have f19 : (0 : Int) ≤ -ρ 24 + (ρ 22 + (ρ 4 + -ρ 1)) := f19
  have f20 : (0 : Int) ≤ -ρ 23 + (ρ 22 + (ρ 3 + -ρ 1)) := f20
  have f21 : (0 : Int) ≤ -ρ 7 + -ρ 6 + 2000 := f21
  have f22 : (0 : Int) ≤ -ρ 21 + ρ 2 := f22
  have f23 : (0 : Int) ≤ ρ 25 + -ρ 5 := f23
  have f24 : (0 : Int) ≤ ρ 24 + -ρ 4 := f24
  have f25 : (0 : Int) ≤ ρ 23 + -ρ 3 := f25
  have f26 : (0 : Int) ≤ ρ 22 + -ρ 1 + (-1) := f26
  have f27 : (0 : Int) ≤ ρ 22 + -ρ 21 + (-1) := f27
  have f28 : (0 : Int) ≤ 4 * ρ 12 + -ρ 5 + 6 := f28
  have f29 : (0 : Int) ≤ -ρ 11 + (ρ 10 + ρ 9) := f29
  have f30 : (0 : Int) ≤ ρ 11 + (-ρ 10 + -ρ 9) := f30
  have f31 : (0 : Int) ≤ ρ 2 + -ρ 1 + (-1) := f31
  have f32 : (0 : Int) ≤ -ρ 4 + (-ρ 2 + ρ 1) + 12288 := f32
  have f33 : (0 : Int) ≤ -ρ 3 + (-ρ 2 + ρ 1) + 12288 := f33
  obtain ⟨m0, m1, m2, m3, m4, m5, m6, m7, m8, m9, m10, m11, m12, m13, m14, m15, m16, m17, m18, m19, m20, m21, m22, m23, m24, m25, m26, m27, m28, m29, m30, m31, m32, m33, m34, m35, m36, m37, m38, m39, -⟩ := hm
  have m0 : γ 0 15 0 35 = ρ 1 := m0
  have m1 : γ 0 15 0 34 = ρ 2 := m1
  have m2 : γ 0 15 0 8 = ρ 3 := m2
  have m3 : γ 0 15 0 9 = ρ 4 := m3
  have m4 : γ 0 15 0 58 = ρ 5 := m4
  have m5 : γ 0 15 0 37 = ρ 6 := m5
  have m6 : γ 0 15 0 38 = ρ 7 := m6
  have m7 : γ 0 15 0 14 = ρ 8 := m7
  have m8 : γ 0 15 0 32 = ρ 9 := m8
  have m9 : γ 0 15 0 33 = ρ 10 := m9
  have m10 : γ 0 15 0 44 = ρ 11 := m10
  have m11 : γ 0 73 0 (ρ 11) = ρ 12 := m11
  have m12 : γ 0 77 0 (ρ 12 + 8 * ρ 11) = ρ 13 := m12
  have m13 : γ 0 81 0 (4 * ρ 12 + 32 * ρ 11) = ρ 14 := m13
  have m14 : γ 0 78 0 (ρ 12 + 8 * ρ 11) = ρ 15 := m14
  have m15 : γ 0 15 0 36 = ρ 16 := m15
  have m16 : γ 0 15 0 40 = ρ 17 := m16
  have m17 : γ 0 15 0 45 = ρ 18 := m17
  have m18 : γ 1 15 0 35 = ρ 22 := m18
  have m19 : γ 1 15 0 8 = ρ 23 := m19
  have m20 : γ 1 15 0 9 = ρ 24 := m20
  have m21 : γ 1 15 0 58 = ρ 25 := m21
  have m22 : γ 1 15 0 37 = ρ 26 := m22
  have m23 : γ 1 15 0 38 = ρ 27 := m23
  have m24 : γ 1 15 0 36 = ρ 16 := m24
  have m25 : γ 1 15 0 40 = ρ 28 := m25
  have m26 : γ 1 81 0 (4 * ρ 12 + 32 * ρ 11) = ρ 29 := m26
  have m27 : γ 2 15 0 35 = ρ 30 := m27
  have m28 : γ 1 15 0 39 = ρ 31 := m28
  have m29 : γ 3 15 0 35 = ρ 32 := m29
  have m30 : γ 3 15 0 8 = ρ 33 := m30
  have m31 : γ 3 15 0 9 = ρ 34 := m31
  have m32 : γ 3 15 0 39 = ρ 35 := m32
  have m33 : γ 3 15 0 40 = ρ 36 := m33
  have m34 : γ 3 15 0 36 = ρ 16 := m34
  have m35 : γ 3 15 0 37 = ρ 37 := m35
  have m36 : γ 3 15 0 38 = ρ 38 := m36
  have m37 : γ 6 15 0 58 = ρ 25 + 1 := m37
  have m38 : γ 7 15 0 35 = ρ 41 := m38
  have m39 : γ 5 81 0 (4 * ρ 12 + 32 * ρ 11) = ρ 42 := m39
  obtain ⟨⟨⟨⟨⟨⟨⟨⟨-, c1⟩, c2⟩, c3⟩, c4⟩, c5⟩, c6⟩, c7⟩, c8⟩ := hc
  have c1 : ∀ (G : Nat) (k j : Int), ¬ rMdP m26_ G j → γ 1 G k j = γ 0 G k j := c1
  have c2 : ∀ (G : Nat) (k j : Int), ¬ rMdP m6_ G j → γ 2 G k j = γ 1 G k j := c2
  have c3 : ∀ (G : Nat) (k j : Int), ¬ rMdP m14_ G j → γ 3 G k j = γ 2 G k j := c3
  have c4 : γ 4 = rUp (γ 3) 80 0 (ρ 21 + (4 * ρ 12 + 32 * ρ 11)) (ρ 36) := c4
  have c5 : γ 5 = rUp (γ 4) 81 0 (ρ 21 + (4 * ρ 12 + 32 * ρ 11)) (ρ 35) := c5
  have c6 : ∀ (G : Nat) (k j : Int), ¬ rMdP m18_ G j → γ 6 G k j = γ 5 G k j := c6
  have c7 : ∀ (G : Nat) (k j : Int), ¬ rMdP m6_ G j → γ 7 G k j = γ 6 G k j := c7
  have c8 : ∀ (G : Nat) (k j : Int), ¬ rMdP m0_ G j → γ 8 G k j = γ 7 G k j := c8
  obtain ⟨l0, l1, l2, l3, l4, l5, l6, -⟩ := hl
  have l0 : sn7 [ρ 22, ρ 2] (γ 1) 0 0 (γ 2) := hS7 _ _ _ _ _ l0
  have l1 : sn20 [1, ρ 30, ρ 2, ρ 23, ρ 24, ρ 31, ρ 28, ρ 16, ρ 26, ρ 27, ρ 11] (γ 2) 0 1 (γ 3) := hS20 _ _ _ _ _ l1
  have l2 : sn25 [ρ 30, ρ 35, 1, ρ 25, ρ 18] (γ 5) 0 0 (γ 6) := hS25 _ _ _ _ _ l2
  have l3 : zOpP (.ishl) (γ 0) (γ 1) [1, ρ 35] (ρ 39) := l3
  have l4 : zOpP (.ior) (γ 0) (γ 1) [ρ 20, ρ 39] (ρ 40) := l4
  have l5 : sn7 [ρ 32, ρ 2] (γ 6) 0 0 (γ 7) := hS7 _ _ _ _ _ l5
  have l6 : sn6 [ρ 41, ρ 2] (γ 7) 0 (-1) (γ 8) := hS6 _ _ _ _ _ l6
  show jn41 [ρ 0, ρ 1, ρ 2, ρ 3, ρ 4, ρ 5, ρ 6, ρ 7, ρ 8, ρ 9, ρ 10, ρ 11, ρ 12, ρ 13, ρ 14, ρ 15, ρ 16, ρ 17, ρ 18] (γ 0) 0 [ρ 0, ρ 1, ρ 2, ρ 3, ρ 4, ρ 5, ρ 6, ρ 7, ρ 8, ρ 9, ρ 10, ρ 11, ρ 12, ρ 13, ρ 14, ρ 15, ρ 16, ρ 17, ρ 18, 0, ρ 40, ρ 21 + 1, ρ 41, ρ 33, ρ 34, ρ 25 + 1, ρ 37, ρ 38, ρ 36, ρ 42] (γ 8)
  have hD : en41 (γ 0) (0, [ρ 0, ρ 19, ρ 20, ρ 21], γ 1) = .inl (0, [ρ 0, 0, ρ 40, ρ 21 + 1], γ 8) := by
    unfold en41
    refine (if_pos (show (0 : Nat) = 0 by decide)).trans ?_
    refine (zLet_eq (show _ = γ 1 from rfl)).trans ?_
    refine (zLet_eq (show _ = ρ 0 from rfl)).trans ?_
    refine (zLet_eq (show _ = ρ 19 from rfl)).trans ?_
    refine (zLet_eq (show _ = ρ 20 from rfl)).trans ?_
    refine (zLet_eq (show _ = ρ 21 from rfl)).trans ?_
    refine (zLet_eq m1).trans ?_
    refine (zLet_eq m5).trans ?_
    refine (zLet_eq m6).trans ?_
    refine (zLet_eq m7).trans ?_
    refine (zLet_eq m10).trans ?_
    refine (zLet_eq m11).trans ?_
    refine (zLet_eq m17).trans ?_
    refine (if_neg (show ¬ (ρ 19 = 0) by omega)).trans ?_
    refine (zLet_eq (show fn7 [] (γ 1) = (0, 0, γ 2) from l0.symm)).trans ?_
    refine (zLet_eq (show _ = γ 2 from rfl)).trans ?_
    refine (zLet_eq m27).trans ?_
    refine (if_pos (show ρ 21 ≠ 4 by omega)).trans ?_
    refine (zLet_eq (show fn20 [1] (γ 2) = (0, 1, γ 3) from l1.symm)).trans ?_
    refine (zLet_eq (show _ = γ 3 from rfl)).trans ?_
    refine (if_pos (show (1 : Int) ≤ 1 by omega)).trans ?_
    refine (zLet_eq m32).trans ?_
    refine (zLet_eq m33).trans ?_
    refine (zLet_eq c4.symm).trans ?_
    refine (zLet_eq c5.symm).trans ?_
    refine (if_neg (show ¬ (ρ 36 ≠ 1) by omega)).trans ?_
    refine (if_neg (show ¬ (ρ 0 = 0) by omega)).trans ?_
    refine (zLet_eq (show fn25 [ρ 30, ρ 35, 1] (γ 5) = (0, 0, γ 6) from l2.symm)).trans ?_
    refine (zLet_eq (show _ = γ 6 from rfl)).trans ?_
    refine (zLet_eq (zF2_ok l3)).trans ?_
    refine (zLet_eq (zF2_ok l4)).trans ?_
    refine (zLet_eq (show fn7 [] (γ 6) = (0, 0, γ 7) from l5.symm)).trans ?_
    refine (zLet_eq (show _ = γ 7 from rfl)).trans ?_
    refine (zLet_eq m38).trans ?_
    refine (zLet_eq (show fn6 [ρ 41] (γ 7) = (0, (-1), γ 8) from l6.symm)).trans ?_
    refine (zLet_eq (show _ = γ 8 from rfl)).trans ?_
    refine (if_neg (show ¬ (0 ≤ -ρ 41 + ρ 2 + (-1)) by omega)).trans ?_
    rfl
  exact zGoo_ato hJ hD
theorem vn41a0_19 {S : Nat → zSpc} (hS6 : ∀ x g o v gz, S 6 x g o v gz → sn6 x g o v gz) (hS7 : ∀ x g o v gz, S 7 x g o v gz → sn7 x g o v gz) (hS8 : ∀ x g o v gz, S 8 x g o v gz → sn8 x g o v gz) (hS20 : ∀ x g o v gz, S 20 x g o v gz → sn20 x g o v gz) (hS21 : ∀ x g o v gz, S 21 x g o v gz → sn21 x g o v gz) (hS24 : ∀ x g o v gz, S 24 x g o v gz → sn24 x g o v gz) (hS25 : ∀ x g o v gz, S 25 x g o v gz → sn25 x g o v gz) (hS33 : ∀ x g o v gz, S 33 x g o v gz → sn33 x g o v gz) (hS39 : ∀ x g o v gz, S 39 x g o v gz → sn39 x g o v gz) {a : List Int} {g : rHp} : ∀ (ρ : Nat → Int) (γ : Nat → rHp), jn41 a g 0 (zAg (zNA a41_ 0) ρ) (γ 1) → zO 19 S a g q41a0_19 ρ γ → zGl (fun i vs g1 => jn41 a g i vs g1) (sn41 a g) q41a0_19 ρ γ := by
  intro ρ γ hJ h
  obtain ⟨ha, hg, hr, hf, hm, hc, hl⟩ := h
  have ha : a = [ρ 0, ρ 1, ρ 2, ρ 3, ρ 4, ρ 5, ρ 6, ρ 7, ρ 8, ρ 9, ρ 10, ρ 11, ρ 12, ρ 13, ρ 14, ρ 15, ρ 16, ρ 17, ρ 18] := ha
  subst ha
  subst hg
  have hJ : jn41 [ρ 0, ρ 1, ρ 2, ρ 3, ρ 4, ρ 5, ρ 6, ρ 7, ρ 8, ρ 9, ρ 10, ρ 11, ρ 12, ρ 13, ρ 14, ρ 15, ρ 16, ρ 17, ρ 18] (γ 0) 0 [ρ 0, ρ 1, ρ 2, ρ 3, ρ 4, ρ 5, ρ 6, ρ 7, ρ 8, ρ 9, ρ 10, ρ 11, ρ 12, ρ 13, ρ 14, ρ 15, ρ 16, ρ 17, ρ 18, ρ 19, ρ 20, ρ 21, ρ 22, ρ 23, ρ 24, ρ 25, ρ 26, ρ 27, ρ 28, ρ 29] (γ 1) := hJ
  obtain ⟨r0, r1, r2, r3, r4, r5, r6, r7, r8, r9, r10, r11, r12, r13, r14, r15, r16, r17, r18, r19, r20, r21, r22, r23, r24, r25, r26, r27, r28, r29, r30, r31, -⟩ := hr
  have r0 : (0 : Int) ≤ ρ 0 ∧ ρ 0 ≤ 1 := r0
  have r1 : (0 : Int) ≤ ρ 1 ∧ ρ 1 ≤ 2000 := r1
  have r2 : (1 : Int) ≤ ρ 2 ∧ ρ 2 ≤ 2000 := r2
  have r3 : (0 : Int) ≤ ρ 3 ∧ ρ 3 ≤ 12288 := r3
  have r4 : (0 : Int) ≤ ρ 4 ∧ ρ 4 ≤ 12288 := r4
  have r5 : (0 : Int) ≤ ρ 5 ∧ ρ 5 ≤ 64 := r5
  have r6 : (0 : Int) ≤ ρ 6 ∧ ρ 6 ≤ 2000 := r6
  have r7 : (0 : Int) ≤ ρ 7 ∧ ρ 7 ≤ 12 := r7
  have r8 : (0 : Int) ≤ ρ 8 ∧ ρ 8 ≤ 20 := r8
  have r9 : (0 : Int) ≤ ρ 9 ∧ ρ 9 ≤ 60 := r9
  have r10 : (0 : Int) ≤ ρ 10 ∧ ρ 10 ≤ 60 := r10
  have r11 : (0 : Int) ≤ ρ 11 ∧ ρ 11 ≤ 61 := r11
  have r12 : (0 : Int) ≤ ρ 12 ∧ ρ 12 ≤ 7 := r12
  have r13 : (0 : Int) ≤ ρ 13 ∧ ρ 13 ≤ 7 := r13
  have r14 : ((-2147483648) : Int) ≤ ρ 14 ∧ ρ 14 ≤ 1099511640064 := r14
  have r15 : (0 : Int) ≤ ρ 15 ∧ ρ 15 ≤ 19 := r15
  have r16 : (0 : Int) ≤ ρ 16 ∧ ρ 16 ≤ 2000 := r16
  have r17 : (0 : Int) ≤ ρ 17 ∧ ρ 17 ≤ 3 := r17
  have r18 : ((-2147483648) : Int) ≤ ρ 18 ∧ ρ 18 ≤ 2147483647 := r18
  have r19 : (1 : Int) ≤ ρ 19 ∧ ρ 19 ≤ 1 := r19
  have r20 : ((-2147483648) : Int) ≤ ρ 20 ∧ ρ 20 ≤ 2147483647 := r20
  have r21 : (4 : Int) ≤ ρ 21 ∧ ρ 21 ≤ 4 := r21
  have r22 : (1 : Int) ≤ ρ 22 ∧ ρ 22 ≤ 2000 := r22
  have r23 : (0 : Int) ≤ ρ 23 ∧ ρ 23 ≤ 12288 := r23
  have r24 : (0 : Int) ≤ ρ 24 ∧ ρ 24 ≤ 12288 := r24
  have r25 : (0 : Int) ≤ ρ 25 ∧ ρ 25 ≤ 40 := r25
  have r26 : (0 : Int) ≤ ρ 26 ∧ ρ 26 ≤ 2000 := r26
  have r27 : (0 : Int) ≤ ρ 27 ∧ ρ 27 ≤ 2000 := r27
  have r28 : (0 : Int) ≤ ρ 28 ∧ ρ 28 ≤ 3 := r28
  have r29 : ((-2147483648) : Int) ≤ ρ 29 ∧ ρ 29 ≤ 1099511640064 := r29
  have r30 : (0 : Int) ≤ ρ 30 ∧ ρ 30 ≤ 2000 := r30
  have r31 : (0 : Int) ≤ ρ 31 ∧ ρ 31 ≤ 2000 := r31
  obtain ⟨f0, f1, f2, f3, f4, f5, f6, f7, f8, f9, f10, f11, f12, f13, f14, f15, f16, f17, f18, f19, f20, f21, f22, f23, -⟩ := hf
  have f0 : (0 : Int) ≤ -ρ 31 + ρ 30 := f0
  have f1 : (0 : Int) ≤ -ρ 31 + ρ 2 := f1
  have f2 : (0 : Int) ≤ -ρ 22 + ρ 2 := f2
  have f3 : (0 : Int) ≤ ρ 30 + -ρ 22 := f3
  have f4 : (0 : Int) ≤ -ρ 30 + ρ 2 := f4
  have f5 : (0 : Int) ≤ -ρ 25 + (ρ 21 + 4 * ρ 12) + 6 := f5
  have f6 : (0 : Int) ≤ -ρ 25 + 4 * ρ 12 + 10 := f6
  have f7 : (0 : Int) ≤ -ρ 24 + (ρ 22 + -ρ 2) + 12288 := f7
  have f8 : (0 : Int) ≤ -ρ 23 + (ρ 22 + -ρ 2) + 12288 := f8
  have f9 : (0 : Int) ≤ -ρ 24 + (ρ 22 + (ρ 4 + -ρ 1)) := f9
  have f10 : (0 : Int) ≤ -ρ 23 + (ρ 22 + (ρ 3 + -ρ 1)) := f10
  have f11 : (0 : Int) ≤ -ρ 7 + -ρ 6 + 2000 := f11
  have f12 : (0 : Int) ≤ -ρ 21 + ρ 2 := f12
  have f13 : (0 : Int) ≤ ρ 25 + -ρ 5 := f13
  have f14 : (0 : Int) ≤ ρ 24 + -ρ 4 := f14
  have f15 : (0 : Int) ≤ ρ 23 + -ρ 3 := f15
  have f16 : (0 : Int) ≤ ρ 22 + -ρ 1 + (-1) := f16
  have f17 : (0 : Int) ≤ ρ 22 + -ρ 21 + (-1) := f17
  have f18 : (0 : Int) ≤ 4 * ρ 12 + -ρ 5 + 6 := f18
  have f19 : (0 : Int) ≤ -ρ 11 + (ρ 10 + ρ 9) := f19
  have f20 : (0 : Int) ≤ ρ 11 + (-ρ 10 + -ρ 9) := f20
  have f21 : (0 : Int) ≤ ρ 2 + -ρ 1 + (-1) := f21
  have f22 : (0 : Int) ≤ -ρ 4 + (-ρ 2 + ρ 1) + 12288 := f22
  have f23 : (0 : Int) ≤ -ρ 3 + (-ρ 2 + ρ 1) + 12288 := f23
  obtain ⟨m0, m1, m2, m3, m4, m5, m6, m7, m8, m9, m10, m11, m12, m13, m14, m15, m16, m17, m18, m19, m20, m21, m22, m23, m24, m25, m26, m27, m28, -⟩ := hm
  have m0 : γ 0 15 0 35 = ρ 1 := m0
  have m1 : γ 0 15 0 34 = ρ 2 := m1
  have m2 : γ 0 15 0 8 = ρ 3 := m2
  have m3 : γ 0 15 0 9 = ρ 4 := m3
  have m4 : γ 0 15 0 58 = ρ 5 := m4
  have m5 : γ 0 15 0 37 = ρ 6 := m5
  have m6 : γ 0 15 0 38 = ρ 7 := m6
  have m7 : γ 0 15 0 14 = ρ 8 := m7
  have m8 : γ 0 15 0 32 = ρ 9 := m8
  have m9 : γ 0 15 0 33 = ρ 10 := m9
  have m10 : γ 0 15 0 44 = ρ 11 := m10
  have m11 : γ 0 73 0 (ρ 11) = ρ 12 := m11
  have m12 : γ 0 77 0 (ρ 12 + 8 * ρ 11) = ρ 13 := m12
  have m13 : γ 0 81 0 (4 * ρ 12 + 32 * ρ 11) = ρ 14 := m13
  have m14 : γ 0 78 0 (ρ 12 + 8 * ρ 11) = ρ 15 := m14
  have m15 : γ 0 15 0 36 = ρ 16 := m15
  have m16 : γ 0 15 0 40 = ρ 17 := m16
  have m17 : γ 0 15 0 45 = ρ 18 := m17
  have m18 : γ 1 15 0 35 = ρ 22 := m18
  have m19 : γ 1 15 0 8 = ρ 23 := m19
  have m20 : γ 1 15 0 9 = ρ 24 := m20
  have m21 : γ 1 15 0 58 = ρ 25 := m21
  have m22 : γ 1 15 0 37 = ρ 26 := m22
  have m23 : γ 1 15 0 38 = ρ 27 := m23
  have m24 : γ 1 15 0 36 = ρ 16 := m24
  have m25 : γ 1 15 0 40 = ρ 28 := m25
  have m26 : γ 1 81 0 (4 * ρ 12 + 32 * ρ 11) = ρ 29 := m26
  have m27 : γ 2 15 0 35 = ρ 30 := m27
  have m28 : γ 3 15 0 36 = ρ 31 := m28
  obtain ⟨⟨⟨-, c1⟩, c2⟩, c3⟩ := hc
  have c1 : ∀ (G : Nat) (k j : Int), ¬ rMdP m26_ G j → γ 1 G k j = γ 0 G k j := c1
  have c2 : ∀ (G : Nat) (k j : Int), ¬ rMdP m6_ G j → γ 2 G k j = γ 1 G k j := c2
  have c3 : ∀ (G : Nat) (k j : Int), ¬ rMdP m7_ G j → γ 3 G k j = γ 2 G k j := c3
  obtain ⟨l0, l1, -⟩ := hl
  have l0 : sn7 [ρ 22, ρ 2] (γ 1) 0 0 (γ 2) := hS7 _ _ _ _ _ l0
  have l1 : sn8 [ρ 30, ρ 2, ρ 16] (γ 2) 0 0 (γ 3) := hS8 _ _ _ _ _ l1
  show sn41 [ρ 0, ρ 1, ρ 2, ρ 3, ρ 4, ρ 5, ρ 6, ρ 7, ρ 8, ρ 9, ρ 10, ρ 11, ρ 12, ρ 13, ρ 14, ρ 15, ρ 16, ρ 17, ρ 18] (γ 0) 0 0 (γ 3)
  have hD : en41 (γ 0) (0, [ρ 0, ρ 19, ρ 20, ρ 21], γ 1) = .inr (0, 0, γ 3) := by
    unfold en41
    refine (if_pos (show (0 : Nat) = 0 by decide)).trans ?_
    refine (zLet_eq (show _ = γ 1 from rfl)).trans ?_
    refine (zLet_eq (show _ = ρ 0 from rfl)).trans ?_
    refine (zLet_eq (show _ = ρ 19 from rfl)).trans ?_
    refine (zLet_eq (show _ = ρ 20 from rfl)).trans ?_
    refine (zLet_eq (show _ = ρ 21 from rfl)).trans ?_
    refine (zLet_eq m1).trans ?_
    refine (zLet_eq m5).trans ?_
    refine (zLet_eq m6).trans ?_
    refine (zLet_eq m7).trans ?_
    refine (zLet_eq m10).trans ?_
    refine (zLet_eq m11).trans ?_
    refine (zLet_eq m17).trans ?_
    refine (if_neg (show ¬ (ρ 19 = 0) by omega)).trans ?_
    refine (zLet_eq (show fn7 [] (γ 1) = (0, 0, γ 2) from l0.symm)).trans ?_
    refine (zLet_eq (show _ = γ 2 from rfl)).trans ?_
    refine (zLet_eq m27).trans ?_
    refine (if_neg (show ¬ (ρ 21 ≠ 4) by omega)).trans ?_
    refine (zLet_eq (show fn8 [ρ 30] (γ 2) = (0, 0, γ 3) from l1.symm)).trans ?_
    refine (zLet_eq (show _ = γ 3 from rfl)).trans ?_
    rfl
  exact zGoo_aend hJ hD
theorem yn41 {S : Nat → zSpc} (hS6 : ∀ x g o v gz, S 6 x g o v gz → sn6 x g o v gz) (hS7 : ∀ x g o v gz, S 7 x g o v gz → sn7 x g o v gz) (hS8 : ∀ x g o v gz, S 8 x g o v gz → sn8 x g o v gz) (hS20 : ∀ x g o v gz, S 20 x g o v gz → sn20 x g o v gz) (hS21 : ∀ x g o v gz, S 21 x g o v gz → sn21 x g o v gz) (hS24 : ∀ x g o v gz, S 24 x g o v gz → sn24 x g o v gz) (hS25 : ∀ x g o v gz, S 25 x g o v gz → sn25 x g o v gz) (hS33 : ∀ x g o v gz, S 33 x g o v gz → sn33 x g o v gz) (hS39 : ∀ x g o v gz, S 39 x g o v gz → sn39 x g o v gz) : ∀ x g o v gz, zSem uW uT w41_.2.2.2.1 w41_.2.2.1.1.length S q41 (fun i => q41a.getD i []) (zNA a41_) x g o v gz → sn41 x g o v gz := by
  intro a g o v gz h
  exact zSem_all (l0 := q41) (las := q41a) (S := S) (J := (fun i vs g1 => jn41 a g i vs g1)) (P := sn41 a g) (fun _ => (show zAll _ [q41_0] from (zAll_c (vn41_0 hS6 hS7 hS8 hS20 hS21 hS24 hS25 hS33 hS39) zAll_n))) (fun _ => (show zAllI _ 0 [q41a0] from ⟨(show zAll _ [q41a0_0, q41a0_1, q41a0_2, q41a0_3, q41a0_4, q41a0_5, q41a0_6, q41a0_7, q41a0_8, q41a0_9, q41a0_10, q41a0_11, q41a0_12, q41a0_13, q41a0_14, q41a0_15, q41a0_16, q41a0_17, q41a0_18, q41a0_19] from (zAll_c (vn41a0_0 hS6 hS7 hS8 hS20 hS21 hS24 hS25 hS33 hS39) (zAll_c (vn41a0_1 hS6 hS7 hS8 hS20 hS21 hS24 hS25 hS33 hS39) (zAll_c (vn41a0_2 hS6 hS7 hS8 hS20 hS21 hS24 hS25 hS33 hS39) (zAll_c (vn41a0_3 hS6 hS7 hS8 hS20 hS21 hS24 hS25 hS33 hS39) (zAll_c (vn41a0_4 hS6 hS7 hS8 hS20 hS21 hS24 hS25 hS33 hS39) (zAll_c (vn41a0_5 hS6 hS7 hS8 hS20 hS21 hS24 hS25 hS33 hS39) (zAll_c (vn41a0_6 hS6 hS7 hS8 hS20 hS21 hS24 hS25 hS33 hS39) (zAll_c (vn41a0_7 hS6 hS7 hS8 hS20 hS21 hS24 hS25 hS33 hS39) (zAll_c (vn41a0_8 hS6 hS7 hS8 hS20 hS21 hS24 hS25 hS33 hS39) (zAll_c (vn41a0_9 hS6 hS7 hS8 hS20 hS21 hS24 hS25 hS33 hS39) (zAll_c (vn41a0_10 hS6 hS7 hS8 hS20 hS21 hS24 hS25 hS33 hS39) (zAll_c (vn41a0_11 hS6 hS7 hS8 hS20 hS21 hS24 hS25 hS33 hS39) (zAll_c (vn41a0_12 hS6 hS7 hS8 hS20 hS21 hS24 hS25 hS33 hS39) (zAll_c (vn41a0_13 hS6 hS7 hS8 hS20 hS21 hS24 hS25 hS33 hS39) (zAll_c (vn41a0_14 hS6 hS7 hS8 hS20 hS21 hS24 hS25 hS33 hS39) (zAll_c (vn41a0_15 hS6 hS7 hS8 hS20 hS21 hS24 hS25 hS33 hS39) (zAll_c (vn41a0_16 hS6 hS7 hS8 hS20 hS21 hS24 hS25 hS33 hS39) (zAll_c (vn41a0_17 hS6 hS7 hS8 hS20 hS21 hS24 hS25 hS33 hS39) (zAll_c (vn41a0_18 hS6 hS7 hS8 hS20 hS21 hS24 hS25 hS33 hS39) (zAll_c (vn41a0_19 hS6 hS7 hS8 hS20 hS21 hS24 hS25 hS33 hS39) zAll_n))))))))))))))))))))), trivial⟩)) h
