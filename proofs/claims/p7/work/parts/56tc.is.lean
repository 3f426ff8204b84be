/-! ===== the runs are the functions ===== -/
theorem vn75_0 {S : Nat → zSpc} (hS57 : ∀ x g o v gz, S 57 x g o v gz → sn57 x g o v gz) (hS73 : ∀ x g o v gz, S 73 x g o v gz → sn73 x g o v gz) {a : List Int} {g : rHp} : ∀ (ρ : Nat → Int) (γ : Nat → rHp), zO 15 S a g q75_0 ρ γ → zGl (fun i vs g1 => jn75 a g i vs g1) (sn75 a g) q75_0 ρ γ := by
  intro ρ γ h
  obtain ⟨ha, hg, hr, hf, hm, hc, hl⟩ := h
  have ha : a = [ρ 0, ρ 1, ρ 2, ρ 3, ρ 4, ρ 5, ρ 6, ρ 7, ρ 8, ρ 9, ρ 10, ρ 11, ρ 12, ρ 13, ρ 14] := ha
  subst ha
  subst hg
  obtain ⟨r0, r1, r2, r3, r4, r5, r6, r7, r8, r9, r10, r11, r12, r13, r14, r15, r16, r17, r18, -⟩ := hr
  have r0 : (0 : Int) ≤ ρ 0 ∧ ρ 0 ≤ 59 := r0
  have r1 : (0 : Int) ≤ ρ 1 ∧ ρ 1 ≤ 60 := r1
  have r2 : (0 : Int) ≤ ρ 2 ∧ ρ 2 ≤ 20 := r2
  have r3 : (1 : Int) ≤ ρ 3 ∧ ρ 3 ≤ 4 := r3
  have r4 : (0 : Int) ≤ ρ 4 ∧ ρ 4 ≤ 50001 := r4
  have r5 : (0 : Int) ≤ ρ 5 ∧ ρ 5 ≤ 3 := r5
  have r6 : (0 : Int) ≤ ρ 6 ∧ ρ 6 ≤ 2000 := r6
  have r7 : (0 : Int) ≤ ρ 7 ∧ ρ 7 ≤ 19 := r7
  have r8 : (0 : Int) ≤ ρ 8 ∧ ρ 8 ≤ 61 := r8
  have r9 : (0 : Int) ≤ ρ 9 ∧ ρ 9 ≤ 2000 := r9
  have r10 : ((-2147483648) : Int) ≤ ρ 10 ∧ ρ 10 ≤ 2147483647 := r10
  have r11 : (0 : Int) ≤ ρ 11 ∧ ρ 11 ≤ 2000 := r11
  have r12 : (0 : Int) ≤ ρ 12 ∧ ρ 12 ≤ 2000 := r12
  have r13 : (0 : Int) ≤ ρ 13 ∧ ρ 13 ≤ 2000 := r13
  have r14 : (0 : Int) ≤ ρ 14 ∧ ρ 14 ≤ 50001 := r14
  have r15 : (0 : Int) ≤ ρ 15 ∧ ρ 15 ≤ 8 := r15
  have r16 : (0 : Int) ≤ ρ 16 ∧ ρ 16 ≤ 50001 := r16
  have r17 : (0 : Int) ≤ ρ 17 ∧ ρ 17 ≤ 3 := r17
  have r18 : (0 : Int) ≤ ρ 18 ∧ ρ 18 ≤ 2000 := r18
  obtain ⟨f0, f1, f2, f3, -⟩ := hf
  have f0 : (0 : Int) ≤ ρ 1 + -ρ 0 + (-1) := f0
  have f1 : (0 : Int) ≤ ρ 16 + -ρ 4 := f1
  have f2 : (0 : Int) ≤ ρ 17 + -ρ 5 := f2
  have f3 : (0 : Int) ≤ ρ 17 + -ρ 16 + 50000 := f3
  obtain ⟨m0, m1, m2, m3, m4, m5, m6, m7, m8, m9, m10, m11, m12, m13, m14, m15, m16, m17, -⟩ := hm
  have m0 : γ 0 15 0 32 = ρ 1 := m0
  have m1 : γ 0 15 0 13 = ρ 2 := m1
  have m2 : γ 0 71 0 (ρ 0) = ρ 3 := m2
  have m3 : γ 0 15 0 72 = ρ 4 := m3
  have m4 : γ 0 15 0 77 = ρ 5 := m4
  have m5 : γ 0 15 0 90 = ρ 6 := m5
  have m6 : γ 0 69 0 (ρ 0) = ρ 7 := m6
  have m7 : γ 0 15 0 44 = ρ 8 := m7
  have m8 : γ 0 15 0 71 = ρ 9 := m8
  have m9 : γ 0 15 0 76 = ρ 10 := m9
  have m10 : γ 0 15 0 81 = ρ 11 := m10
  have m11 : γ 0 15 0 82 = ρ 12 := m11
  have m12 : γ 0 15 0 83 = ρ 13 := m12
  have m13 : γ 0 15 0 94 = ρ 14 := m13
  have m14 : γ 0 73 0 (ρ 0) = ρ 15 := m14
  have m15 : γ 4 15 0 72 = ρ 16 := m15
  have m16 : γ 4 15 0 77 = ρ 17 := m16
  have m17 : γ 4 15 0 90 = ρ 18 := m17
  obtain ⟨⟨⟨⟨-, c1⟩, c2⟩, c3⟩, c4⟩ := hc
  have c1 : γ 1 = rUp (γ 0) 15 0 90 0 := c1
  have c2 : γ 2 = rUp (γ 1) 15 0 81 (ρ 9) := c2
  have c3 : γ 3 = rUp (γ 2) 15 0 84 0 := c3
  have c4 : ∀ (G : Nat) (k j : Int), ¬ rMdP m49_ G j → γ 4 G k j = γ 3 G k j := c4
  obtain ⟨l0, -⟩ := hl
  have l0 : sn73 [ρ 0, ρ 15, ρ 1, ρ 4, ρ 5, ρ 14, ρ 3, ρ 8, ρ 9, ρ 9, ρ 12, ρ 13, 0] (γ 3) 0 0 (γ 4) := hS73 _ _ _ _ _ l0
  show jn75 [ρ 0, ρ 1, ρ 2, ρ 3, ρ 4, ρ 5, ρ 6, ρ 7, ρ 8, ρ 9, ρ 10, ρ 11, ρ 12, ρ 13, ρ 14] (γ 0) 0 [ρ 0, ρ 1, ρ 2, ρ 3, ρ 4, ρ 5, ρ 6, ρ 7, ρ 8, ρ 9, ρ 10, ρ 11, ρ 12, ρ 13, ρ 14, 0, ρ 16, ρ 17, ρ 18, ρ 9] (γ 4)
  have hD : dn75 [ρ 0] (γ 0) = .inl (0, [ρ 0, 0], γ 4) := by
    unfold dn75
    refine (zLet_eq (show _ = ρ 0 from rfl)).trans ?_
    refine (zLet_eq m8).trans ?_
    refine (zLet_eq c1.symm).trans ?_
    refine (zLet_eq c2.symm).trans ?_
    refine (zLet_eq c3.symm).trans ?_
    refine (zLet_eq (show fn73 [ρ 0] (γ 3) = (0, 0, γ 4) from l0.symm)).trans ?_
    refine (zLet_eq (show _ = γ 4 from rfl)).trans ?_
    rfl
  exact zGoo_to hD
theorem vn75a0_0 {S : Nat → zSpc} (hS57 : ∀ x g o v gz, S 57 x g o v gz → sn57 x g o v gz) (hS73 : ∀ x g o v gz, S 73 x g o v gz → sn73 x g o v gz) {a : List Int} {g : rHp} : ∀ (ρ : Nat → Int) (γ : Nat → rHp), jn75 a g 0 (zAg (zNA a75_ 0) ρ) (γ 1) → zO 15 S a g q75a0_0 ρ γ → zGl (fun i vs g1 => jn75 a g i vs g1) (sn75 a g) q75a0_0 ρ γ := by
  intro ρ γ hJ h
  obtain ⟨ha, hg, hr, hf, hm, hc, hl⟩ := h
  have ha : a = [ρ 0, ρ 1, ρ 2, ρ 3, ρ 4, ρ 5, ρ 6, ρ 7, ρ 8, ρ 9, ρ 10, ρ 11, ρ 12, ρ 13, ρ 14] := ha
  subst ha
  subst hg
  have hJ : jn75 [ρ 0, ρ 1, ρ 2, ρ 3, ρ 4, ρ 5, ρ 6, ρ 7, ρ 8, ρ 9, ρ 10, ρ 11, ρ 12, ρ 13, ρ 14] (γ 0) 0 [ρ 0, ρ 1, ρ 2, ρ 3, ρ 4, ρ 5, ρ 6, ρ 7, ρ 8, ρ 9, ρ 10, ρ 11, ρ 12, ρ 13, ρ 14, ρ 15, ρ 16, ρ 17, ρ 18, ρ 19] (γ 1) := hJ
  obtain ⟨r0, r1, r2, r3, r4, r5, r6, r7, r8, r9, r10, r11, r12, r13, r14, r15, r16, r17, r18, r19, -⟩ := hr
  have r0 : (0 : Int) ≤ ρ 0 ∧ ρ 0 ≤ 59 := r0
  have r1 : (0 : Int) ≤ ρ 1 ∧ ρ 1 ≤ 60 := r1
  have r2 : (0 : Int) ≤ ρ 2 ∧ ρ 2 ≤ 20 := r2
  have r3 : (1 : Int) ≤ ρ 3 ∧ ρ 3 ≤ 4 := r3
  have r4 : (0 : Int) ≤ ρ 4 ∧ ρ 4 ≤ 50001 := r4
  have r5 : (0 : Int) ≤ ρ 5 ∧ ρ 5 ≤ 3 := r5
  have r6 : (0 : Int) ≤ ρ 6 ∧ ρ 6 ≤ 2000 := r6
  have r7 : (0 : Int) ≤ ρ 7 ∧ ρ 7 ≤ 19 := r7
  have r8 : (0 : Int) ≤ ρ 8 ∧ ρ 8 ≤ 61 := r8
  have r9 : (0 : Int) ≤ ρ 9 ∧ ρ 9 ≤ 2000 := r9
  have r10 : ((-2147483648) : Int) ≤ ρ 10 ∧ ρ 10 ≤ 2147483647 := r10
  have r11 : (0 : Int) ≤ ρ 11 ∧ ρ 11 ≤ 2000 := r11
  have r12 : (0 : Int) ≤ ρ 12 ∧ ρ 12 ≤ 2000 := r12
  have r13 : (0 : Int) ≤ ρ 13 ∧ ρ 13 ≤ 2000 := r13
  have r14 : (0 : Int) ≤ ρ 14 ∧ ρ 14 ≤ 50001 := r14
  have r15 : (0 : Int) ≤ ρ 15 ∧ ρ 15 ≤ 2000 := r15
  have r16 : (0 : Int) ≤ ρ 16 ∧ ρ 16 ≤ 50001 := r16
  have r17 : (0 : Int) ≤ ρ 17 ∧ ρ 17 ≤ 3 := r17
  have r18 : (0 : Int) ≤ ρ 18 ∧ ρ 18 ≤ 2000 := r18
  have r19 : (0 : Int) ≤ ρ 19 ∧ ρ 19 ≤ 2000 := r19
  obtain ⟨f0, f1, f2, f3, f4, f5, f6, -⟩ := hf
  have f0 : (0 : Int) ≤ -ρ 18 + ρ 15 := f0
  have f1 : (0 : Int) ≤ ρ 17 + -ρ 16 + 50000 := f1
  have f2 : (0 : Int) ≤ ρ 1 + -ρ 0 + (-1) := f2
  have f3 : (0 : Int) ≤ ρ 19 + -ρ 9 := f3
  have f4 : (0 : Int) ≤ ρ 18 + -ρ 15 := f4
  have f5 : (0 : Int) ≤ ρ 17 + -ρ 5 := f5
  have f6 : (0 : Int) ≤ ρ 16 + -ρ 4 := f6
  obtain ⟨m0, m1, m2, m3, m4, m5, m6, m7, m8, m9, m10, m11, m12, m13, m14, m15, m16, m17, m18, -⟩ := hm
  have m0 : γ 0 15 0 32 = ρ 1 := m0
  have m1 : γ 0 15 0 13 = ρ 2 := m1
  have m2 : γ 0 71 0 (ρ 0) = ρ 3 := m2
  have m3 : γ 0 15 0 72 = ρ 4 := m3
  have m4 : γ 0 15 0 77 = ρ 5 := m4
  have m5 : γ 0 15 0 90 = ρ 6 := m5
  have m6 : γ 0 69 0 (ρ 0) = ρ 7 := m6
  have m7 : γ 0 15 0 44 = ρ 8 := m7
  have m8 : γ 0 15 0 71 = ρ 9 := m8
  have m9 : γ 0 15 0 76 = ρ 10 := m9
  have m10 : γ 0 15 0 81 = ρ 11 := m10
  have m11 : γ 0 15 0 82 = ρ 12 := m11
  have m12 : γ 0 15 0 83 = ρ 13 := m12
  have m13 : γ 0 15 0 94 = ρ 14 := m13
  have m14 : γ 1 15 0 72 = ρ 16 := m14
  have m15 : γ 1 15 0 77 = ρ 17 := m15
  have m16 : γ 1 15 0 90 = ρ 18 := m16
  have m17 : γ 1 15 0 71 = ρ 19 := m17
  have m18 : γ 1 15 0 81 = ρ 9 := m18
  obtain ⟨-, c1⟩ := hc
  have c1 : ∀ (G : Nat) (k j : Int), ¬ rMdP m51_ G j → γ 1 G k j = γ 0 G k j := c1
  show sn75 [ρ 0, ρ 1, ρ 2, ρ 3, ρ 4, ρ 5, ρ 6, ρ 7, ρ 8, ρ 9, ρ 10, ρ 11, ρ 12, ρ 13, ρ 14] (γ 0) 0 0 (γ 1)
  have hD : en75 (γ 0) (0, [ρ 0, ρ 15], γ 1) = .inr (0, 0, γ 1) := by
    unfold en75
    refine (if_pos (show (0 : Nat) = 0 by decide)).trans ?_
    refine (zLet_eq (show _ = γ 1 from rfl)).trans ?_
    refine (zLet_eq (show _ = ρ 0 from rfl)).trans ?_
    refine (zLet_eq (show _ = ρ 15 from rfl)).trans ?_
    refine (zLet_eq m2).trans ?_
    refine (zLet_eq m6).trans ?_
    refine (zLet_eq m15).trans ?_
    refine (zLet_eq m16).trans ?_
    refine (if_pos (show ρ 15 ≥ ρ 18 by omega)).trans ?_
    rfl
  exact zGoo_aend hJ hD
theorem vn75a0_1 {S : Nat → zSpc} (hS57 : ∀ x g o v gz, S 57 x g o v gz → sn57 x g o v gz) (hS73 : ∀ x g o v gz, S 73 x g o v gz → sn73 x g o v gz) {a : List Int} {g : rHp} : ∀ (ρ : Nat → Int) (γ : Nat → rHp), jn75 a g 0 (zAg (zNA a75_ 0) ρ) (γ 1) → zO 15 S a g q75a0_1 ρ γ → zGl (fun i vs g1 => jn75 a g i vs g1) (sn75 a g) q75a0_1 ρ γ := by
  intro ρ γ hJ h
  obtain ⟨ha, hg, hr, hf, hm, hc, hl⟩ := h
  have ha : a = [ρ 0, ρ 1, ρ 2, ρ 3, ρ 4, ρ 5, ρ 6, ρ 7, ρ 8, ρ 9, ρ 10, ρ 11, ρ 12, ρ 13, ρ 14] := ha
  subst ha
  subst hg
  have hJ : jn75 [ρ 0, ρ 1, ρ 2, ρ 3, ρ 4, ρ 5, ρ 6, ρ 7, ρ 8, ρ 9, ρ 10, ρ 11, ρ 12, ρ 13, ρ 14] (γ 0) 0 [ρ 0, ρ 1, ρ 2, ρ 3, ρ 4, ρ 5, ρ 6, ρ 7, ρ 8, ρ 9, ρ 10, ρ 11, ρ 12, ρ 13, ρ 14, ρ 15, ρ 16, ρ 17, ρ 18, ρ 19] (γ 1) := hJ
  obtain ⟨r0, r1, r2, r3, r4, r5, r6, r7, r8, r9, r10, r11, r12, r13, r14, r15, r16, r17, r18, r19, -⟩ := hr
  have r0 : (0 : Int) ≤ ρ 0 ∧ ρ 0 ≤ 59 := r0
  have r1 : (0 : Int) ≤ ρ 1 ∧ ρ 1 ≤ 60 := r1
  have r2 : (0 : Int) ≤ ρ 2 ∧ ρ 2 ≤ 20 := r2
  have r3 : (1 : Int) ≤ ρ 3 ∧ ρ 3 ≤ 4 := r3
  have r4 : (0 : Int) ≤ ρ 4 ∧ ρ 4 ≤ 50001 := r4
  have r5 : (0 : Int) ≤ ρ 5 ∧ ρ 5 ≤ 3 := r5
  have r6 : (0 : Int) ≤ ρ 6 ∧ ρ 6 ≤ 2000 := r6
  have r7 : (0 : Int) ≤ ρ 7 ∧ ρ 7 ≤ 19 := r7
  have r8 : (0 : Int) ≤ ρ 8 ∧ ρ 8 ≤ 61 := r8
  have r9 : (0 : Int) ≤ ρ 9 ∧ ρ 9 ≤ 2000 := r9
  have r10 : ((-2147483648) : Int) ≤ ρ 10 ∧ ρ 10 ≤ 2147483647 := r10
  have r11 : (0 : Int) ≤ ρ 11 ∧ ρ 11 ≤ 2000 := r11
  have r12 : (0 : Int) ≤ ρ 12 ∧ ρ 12 ≤ 2000 := r12
  have r13 : (0 : Int) ≤ ρ 13 ∧ ρ 13 ≤ 2000 := r13
  have r14 : (0 : Int) ≤ ρ 14 ∧ ρ 14 ≤ 50001 := r14
  have r15 : (0 : Int) ≤ ρ 15 ∧ ρ 15 ≤ 2000 := r15
  have r16 : (0 : Int) ≤ ρ 16 ∧ ρ 16 ≤ 50001 := r16
  have r17 : (1 : Int) ≤ ρ 17 ∧ ρ 17 ≤ 3 := r17
  have r18 : (0 : Int) ≤ ρ 18 ∧ ρ 18 ≤ 2000 := r18
  have r19 : (0 : Int) ≤ ρ 19 ∧ ρ 19 ≤ 2000 := r19
  obtain ⟨f0, f1, f2, f3, f4, f5, f6, -⟩ := hf
  have f0 : (0 : Int) ≤ ρ 18 + -ρ 15 + (-1) := f0
  have f1 : (0 : Int) ≤ ρ 17 + -ρ 16 + 50000 := f1
  have f2 : (0 : Int) ≤ ρ 1 + -ρ 0 + (-1) := f2
  have f3 : (0 : Int) ≤ ρ 19 + -ρ 9 := f3
  have f4 : (0 : Int) ≤ ρ 18 + -ρ 15 := f4
  have f5 : (0 : Int) ≤ ρ 17 + -ρ 5 := f5
  have f6 : (0 : Int) ≤ ρ 16 + -ρ 4 := f6
  obtain ⟨m0, m1, m2, m3, m4, m5, m6, m7, m8, m9, m10, m11, m12, m13, m14, m15, m16, m17, m18, -⟩ := hm
  have m0 : γ 0 15 0 32 = ρ 1 := m0
  have m1 : γ 0 15 0 13 = ρ 2 := m1
  have m2 : γ 0 71 0 (ρ 0) = ρ 3 := m2
  have m3 : γ 0 15 0 72 = ρ 4 := m3
  have m4 : γ 0 15 0 77 = ρ 5 := m4
  have m5 : γ 0 15 0 90 = ρ 6 := m5
  have m6 : γ 0 69 0 (ρ 0) = ρ 7 := m6
  have m7 : γ 0 15 0 44 = ρ 8 := m7
  have m8 : γ 0 15 0 71 = ρ 9 := m8
  have m9 : γ 0 15 0 76 = ρ 10 := m9
  have m10 : γ 0 15 0 81 = ρ 11 := m10
  have m11 : γ 0 15 0 82 = ρ 12 := m11
  have m12 : γ 0 15 0 83 = ρ 13 := m12
  have m13 : γ 0 15 0 94 = ρ 14 := m13
  have m14 : γ 1 15 0 72 = ρ 16 := m14
  have m15 : γ 1 15 0 77 = ρ 17 := m15
  have m16 : γ 1 15 0 90 = ρ 18 := m16
  have m17 : γ 1 15 0 71 = ρ 19 := m17
  have m18 : γ 1 15 0 81 = ρ 9 := m18
  obtain ⟨-, c1⟩ := hc
  have c1 : ∀ (G : Nat) (k j : Int), ¬ rMdP m51_ G j → γ 1 G k j = γ 0 G k j := c1
  show sn75 [ρ 0, ρ 1, ρ 2, ρ 3, ρ 4, ρ 5, ρ 6, ρ 7, ρ 8, ρ 9, ρ 10, ρ 11, ρ 12, ρ 13, ρ 14] (γ 0) 0 0 (γ 1)
  have hD : en75 (γ 0) (0, [ρ 0, ρ 15], γ 1) = .inr (0, 0, γ 1) := by
    unfold en75
    refine (if_pos (show (0 : Nat) = 0 by decide)).trans ?_
    refine (zLet_eq (show _ = γ 1 from rfl)).trans ?_
    refine (zLet_eq (show _ = ρ 0 from rfl)).trans ?_
    refine (zLet_eq (show _ = ρ 15 from rfl)).trans ?_
    refine (zLet_eq m2).trans ?_
    refine (zLet_eq m6).trans ?_
    refine (zLet_eq m15).trans ?_
    refine (zLet_eq m16).trans ?_
    refine (if_neg (show ¬ (ρ 15 ≥ ρ 18) by omega)).trans ?_
    refine (if_pos (show ρ 17 ≠ 0 by omega)).trans ?_
    rfl
  exact zGoo_aend hJ hD
theorem vn75a0_2 {S : Nat → zSpc} (hS57 : ∀ x g o v gz, S 57 x g o v gz → sn57 x g o v gz) (hS73 : ∀ x g o v gz, S 73 x g o v gz → sn73 x g o v gz) {a : List Int} {g : rHp} : ∀ (ρ : Nat → Int) (γ : Nat → rHp), jn75 a g 0 (zAg (zNA a75_ 0) ρ) (γ 1) → zO 15 S a g q75a0_2 ρ γ → zGl (fun i vs g1 => jn75 a g i vs g1) (sn75 a g) q75a0_2 ρ γ := by
  intro ρ γ hJ h
  obtain ⟨ha, hg, hr, hf, hm, hc, hl⟩ := h
  have ha : a = [ρ 0, ρ 1, ρ 2, ρ 3, ρ 4, ρ 5, ρ 6, ρ 7, ρ 8, ρ 9, ρ 10, ρ 11, ρ 12, ρ 13, ρ 14] := ha
  subst ha
  subst hg
  have hJ : jn75 [ρ 0, ρ 1, ρ 2, ρ 3, ρ 4, ρ 5, ρ 6, ρ 7, ρ 8, ρ 9, ρ 10, ρ 11, ρ 12, ρ 13, ρ 14] (γ 0) 0 [ρ 0, ρ 1, ρ 2, ρ 3, ρ 4, ρ 5, ρ 6, ρ 7, ρ 8, ρ 9, ρ 10, ρ 11, ρ 12, ρ 13, ρ 14, ρ 15, ρ 16, ρ 17, ρ 18, ρ 19] (γ 1) := hJ
  obtain ⟨r0, r1, r2, r3, r4, r5, r6, r7, r8, r9, r10, r11, r12, r13, r14, r15, r16, r17, r18, r19, r20, r21, r22, r23, r24, r25, r26, r27, r28, r29, r30, r31, r32, r33, -⟩ := hr
  have r0 : (0 : Int) ≤ ρ 0 ∧ ρ 0 ≤ 59 := r0
  have r1 : (0 : Int) ≤ ρ 1 ∧ ρ 1 ≤ 60 := r1
  have r2 : (0 : Int) ≤ ρ 2 ∧ ρ 2 ≤ 20 := r2
  have r3 : (2 : Int) ≤ ρ 3 ∧ ρ 3 ≤ 2 := r3
  have r4 : (0 : Int) ≤ ρ 4 ∧ ρ 4 ≤ 50001 := r4
  have r5 : (0 : Int) ≤ ρ 5 ∧ ρ 5 ≤ 3 := r5
  have r6 : (0 : Int) ≤ ρ 6 ∧ ρ 6 ≤ 2000 := r6
  have r7 : (0 : Int) ≤ ρ 7 ∧ ρ 7 ≤ 19 := r7
  have r8 : (0 : Int) ≤ ρ 8 ∧ ρ 8 ≤ 61 := r8
  have r9 : (0 : Int) ≤ ρ 9 ∧ ρ 9 ≤ 2000 := r9
  have r10 : ((-2147483648) : Int) ≤ ρ 10 ∧ ρ 10 ≤ 2147483647 := r10
  have r11 : (0 : Int) ≤ ρ 11 ∧ ρ 11 ≤ 2000 := r11
  have r12 : (0 : Int) ≤ ρ 12 ∧ ρ 12 ≤ 2000 := r12
  have r13 : (0 : Int) ≤ ρ 13 ∧ ρ 13 ≤ 2000 := r13
  have r14 : (0 : Int) ≤ ρ 14 ∧ ρ 14 ≤ 50001 := r14
  have r15 : (0 : Int) ≤ ρ 15 ∧ ρ 15 ≤ 2000 := r15
  have r16 : (0 : Int) ≤ ρ 16 ∧ ρ 16 ≤ 50001 := r16
  have r17 : (0 : Int) ≤ ρ 17 ∧ ρ 17 ≤ 0 := r17
  have r18 : (0 : Int) ≤ ρ 18 ∧ ρ 18 ≤ 2000 := r18
  have r19 : (0 : Int) ≤ ρ 19 ∧ ρ 19 ≤ 2000 := r19
  have r20 : ((-2147483648) : Int) ≤ ρ 20 ∧ ρ 20 ≤ 2147483647 := r20
  have r21 : (0 : Int) ≤ ρ 21 ∧ ρ 21 ≤ 0 := r21
  have r22 : ((-2147483648) : Int) ≤ ρ 22 ∧ ρ 22 ≤ 1099511640064 := r22
  have r23 : ((-2147483648) : Int) ≤ ρ 23 ∧ ρ 23 ≤ 1099511640064 := r23
  have r24 : ((-2147483648) : Int) ≤ ρ 24 ∧ ρ 24 ≤ 1099511640064 := r24
  have r25 : ((-2147483648) : Int) ≤ ρ 25 ∧ ρ 25 ≤ 1099511640064 := r25
  have r26 : (0 : Int) ≤ ρ 26 ∧ ρ 26 ≤ 8 := r26
  have r27 : ((-1) : Int) ≤ ρ 27 ∧ ρ 27 ≤ 1999 := r27
  have r28 : (0 : Int) ≤ ρ 28 ∧ ρ 28 ≤ 1999 := r28
  have r29 : (1 : Int) ≤ ρ 29 ∧ ρ 29 ≤ 2000 := r29
  have r30 : (0 : Int) ≤ ρ 30 ∧ ρ 30 ≤ 8 := r30
  have r31 : ((-1) : Int) ≤ ρ 31 ∧ ρ 31 ≤ 1999 := r31
  have r32 : (0 : Int) ≤ ρ 32 ∧ ρ 32 ≤ 1999 := r32
  have r33 : (0 : Int) ≤ ρ 33 ∧ ρ 33 ≤ 3 := r33
  obtain ⟨f0, f1, f2, f3, f4, f5, f6, f7, f8, f9, -⟩ := hf
  have f0 : (0 : Int) ≤ -ρ 7 + ρ 2 + (-1) := f0
  have f1 : (0 : Int) ≤ ρ 29 + -ρ 19 := f1
  have f2 : (0 : Int) ≤ ρ 31 + -ρ 27 := f2
  have f3 : (0 : Int) ≤ ρ 18 + -ρ 15 + (-1) := f3
  have f4 : (0 : Int) ≤ ρ 17 + -ρ 16 + 50000 := f4
  have f5 : (0 : Int) ≤ ρ 1 + -ρ 0 + (-1) := f5
  have f6 : (0 : Int) ≤ ρ 19 + -ρ 9 := f6
  have f7 : (0 : Int) ≤ ρ 18 + -ρ 15 := f7
  have f8 : (0 : Int) ≤ ρ 17 + -ρ 5 := f8
  have f9 : (0 : Int) ≤ ρ 16 + -ρ 4 := f9
  obtain ⟨m0, m1, m2, m3, m4, m5, m6, m7, m8, m9, m10, m11, m12, m13, m14, m15, m16, m17, m18, m19, m20, m21, m22, m23, m24, m25, m26, m27, m28, m29, m30, m31, m32, -⟩ := hm
  have m0 : γ 0 15 0 32 = ρ 1 := m0
  have m1 : γ 0 15 0 13 = ρ 2 := m1
  have m2 : γ 0 71 0 (ρ 0) = ρ 3 := m2
  have m3 : γ 0 15 0 72 = ρ 4 := m3
  have m4 : γ 0 15 0 77 = ρ 5 := m4
  have m5 : γ 0 15 0 90 = ρ 6 := m5
  have m6 : γ 0 69 0 (ρ 0) = ρ 7 := m6
  have m7 : γ 0 15 0 44 = ρ 8 := m7
  have m8 : γ 0 15 0 71 = ρ 9 := m8
  have m9 : γ 0 15 0 76 = ρ 10 := m9
  have m10 : γ 0 15 0 81 = ρ 11 := m10
  have m11 : γ 0 15 0 82 = ρ 12 := m11
  have m12 : γ 0 15 0 83 = ρ 13 := m12
  have m13 : γ 0 15 0 94 = ρ 14 := m13
  have m14 : γ 1 15 0 72 = ρ 16 := m14
  have m15 : γ 1 15 0 77 = ρ 17 := m15
  have m16 : γ 1 15 0 90 = ρ 18 := m16
  have m17 : γ 1 15 0 71 = ρ 19 := m17
  have m18 : γ 1 15 0 81 = ρ 9 := m18
  have m19 : γ 1 107 0 (ρ 15) = ρ 20 := m19
  have m20 : γ 0 66 0 (ρ 7) = ρ 21 := m20
  have m21 : γ 1 105 0 (4 * ρ 15) = ρ 22 := m21
  have m22 : γ 1 105 0 (4 * ρ 15 + 1) = ρ 23 := m22
  have m23 : γ 1 105 0 (4 * ρ 15 + 2) = ρ 24 := m23
  have m24 : γ 1 105 0 (4 * ρ 15 + 3) = ρ 25 := m24
  have m25 : γ 1 97 0 (ρ 19) = ρ 26 := m25
  have m26 : γ 1 100 0 (ρ 7) = ρ 27 := m26
  have m27 : γ 1 101 0 (ρ 7) = ρ 28 := m27
  have m28 : γ 6 15 0 71 = ρ 29 := m28
  have m29 : γ 6 97 0 (ρ 19) = ρ 30 := m29
  have m30 : γ 6 100 0 (ρ 7) = ρ 31 := m30
  have m31 : γ 6 101 0 (ρ 7) = ρ 32 := m31
  have m32 : γ 6 15 0 77 = ρ 33 := m32
  obtain ⟨⟨⟨⟨⟨⟨-, c1⟩, c2⟩, c3⟩, c4⟩, c5⟩, c6⟩ := hc
  have c1 : ∀ (G : Nat) (k j : Int), ¬ rMdP m51_ G j → γ 1 G k j = γ 0 G k j := c1
  have c2 : γ 2 = rUp (γ 1) 102 0 0 (ρ 22) := c2
  have c3 : γ 3 = rUp (γ 2) 102 0 1 (ρ 23) := c3
  have c4 : γ 4 = rUp (γ 3) 102 0 2 (ρ 24) := c4
  have c5 : γ 5 = rUp (γ 4) 102 0 3 (ρ 25) := c5
  have c6 : ∀ (G : Nat) (k j : Int), ¬ rMdP m40_ G j → γ 6 G k j = γ 5 G k j := c6
  obtain ⟨l0, -⟩ := hl
  have l0 : sn57 [ρ 7, ρ 0, ρ 2, ρ 19, ρ 26, ρ 27, ρ 28, ρ 10, ρ 17] (γ 5) 0 0 (γ 6) := hS57 _ _ _ _ _ l0
  show jn75 [ρ 0, ρ 1, ρ 2, ρ 3, ρ 4, ρ 5, ρ 6, ρ 7, ρ 8, ρ 9, ρ 10, ρ 11, ρ 12, ρ 13, ρ 14] (γ 0) 0 [ρ 0, ρ 1, ρ 2, ρ 3, ρ 4, ρ 5, ρ 6, ρ 7, ρ 8, ρ 9, ρ 10, ρ 11, ρ 12, ρ 13, ρ 14, ρ 15 + 1, ρ 16, ρ 33, ρ 18, ρ 29] (γ 6)
  have hD : en75 (γ 0) (0, [ρ 0, ρ 15], γ 1) = .inl (0, [ρ 0, ρ 15 + 1], γ 6) := by
    unfold en75
    refine (if_pos (show (0 : Nat) = 0 by decide)).trans ?_
    refine (zLet_eq (show _ = γ 1 from rfl)).trans ?_
    refine (zLet_eq (show _ = ρ 0 from rfl)).trans ?_
    refine (zLet_eq (show _ = ρ 15 from rfl)).trans ?_
    refine (zLet_eq m2).trans ?_
    refine (zLet_eq m6).trans ?_
    refine (zLet_eq m15).trans ?_
    refine (zLet_eq m16).trans ?_
    refine (if_neg (show ¬ (ρ 15 ≥ ρ 18) by omega)).trans ?_
    refine (if_neg (show ¬ (ρ 17 ≠ 0) by omega)).trans ?_
    refine (if_pos (show ρ 3 ≤ 2 by omega)).trans ?_
    refine (if_pos (show ρ 3 ≠ 1 by omega)).trans ?_
    refine (zLet_eq m19).trans ?_
    refine (zLet_eq m20).trans ?_
    refine (if_pos (show 0 ≥ ρ 21 by omega)).trans ?_
    refine (zLet_eq m21).trans ?_
    refine (zLet_eq c2.symm).trans ?_
    refine (zLet_eq m22).trans ?_
    refine (zLet_eq c3.symm).trans ?_
    refine (zLet_eq m23).trans ?_
    refine (zLet_eq c4.symm).trans ?_
    refine (zLet_eq m24).trans ?_
    refine (zLet_eq c5.symm).trans ?_
    refine (zLet_eq (show fn57 [ρ 7, ρ 0] (γ 5) = (0, 0, γ 6) from l0.symm)).trans ?_
    refine (zLet_eq (show _ = γ 6 from rfl)).trans ?_
    rfl
  exact zGoo_ato hJ hD
theorem vn75a0_3 {S : Nat → zSpc} (hS57 : ∀ x g o v gz, S 57 x g o v gz → sn57 x g o v gz) (hS73 : ∀ x g o v gz, S 73 x g o v gz → sn73 x g o v gz) {a : List Int} {g : rHp} : ∀ (ρ : Nat → Int) (γ : Nat → rHp), jn75 a g 0 (zAg (zNA a75_ 0) ρ) (γ 1) → zO 15 S a g q75a0_3 ρ γ → zGl (fun i vs g1 => jn75 a g i vs g1) (sn75 a g) q75a0_3 ρ γ := by
  intro ρ γ hJ h
  obtain ⟨ha, hg, hr, hf, hm, hc, hl⟩ := h
  have ha : a = [ρ 0, ρ 1, ρ 2, ρ 3, ρ 4, ρ 5, ρ 6, ρ 7, ρ 8, ρ 9, ρ 10, ρ 11, ρ 12, ρ 13, ρ 14] := ha
  subst ha
  subst hg
  have hJ : jn75 [ρ 0, ρ 1, ρ 2, ρ 3, ρ 4, ρ 5, ρ 6, ρ 7, ρ 8, ρ 9, ρ 10, ρ 11, ρ 12, ρ 13, ρ 14] (γ 0) 0 [ρ 0, ρ 1, ρ 2, ρ 3, ρ 4, ρ 5, ρ 6, ρ 7, ρ 8, ρ 9, ρ 10, ρ 11, ρ 12, ρ 13, ρ 14, ρ 15, ρ 16, ρ 17, ρ 18, ρ 19] (γ 1) := hJ
  obtain ⟨r0, r1, r2, r3, r4, r5, r6, r7, r8, r9, r10, r11, r12, r13, r14, r15, r16, r17, r18, r19, r20, r21, r22, r23, r24, r25, r26, r27, r28, r29, r30, r31, r32, r33, r34, -⟩ := hr
  have r0 : (0 : Int) ≤ ρ 0 ∧ ρ 0 ≤ 59 := r0
  have r1 : (0 : Int) ≤ ρ 1 ∧ ρ 1 ≤ 60 := r1
  have r2 : (0 : Int) ≤ ρ 2 ∧ ρ 2 ≤ 20 := r2
  have r3 : (2 : Int) ≤ ρ 3 ∧ ρ 3 ≤ 2 := r3
  have r4 : (0 : Int) ≤ ρ 4 ∧ ρ 4 ≤ 50001 := r4
  have r5 : (0 : Int) ≤ ρ 5 ∧ ρ 5 ≤ 3 := r5
  have r6 : (0 : Int) ≤ ρ 6 ∧ ρ 6 ≤ 2000 := r6
  have r7 : (0 : Int) ≤ ρ 7 ∧ ρ 7 ≤ 19 := r7
  have r8 : (0 : Int) ≤ ρ 8 ∧ ρ 8 ≤ 61 := r8
  have r9 : (0 : Int) ≤ ρ 9 ∧ ρ 9 ≤ 2000 := r9
  have r10 : ((-2147483648) : Int) ≤ ρ 10 ∧ ρ 10 ≤ 2147483647 := r10
  have r11 : (0 : Int) ≤ ρ 11 ∧ ρ 11 ≤ 2000 := r11
  have r12 : (0 : Int) ≤ ρ 12 ∧ ρ 12 ≤ 2000 := r12
  have r13 : (0 : Int) ≤ ρ 13 ∧ ρ 13 ≤ 2000 := r13
  have r14 : (0 : Int) ≤ ρ 14 ∧ ρ 14 ≤ 50001 := r14
  have r15 : (0 : Int) ≤ ρ 15 ∧ ρ 15 ≤ 2000 := r15
  have r16 : (0 : Int) ≤ ρ 16 ∧ ρ 16 ≤ 50001 := r16
  have r17 : (0 : Int) ≤ ρ 17 ∧ ρ 17 ≤ 0 := r17
  have r18 : (0 : Int) ≤ ρ 18 ∧ ρ 18 ≤ 2000 := r18
  have r19 : (0 : Int) ≤ ρ 19 ∧ ρ 19 ≤ 2000 := r19
  have r20 : ((-2147483648) : Int) ≤ ρ 20 ∧ ρ 20 ≤ 2147483647 := r20
  have r21 : (1 : Int) ≤ ρ 21 ∧ ρ 21 ≤ 1 := r21
  have r22 : (0 : Int) ≤ ρ 22 ∧ ρ 22 ≤ 2 := r22
  have r23 : ((-2147483648) : Int) ≤ ρ 23 ∧ ρ 23 ≤ 1099511640064 := r23
  have r24 : ((-2147483648) : Int) ≤ ρ 24 ∧ ρ 24 ≤ 1099511640064 := r24
  have r25 : ((-2147483648) : Int) ≤ ρ 25 ∧ ρ 25 ≤ 1099511640064 := r25
  have r26 : ((-2147483648) : Int) ≤ ρ 26 ∧ ρ 26 ≤ 1099511640064 := r26
  have r27 : (0 : Int) ≤ ρ 27 ∧ ρ 27 ≤ 8 := r27
  have r28 : ((-1) : Int) ≤ ρ 28 ∧ ρ 28 ≤ 1999 := r28
  have r29 : (0 : Int) ≤ ρ 29 ∧ ρ 29 ≤ 1999 := r29
  have r30 : (1 : Int) ≤ ρ 30 ∧ ρ 30 ≤ 2000 := r30
  have r31 : (0 : Int) ≤ ρ 31 ∧ ρ 31 ≤ 8 := r31
  have r32 : ((-1) : Int) ≤ ρ 32 ∧ ρ 32 ≤ 1999 := r32
  have r33 : (0 : Int) ≤ ρ 33 ∧ ρ 33 ≤ 1999 := r33
  have r34 : (0 : Int) ≤ ρ 34 ∧ ρ 34 ≤ 3 := r34
  obtain ⟨f0, f1, f2, f3, f4, f5, f6, f7, f8, f9, -⟩ := hf
  have f0 : (0 : Int) ≤ -ρ 7 + ρ 2 + (-1) := f0
  have f1 : (0 : Int) ≤ ρ 30 + -ρ 19 := f1
  have f2 : (0 : Int) ≤ ρ 32 + -ρ 28 := f2
  have f3 : (0 : Int) ≤ ρ 18 + -ρ 15 + (-1) := f3
  have f4 : (0 : Int) ≤ ρ 17 + -ρ 16 + 50000 := f4
  have f5 : (0 : Int) ≤ ρ 1 + -ρ 0 + (-1) := f5
  have f6 : (0 : Int) ≤ ρ 19 + -ρ 9 := f6
  have f7 : (0 : Int) ≤ ρ 18 + -ρ 15 := f7
  have f8 : (0 : Int) ≤ ρ 17 + -ρ 5 := f8
  have f9 : (0 : Int) ≤ ρ 16 + -ρ 4 := f9
  obtain ⟨m0, m1, m2, m3, m4, m5, m6, m7, m8, m9, m10, m11, m12, m13, m14, m15, m16, m17, m18, m19, m20, m21, m22, m23, m24, m25, m26, m27, m28, m29, m30, m31, m32, m33, -⟩ := hm
  have m0 : γ 0 15 0 32 = ρ 1 := m0
  have m1 : γ 0 15 0 13 = ρ 2 := m1
  have m2 : γ 0 71 0 (ρ 0) = ρ 3 := m2
  have m3 : γ 0 15 0 72 = ρ 4 := m3
  have m4 : γ 0 15 0 77 = ρ 5 := m4
  have m5 : γ 0 15 0 90 = ρ 6 := m5
  have m6 : γ 0 69 0 (ρ 0) = ρ 7 := m6
  have m7 : γ 0 15 0 44 = ρ 8 := m7
  have m8 : γ 0 15 0 71 = ρ 9 := m8
  have m9 : γ 0 15 0 76 = ρ 10 := m9
  have m10 : γ 0 15 0 81 = ρ 11 := m10
  have m11 : γ 0 15 0 82 = ρ 12 := m11
  have m12 : γ 0 15 0 83 = ρ 13 := m12
  have m13 : γ 0 15 0 94 = ρ 14 := m13
  have m14 : γ 1 15 0 72 = ρ 16 := m14
  have m15 : γ 1 15 0 77 = ρ 17 := m15
  have m16 : γ 1 15 0 90 = ρ 18 := m16
  have m17 : γ 1 15 0 71 = ρ 19 := m17
  have m18 : γ 1 15 0 81 = ρ 9 := m18
  have m19 : γ 1 107 0 (ρ 15) = ρ 20 := m19
  have m20 : γ 0 66 0 (ρ 7) = ρ 21 := m20
  have m21 : γ 0 70 0 (4 * ρ 0) = ρ 22 := m21
  have m22 : γ 1 105 0 (4 * ρ 15) = ρ 23 := m22
  have m23 : γ 1 105 0 (4 * ρ 15 + 1) = ρ 24 := m23
  have m24 : γ 1 105 0 (4 * ρ 15 + 2) = ρ 25 := m24
  have m25 : γ 1 105 0 (4 * ρ 15 + 3) = ρ 26 := m25
  have m26 : γ 1 97 0 (ρ 19) = ρ 27 := m26
  have m27 : γ 1 100 0 (ρ 7) = ρ 28 := m27
  have m28 : γ 1 101 0 (ρ 7) = ρ 29 := m28
  have m29 : γ 6 15 0 71 = ρ 30 := m29
  have m30 : γ 6 97 0 (ρ 19) = ρ 31 := m30
  have m31 : γ 6 100 0 (ρ 7) = ρ 32 := m31
  have m32 : γ 6 101 0 (ρ 7) = ρ 33 := m32
  have m33 : γ 6 15 0 77 = ρ 34 := m33
  obtain ⟨⟨⟨⟨⟨⟨-, c1⟩, c2⟩, c3⟩, c4⟩, c5⟩, c6⟩ := hc
  have c1 : ∀ (G : Nat) (k j : Int), ¬ rMdP m51_ G j → γ 1 G k j = γ 0 G k j := c1
  have c2 : γ 2 = rUp (γ 1) 102 0 0 (ρ 23) := c2
  have c3 : γ 3 = rUp (γ 2) 102 0 1 (ρ 24) := c3
  have c4 : γ 4 = rUp (γ 3) 102 0 2 (ρ 25) := c4
  have c5 : γ 5 = rUp (γ 4) 102 0 3 (ρ 26) := c5
  have c6 : ∀ (G : Nat) (k j : Int), ¬ rMdP m40_ G j → γ 6 G k j = γ 5 G k j := c6
  obtain ⟨l0, -⟩ := hl
  have l0 : sn57 [ρ 7, ρ 0, ρ 2, ρ 19, ρ 27, ρ 28, ρ 29, ρ 10, ρ 17] (γ 5) 0 0 (γ 6) := hS57 _ _ _ _ _ l0
  show jn75 [ρ 0, ρ 1, ρ 2, ρ 3, ρ 4, ρ 5, ρ 6, ρ 7, ρ 8, ρ 9, ρ 10, ρ 11, ρ 12, ρ 13, ρ 14] (γ 0) 0 [ρ 0, ρ 1, ρ 2, ρ 3, ρ 4, ρ 5, ρ 6, ρ 7, ρ 8, ρ 9, ρ 10, ρ 11, ρ 12, ρ 13, ρ 14, ρ 15 + 1, ρ 16, ρ 34, ρ 18, ρ 30] (γ 6)
  have hD : en75 (γ 0) (0, [ρ 0, ρ 15], γ 1) = .inl (0, [ρ 0, ρ 15 + 1], γ 6) := by
    unfold en75
    refine (if_pos (show (0 : Nat) = 0 by decide)).trans ?_
    refine (zLet_eq (show _ = γ 1 from rfl)).trans ?_
    refine (zLet_eq (show _ = ρ 0 from rfl)).trans ?_
    refine (zLet_eq (show _ = ρ 15 from rfl)).trans ?_
    refine (zLet_eq m2).trans ?_
    refine (zLet_eq m6).trans ?_
    refine (zLet_eq m15).trans ?_
    refine (zLet_eq m16).trans ?_
    refine (if_neg (show ¬ (ρ 15 ≥ ρ 18) by omega)).trans ?_
    refine (if_neg (show ¬ (ρ 17 ≠ 0) by omega)).trans ?_
    refine (if_pos (show ρ 3 ≤ 2 by omega)).trans ?_
    refine (if_pos (show ρ 3 ≠ 1 by omega)).trans ?_
    refine (zLet_eq m19).trans ?_
    refine (zLet_eq m20).trans ?_
    refine (if_neg (show ¬ (0 ≥ ρ 21) by omega)).trans ?_
    refine (zLet_eq m21).trans ?_
    refine (if_pos (show ρ 22 ≠ 3 by omega)).trans ?_
    refine (zLet_eq m22).trans ?_
    refine (zLet_eq c2.symm).trans ?_
    refine (if_pos (show 1 ≥ ρ 21 by omega)).trans ?_
    refine (zLet_eq m23).trans ?_
    refine (zLet_eq c3.symm).trans ?_
    refine (zLet_eq m24).trans ?_
    refine (zLet_eq c4.symm).trans ?_
    refine (zLet_eq m25).trans ?_
    refine (zLet_eq c5.symm).trans ?_
    refine (zLet_eq (show fn57 [ρ 7, ρ 0] (γ 5) = (0, 0, γ 6) from l0.symm)).trans ?_
    refine (zLet_eq (show _ = γ 6 from rfl)).trans ?_
    rfl
  exact zGoo_ato hJ hD
theorem vn75a0_4 {S : Nat → zSpc} (hS57 : ∀ x g o v gz, S 57 x g o v gz → sn57 x g o v gz) (hS73 : ∀ x g o v gz, S 73 x g o v gz → sn73 x g o v gz) {a : List Int} {g : rHp} : ∀ (ρ : Nat → Int) (γ : Nat → rHp), jn75 a g 0 (zAg (zNA a75_ 0) ρ) (γ 1) → zO 15 S a g q75a0_4 ρ γ → zGl (fun i vs g1 => jn75 a g i vs g1) (sn75 a g) q75a0_4 ρ γ := by
  intro ρ γ hJ h
  obtain ⟨ha, hg, hr, hf, hm, hc, hl⟩ := h
  have ha : a = [ρ 0, ρ 1, ρ 2, ρ 3, ρ 4, ρ 5, ρ 6, ρ 7, ρ 8, ρ 9, ρ 10, ρ 11, ρ 12, ρ 13, ρ 14] := ha
  subst ha
  subst hg
  have hJ : jn75 [ρ 0, ρ 1, ρ 2, ρ 3, ρ 4, ρ 5, ρ 6, ρ 7, ρ 8, ρ 9, ρ 10, ρ 11, ρ 12, ρ 13, ρ 14] (γ 0) 0 [ρ 0, ρ 1, ρ 2, ρ 3, ρ 4, ρ 5, ρ 6, ρ 7, ρ 8, ρ 9, ρ 10, ρ 11, ρ 12, ρ 13, ρ 14, ρ 15, ρ 16, ρ 17, ρ 18, ρ 19] (γ 1) := hJ
  obtain ⟨r0, r1, r2, r3, r4, r5, r6, r7, r8, r9, r10, r11, r12, r13, r14, r15, r16, r17, r18, r19, r20, r21, r22, r23, r24, r25, r26, r27, r28, r29, r30, r31, r32, r33, r34, r35, -⟩ := hr
  have r0 : (0 : Int) ≤ ρ 0 ∧ ρ 0 ≤ 59 := r0
  have r1 : (0 : Int) ≤ ρ 1 ∧ ρ 1 ≤ 60 := r1
  have r2 : (0 : Int) ≤ ρ 2 ∧ ρ 2 ≤ 20 := r2
  have r3 : (2 : Int) ≤ ρ 3 ∧ ρ 3 ≤ 2 := r3
  have r4 : (0 : Int) ≤ ρ 4 ∧ ρ 4 ≤ 50001 := r4
  have r5 : (0 : Int) ≤ ρ 5 ∧ ρ 5 ≤ 3 := r5
  have r6 : (0 : Int) ≤ ρ 6 ∧ ρ 6 ≤ 2000 := r6
  have r7 : (0 : Int) ≤ ρ 7 ∧ ρ 7 ≤ 19 := r7
  have r8 : (0 : Int) ≤ ρ 8 ∧ ρ 8 ≤ 61 := r8
  have r9 : (0 : Int) ≤ ρ 9 ∧ ρ 9 ≤ 2000 := r9
  have r10 : ((-2147483648) : Int) ≤ ρ 10 ∧ ρ 10 ≤ 2147483647 := r10
  have r11 : (0 : Int) ≤ ρ 11 ∧ ρ 11 ≤ 2000 := r11
  have r12 : (0 : Int) ≤ ρ 12 ∧ ρ 12 ≤ 2000 := r12
  have r13 : (0 : Int) ≤ ρ 13 ∧ ρ 13 ≤ 2000 := r13
  have r14 : (0 : Int) ≤ ρ 14 ∧ ρ 14 ≤ 50001 := r14
  have r15 : (0 : Int) ≤ ρ 15 ∧ ρ 15 ≤ 2000 := r15
  have r16 : (0 : Int) ≤ ρ 16 ∧ ρ 16 ≤ 50001 := r16
  have r17 : (0 : Int) ≤ ρ 17 ∧ ρ 17 ≤ 0 := r17
  have r18 : (0 : Int) ≤ ρ 18 ∧ ρ 18 ≤ 2000 := r18
  have r19 : (0 : Int) ≤ ρ 19 ∧ ρ 19 ≤ 2000 := r19
  have r20 : ((-2147483648) : Int) ≤ ρ 20 ∧ ρ 20 ≤ 2147483647 := r20
  have r21 : (2 : Int) ≤ ρ 21 ∧ ρ 21 ≤ 2 := r21
  have r22 : (0 : Int) ≤ ρ 22 ∧ ρ 22 ≤ 2 := r22
  have r23 : ((-2147483648) : Int) ≤ ρ 23 ∧ ρ 23 ≤ 1099511640064 := r23
  have r24 : (0 : Int) ≤ ρ 24 ∧ ρ 24 ≤ 2 := r24
  have r25 : ((-2147483648) : Int) ≤ ρ 25 ∧ ρ 25 ≤ 1099511640064 := r25
  have r26 : ((-2147483648) : Int) ≤ ρ 26 ∧ ρ 26 ≤ 1099511640064 := r26
  have r27 : ((-2147483648) : Int) ≤ ρ 27 ∧ ρ 27 ≤ 1099511640064 := r27
  have r28 : (0 : Int) ≤ ρ 28 ∧ ρ 28 ≤ 8 := r28
  have r29 : ((-1) : Int) ≤ ρ 29 ∧ ρ 29 ≤ 1999 := r29
  have r30 : (0 : Int) ≤ ρ 30 ∧ ρ 30 ≤ 1999 := r30
  have r31 : (1 : Int) ≤ ρ 31 ∧ ρ 31 ≤ 2000 := r31
  have r32 : (0 : Int) ≤ ρ 32 ∧ ρ 32 ≤ 8 := r32
  have r33 : ((-1) : Int) ≤ ρ 33 ∧ ρ 33 ≤ 1999 := r33
  have r34 : (0 : Int) ≤ ρ 34 ∧ ρ 34 ≤ 1999 := r34
  have r35 : (0 : Int) ≤ ρ 35 ∧ ρ 35 ≤ 3 := r35
  obtain ⟨f0, f1, f2, f3, f4, f5, f6, f7, f8, f9, -⟩ := hf
  have f0 : (0 : Int) ≤ -ρ 7 + ρ 2 + (-1) := f0
  have f1 : (0 : Int) ≤ ρ 31 + -ρ 19 := f1
  have f2 : (0 : Int) ≤ ρ 33 + -ρ 29 := f2
  have f3 : (0 : Int) ≤ ρ 18 + -ρ 15 + (-1) := f3
  have f4 : (0 : Int) ≤ ρ 17 + -ρ 16 + 50000 := f4
  have f5 : (0 : Int) ≤ ρ 1 + -ρ 0 + (-1) := f5
  have f6 : (0 : Int) ≤ ρ 19 + -ρ 9 := f6
  have f7 : (0 : Int) ≤ ρ 18 + -ρ 15 := f7
  have f8 : (0 : Int) ≤ ρ 17 + -ρ 5 := f8
  have f9 : (0 : Int) ≤ ρ 16 + -ρ 4 := f9
  obtain ⟨m0, m1, m2, m3, m4, m5, m6, m7, m8, m9, m10, m11, m12, m13, m14, m15, m16, m17, m18, m19, m20, m21, m22, m23, m24, m25, m26, m27, m28, m29, m30, m31, m32, m33, m34, -⟩ := hm
  have m0 : γ 0 15 0 32 = ρ 1 := m0
  have m1 : γ 0 15 0 13 = ρ 2 := m1
  have m2 : γ 0 71 0 (ρ 0) = ρ 3 := m2
  have m3 : γ 0 15 0 72 = ρ 4 := m3
  have m4 : γ 0 15 0 77 = ρ 5 := m4
  have m5 : γ 0 15 0 90 = ρ 6 := m5
  have m6 : γ 0 69 0 (ρ 0) = ρ 7 := m6
  have m7 : γ 0 15 0 44 = ρ 8 := m7
  have m8 : γ 0 15 0 71 = ρ 9 := m8
  have m9 : γ 0 15 0 76 = ρ 10 := m9
  have m10 : γ 0 15 0 81 = ρ 11 := m10
  have m11 : γ 0 15 0 82 = ρ 12 := m11
  have m12 : γ 0 15 0 83 = ρ 13 := m12
  have m13 : γ 0 15 0 94 = ρ 14 := m13
  have m14 : γ 1 15 0 72 = ρ 16 := m14
  have m15 : γ 1 15 0 77 = ρ 17 := m15
  have m16 : γ 1 15 0 90 = ρ 18 := m16
  have m17 : γ 1 15 0 71 = ρ 19 := m17
  have m18 : γ 1 15 0 81 = ρ 9 := m18
  have m19 : γ 1 107 0 (ρ 15) = ρ 20 := m19
  have m20 : γ 0 66 0 (ρ 7) = ρ 21 := m20
  have m21 : γ 0 70 0 (4 * ρ 0) = ρ 22 := m21
  have m22 : γ 1 105 0 (4 * ρ 15) = ρ 23 := m22
  have m23 : γ 0 70 0 (4 * ρ 0 + 1) = ρ 24 := m23
  have m24 : γ 1 105 0 (4 * ρ 15 + 1) = ρ 25 := m24
  have m25 : γ 1 105 0 (4 * ρ 15 + 2) = ρ 26 := m25
  have m26 : γ 1 105 0 (4 * ρ 15 + 3) = ρ 27 := m26
  have m27 : γ 1 97 0 (ρ 19) = ρ 28 := m27
  have m28 : γ 1 100 0 (ρ 7) = ρ 29 := m28
  have m29 : γ 1 101 0 (ρ 7) = ρ 30 := m29
  have m30 : γ 6 15 0 71 = ρ 31 := m30
  have m31 : γ 6 97 0 (ρ 19) = ρ 32 := m31
  have m32 : γ 6 100 0 (ρ 7) = ρ 33 := m32
  have m33 : γ 6 101 0 (ρ 7) = ρ 34 := m33
  have m34 : γ 6 15 0 77 = ρ 35 := m34
  obtain ⟨⟨⟨⟨⟨⟨-, c1⟩, c2⟩, c3⟩, c4⟩, c5⟩, c6⟩ := hc
  have c1 : ∀ (G : Nat) (k j : Int), ¬ rMdP m51_ G j → γ 1 G k j = γ 0 G k j := c1
  have c2 : γ 2 = rUp (γ 1) 102 0 0 (ρ 23) := c2
  have c3 : γ 3 = rUp (γ 2) 102 0 1 (ρ 25) := c3
  have c4 : γ 4 = rUp (γ 3) 102 0 2 (ρ 26) := c4
  have c5 : γ 5 = rUp (γ 4) 102 0 3 (ρ 27) := c5
  have c6 : ∀ (G : Nat) (k j : Int), ¬ rMdP m40_ G j → γ 6 G k j = γ 5 G k j := c6
  obtain ⟨l0, -⟩ := hl
  have l0 : sn57 [ρ 7, ρ 0, ρ 2, ρ 19, ρ 28, ρ 29, ρ 30, ρ 10, ρ 17] (γ 5) 0 0 (γ 6) := hS57 _ _ _ _ _ l0
  show jn75 [ρ 0, ρ 1, ρ 2, ρ 3, ρ 4, ρ 5, ρ 6, ρ 7, ρ 8, ρ 9, ρ 10, ρ 11, ρ 12, ρ 13, ρ 14] (γ 0) 0 [ρ 0, ρ 1, ρ 2, ρ 3, ρ 4, ρ 5, ρ 6, ρ 7, ρ 8, ρ 9, ρ 10, ρ 11, ρ 12, ρ 13, ρ 14, ρ 15 + 1, ρ 16, ρ 35, ρ 18, ρ 31] (γ 6)
  have hD : en75 (γ 0) (0, [ρ 0, ρ 15], γ 1) = .inl (0, [ρ 0, ρ 15 + 1], γ 6) := by
    unfold en75
    refine (if_pos (show (0 : Nat) = 0 by decide)).trans ?_
    refine (zLet_eq (show _ = γ 1 from rfl)).trans ?_
    refine (zLet_eq (show _ = ρ 0 from rfl)).trans ?_
    refine (zLet_eq (show _ = ρ 15 from rfl)).trans ?_
    refine (zLet_eq m2).trans ?_
    refine (zLet_eq m6).trans ?_
    refine (zLet_eq m15).trans ?_
    refine (zLet_eq m16).trans ?_
    refine (if_neg (show ¬ (ρ 15 ≥ ρ 18) by omega)).trans ?_
    refine (if_neg (show ¬ (ρ 17 ≠ 0) by omega)).trans ?_
    refine (if_pos (show ρ 3 ≤ 2 by omega)).trans ?_
    refine (if_pos (show ρ 3 ≠ 1 by omega)).trans ?_
    refine (zLet_eq m19).trans ?_
    refine (zLet_eq m20).trans ?_
    refine (if_neg (show ¬ (0 ≥ ρ 21) by omega)).trans ?_
    refine (zLet_eq m21).trans ?_
    refine (if_pos (show ρ 22 ≠ 3 by omega)).trans ?_
    refine (zLet_eq m22).trans ?_
    refine (zLet_eq c2.symm).trans ?_
    refine (if_neg (show ¬ (1 ≥ ρ 21) by omega)).trans ?_
    refine (zLet_eq m23).trans ?_
    refine (if_pos (show ρ 24 ≠ 3 by omega)).trans ?_
    refine (zLet_eq m24).trans ?_
    refine (zLet_eq c3.symm).trans ?_
    refine (if_pos (show 2 ≥ ρ 21 by omega)).trans ?_
    refine (zLet_eq m25).trans ?_
    refine (zLet_eq c4.symm).trans ?_
    refine (zLet_eq m26).trans ?_
    refine (zLet_eq c5.symm).trans ?_
    refine (zLet_eq (show fn57 [ρ 7, ρ 0] (γ 5) = (0, 0, γ 6) from l0.symm)).trans ?_
    refine (zLet_eq (show _ = γ 6 from rfl)).trans ?_
    rfl
  exact zGoo_ato hJ hD
theorem vn75a0_5 {S : Nat → zSpc} (hS57 : ∀ x g o v gz, S 57 x g o v gz → sn57 x g o v gz) (hS73 : ∀ x g o v gz, S 73 x g o v gz → sn73 x g o v gz) {a : List Int} {g : rHp} : ∀ (ρ : Nat → Int) (γ : Nat → rHp), jn75 a g 0 (zAg (zNA a75_ 0) ρ) (γ 1) → zO 15 S a g q75a0_5 ρ γ → zGl (fun i vs g1 => jn75 a g i vs g1) (sn75 a g) q75a0_5 ρ γ := by
  intro ρ γ hJ h
  obtain ⟨ha, hg, hr, hf, hm, hc, hl⟩ := h
  have ha : a = [ρ 0, ρ 1, ρ 2, ρ 3, ρ 4, ρ 5, ρ 6, ρ 7, ρ 8, ρ 9, ρ 10, ρ 11, ρ 12, ρ 13, ρ 14] := ha
  subst ha
  subst hg
  have hJ : jn75 [ρ 0, ρ 1, ρ 2, ρ 3, ρ 4, ρ 5, ρ 6, ρ 7, ρ 8, ρ 9, ρ 10, ρ 11, ρ 12, ρ 13, ρ 14] (γ 0) 0 [ρ 0, ρ 1, ρ 2, ρ 3, ρ 4, ρ 5, ρ 6, ρ 7, ρ 8, ρ 9, ρ 10, ρ 11, ρ 12, ρ 13, ρ 14, ρ 15, ρ 16, ρ 17, ρ 18, ρ 19] (γ 1) := hJ
  obtain ⟨r0, r1, r2, r3, r4, r5, r6, r7, r8, r9, r10, r11, r12, r13, r14, r15, r16, r17, r18, r19, r20, r21, r22, r23, r24, r25, r26, r27, r28, r29, r30, r31, r32, r33, r34, r35, r36, -⟩ := hr
  have r0 : (0 : Int) ≤ ρ 0 ∧ ρ 0 ≤ 59 := r0
  have r1 : (0 : Int) ≤ ρ 1 ∧ ρ 1 ≤ 60 := r1
  have r2 : (0 : Int) ≤ ρ 2 ∧ ρ 2 ≤ 20 := r2
  have r3 : (2 : Int) ≤ ρ 3 ∧ ρ 3 ≤ 2 := r3
  have r4 : (0 : Int) ≤ ρ 4 ∧ ρ 4 ≤ 50001 := r4
  have r5 : (0 : Int) ≤ ρ 5 ∧ ρ 5 ≤ 3 := r5
  have r6 : (0 : Int) ≤ ρ 6 ∧ ρ 6 ≤ 2000 := r6
  have r7 : (0 : Int) ≤ ρ 7 ∧ ρ 7 ≤ 19 := r7
  have r8 : (0 : Int) ≤ ρ 8 ∧ ρ 8 ≤ 61 := r8
  have r9 : (0 : Int) ≤ ρ 9 ∧ ρ 9 ≤ 2000 := r9
  have r10 : ((-2147483648) : Int) ≤ ρ 10 ∧ ρ 10 ≤ 2147483647 := r10
  have r11 : (0 : Int) ≤ ρ 11 ∧ ρ 11 ≤ 2000 := r11
  have r12 : (0 : Int) ≤ ρ 12 ∧ ρ 12 ≤ 2000 := r12
  have r13 : (0 : Int) ≤ ρ 13 ∧ ρ 13 ≤ 2000 := r13
  have r14 : (0 : Int) ≤ ρ 14 ∧ ρ 14 ≤ 50001 := r14
  have r15 : (0 : Int) ≤ ρ 15 ∧ ρ 15 ≤ 2000 := r15
  have r16 : (0 : Int) ≤ ρ 16 ∧ ρ 16 ≤ 50001 := r16
  have r17 : (0 : Int) ≤ ρ 17 ∧ ρ 17 ≤ 0 := r17
  have r18 : (0 : Int) ≤ ρ 18 ∧ ρ 18 ≤ 2000 := r18
  have r19 : (0 : Int) ≤ ρ 19 ∧ ρ 19 ≤ 2000 := r19
  have r20 : ((-2147483648) : Int) ≤ ρ 20 ∧ ρ 20 ≤ 2147483647 := r20
  have r21 : (3 : Int) ≤ ρ 21 ∧ ρ 21 ≤ 3 := r21
  have r22 : (0 : Int) ≤ ρ 22 ∧ ρ 22 ≤ 2 := r22
  have r23 : ((-2147483648) : Int) ≤ ρ 23 ∧ ρ 23 ≤ 1099511640064 := r23
  have r24 : (0 : Int) ≤ ρ 24 ∧ ρ 24 ≤ 2 := r24
  have r25 : ((-2147483648) : Int) ≤ ρ 25 ∧ ρ 25 ≤ 1099511640064 := r25
  have r26 : (0 : Int) ≤ ρ 26 ∧ ρ 26 ≤ 2 := r26
  have r27 : ((-2147483648) : Int) ≤ ρ 27 ∧ ρ 27 ≤ 1099511640064 := r27
  have r28 : ((-2147483648) : Int) ≤ ρ 28 ∧ ρ 28 ≤ 1099511640064 := r28
  have r29 : (0 : Int) ≤ ρ 29 ∧ ρ 29 ≤ 8 := r29
  have r30 : ((-1) : Int) ≤ ρ 30 ∧ ρ 30 ≤ 1999 := r30
  have r31 : (0 : Int) ≤ ρ 31 ∧ ρ 31 ≤ 1999 := r31
  have r32 : (1 : Int) ≤ ρ 32 ∧ ρ 32 ≤ 2000 := r32
  have r33 : (0 : Int) ≤ ρ 33 ∧ ρ 33 ≤ 8 := r33
  have r34 : ((-1) : Int) ≤ ρ 34 ∧ ρ 34 ≤ 1999 := r34
  have r35 : (0 : Int) ≤ ρ 35 ∧ ρ 35 ≤ 1999 := r35
  have r36 : (0 : Int) ≤ ρ 36 ∧ ρ 36 ≤ 3 := r36
  obtain ⟨f0, f1, f2, f3, f4, f5, f6, f7, f8, f9, -⟩ := hf
  have f0 : (0 : Int) ≤ -ρ 7 + ρ 2 + (-1) := f0
  have f1 : (0 : Int) ≤ ρ 32 + -ρ 19 := f1
  have f2 : (0 : Int) ≤ ρ 34 + -ρ 30 := f2
  have f3 : (0 : Int) ≤ ρ 18 + -ρ 15 + (-1) := f3
  have f4 : (0 : Int) ≤ ρ 17 + -ρ 16 + 50000 := f4
  have f5 : (0 : Int) ≤ ρ 1 + -ρ 0 + (-1) := f5
  have f6 : (0 : Int) ≤ ρ 19 + -ρ 9 := f6
  have f7 : (0 : Int) ≤ ρ 18 + -ρ 15 := f7
  have f8 : (0 : Int) ≤ ρ 17 + -ρ 5 := f8
  have f9 : (0 : Int) ≤ ρ 16 + -ρ 4 := f9
  obtain ⟨m0, m1, m2, m3, m4, m5, m6, m7, m8, m9, m10, m11, m12, m13, m14, m15, m16, m17, m18, m19, m20, m21, m22, m23, m24, m25, m26, m27, m28, m29, m30, m31, m32, m33, m34, m35, -⟩ := hm
  have m0 : γ 0 15 0 32 = ρ 1 := m0
  have m1 : γ 0 15 0 13 = ρ 2 := m1
  have m2 : γ 0 71 0 (ρ 0) = ρ 3 := m2
  have m3 : γ 0 15 0 72 = ρ 4 := m3
  have m4 : γ 0 15 0 77 = ρ 5 := m4
  have m5 : γ 0 15 0 90 = ρ 6 := m5
  have m6 : γ 0 69 0 (ρ 0) = ρ 7 := m6
  have m7 : γ 0 15 0 44 = ρ 8 := m7
  have m8 : γ 0 15 0 71 = ρ 9 := m8
  have m9 : γ 0 15 0 76 = ρ 10 := m9
  have m10 : γ 0 15 0 81 = ρ 11 := m10
  have m11 : γ 0 15 0 82 = ρ 12 := m11
  have m12 : γ 0 15 0 83 = ρ 13 := m12
  have m13 : γ 0 15 0 94 = ρ 14 := m13
  have m14 : γ 1 15 0 72 = ρ 16 := m14
  have m15 : γ 1 15 0 77 = ρ 17 := m15
  have m16 : γ 1 15 0 90 = ρ 18 := m16
  have m17 : γ 1 15 0 71 = ρ 19 := m17
  have m18 : γ 1 15 0 81 = ρ 9 := m18
  have m19 : γ 1 107 0 (ρ 15) = ρ 20 := m19
  have m20 : γ 0 66 0 (ρ 7) = ρ 21 := m20
  have m21 : γ 0 70 0 (4 * ρ 0) = ρ 22 := m21
  have m22 : γ 1 105 0 (4 * ρ 15) = ρ 23 := m22
  have m23 : γ 0 70 0 (4 * ρ 0 + 1) = ρ 24 := m23
  have m24 : γ 1 105 0 (4 * ρ 15 + 1) = ρ 25 := m24
  have m25 : γ 0 70 0 (4 * ρ 0 + 2) = ρ 26 := m25
  have m26 : γ 1 105 0 (4 * ρ 15 + 2) = ρ 27 := m26
  have m27 : γ 1 105 0 (4 * ρ 15 + 3) = ρ 28 := m27
  have m28 : γ 1 97 0 (ρ 19) = ρ 29 := m28
  have m29 : γ 1 100 0 (ρ 7) = ρ 30 := m29
  have m30 : γ 1 101 0 (ρ 7) = ρ 31 := m30
  have m31 : γ 6 15 0 71 = ρ 32 := m31
  have m32 : γ 6 97 0 (ρ 19) = ρ 33 := m32
  have m33 : γ 6 100 0 (ρ 7) = ρ 34 := m33
  have m34 : γ 6 101 0 (ρ 7) = ρ 35 := m34
  have m35 : γ 6 15 0 77 = ρ 36 := m35
  obtain ⟨⟨⟨⟨⟨⟨-, c1⟩, c2⟩, c3⟩, c4⟩, c5⟩, c6⟩ := hc
  have c1 : ∀ (G : Nat) (k j : Int), ¬ rMdP m51_ G j → γ 1 G k j = γ 0 G k j := c1
  have c2 : γ 2 = rUp (γ 1) 102 0 0 (ρ 23) := c2
  have c3 : γ 3 = rUp (γ 2) 102 0 1 (ρ 25) := c3
  have c4 : γ 4 = rUp (γ 3) 102 0 2 (ρ 27) := c4
  have c5 : γ 5 = rUp (γ 4) 102 0 3 (ρ 28) := c5
  have c6 : ∀ (G : Nat) (k j : Int), ¬ rMdP m40_ G j → γ 6 G k j = γ 5 G k j := c6
  obtain ⟨l0, -⟩ := hl
  have l0 : sn57 [ρ 7, ρ 0, ρ 2, ρ 19, ρ 29, ρ 30, ρ 31, ρ 10, ρ 17] (γ 5) 0 0 (γ 6) := hS57 _ _ _ _ _ l0
  show jn75 [ρ 0, ρ 1, ρ 2, ρ 3, ρ 4, ρ 5, ρ 6, ρ 7, ρ 8, ρ 9, ρ 10, ρ 11, ρ 12, ρ 13, ρ 14] (γ 0) 0 [ρ 0, ρ 1, ρ 2, ρ 3, ρ 4, ρ 5, ρ 6, ρ 7, ρ 8, ρ 9, ρ 10, ρ 11, ρ 12, ρ 13, ρ 14, ρ 15 + 1, ρ 16, ρ 36, ρ 18, ρ 32] (γ 6)
  have hD : en75 (γ 0) (0, [ρ 0, ρ 15], γ 1) = .inl (0, [ρ 0, ρ 15 + 1], γ 6) := by
    unfold en75
    refine (if_pos (show (0 : Nat) = 0 by decide)).trans ?_
    refine (zLet_eq (show _ = γ 1 from rfl)).trans ?_
    refine (zLet_eq (show _ = ρ 0 from rfl)).trans ?_
    refine (zLet_eq (show _ = ρ 15 from rfl)).trans ?_
    refine (zLet_eq m2).trans ?_
    refine (zLet_eq m6).trans ?_
    refine (zLet_eq m15).trans ?_
    refine (zLet_eq m16).trans ?_
    refine (if_neg (show ¬ (ρ 15 ≥ ρ 18) by omega)).trans ?_
    refine (if_neg (show ¬ (ρ 17 ≠ 0) by omega)).trans ?_
    refine (if_pos (show ρ 3 ≤ 2 by omega)).trans ?_
    refine (if_pos (show ρ 3 ≠ 1 by omega)).trans ?_
    refine (zLet_eq m19).trans ?_
    refine (zLet_eq m20).trans ?_
    refine (if_neg (show ¬ (0 ≥ ρ 21) by omega)).trans ?_
    refine (zLet_eq m21).trans ?_
    refine (if_pos (show ρ 22 ≠ 3 by omega)).trans ?_
    refine (zLet_eq m22).trans ?_
    refine (zLet_eq c2.symm).trans ?_
    refine (if_neg (show ¬ (1 ≥ ρ 21) by omega)).trans ?_
    refine (zLet_eq m23).trans ?_
    refine (if_pos (show ρ 24 ≠ 3 by omega)).trans ?_
    refine (zLet_eq m24).trans ?_
    refine (zLet_eq c3.symm).trans ?_
    refine (if_neg (show ¬ (2 ≥ ρ 21) by omega)).trans ?_
    refine (zLet_eq m25).trans ?_
    refine (if_pos (show ρ 26 ≠ 3 by omega)).trans ?_
    refine (zLet_eq m26).trans ?_
    refine (zLet_eq c4.symm).trans ?_
    refine (if_pos (show 3 ≥ ρ 21 by omega)).trans ?_
    refine (zLet_eq m27).trans ?_
    refine (zLet_eq c5.symm).trans ?_
    refine (zLet_eq (show fn57 [ρ 7, ρ 0] (γ 5) = (0, 0, γ 6) from l0.symm)).trans ?_
    refine (zLet_eq (show _ = γ 6 from rfl)).trans ?_
    rfl
  exact zGoo_ato hJ hD
theorem vn75a0_6 {S : Nat → zSpc} (hS57 : ∀ x g o v gz, S 57 x g o v gz → sn57 x g o v gz) (hS73 : ∀ x g o v gz, S 73 x g o v gz → sn73 x g o v gz) {a : List Int} {g : rHp} : ∀ (ρ : Nat → Int) (γ : Nat → rHp), jn75 a g 0 (zAg (zNA a75_ 0) ρ) (γ 1) → zO 15 S a g q75a0_6 ρ γ → zGl (fun i vs g1 => jn75 a g i vs g1) (sn75 a g) q75a0_6 ρ γ := by
  intro ρ γ hJ h
  obtain ⟨ha, hg, hr, hf, hm, hc, hl⟩ := h
  have ha : a = [ρ 0, ρ 1, ρ 2, ρ 3, ρ 4, ρ 5, ρ 6, ρ 7, ρ 8, ρ 9, ρ 10, ρ 11, ρ 12, ρ 13, ρ 14] := ha
  subst ha
  subst hg
  have hJ : jn75 [ρ 0, ρ 1, ρ 2, ρ 3, ρ 4, ρ 5, ρ 6, ρ 7, ρ 8, ρ 9, ρ 10, ρ 11, ρ 12, ρ 13, ρ 14] (γ 0) 0 [ρ 0, ρ 1, ρ 2, ρ 3, ρ 4, ρ 5, ρ 6, ρ 7, ρ 8, ρ 9, ρ 10, ρ 11, ρ 12, ρ 13, ρ 14, ρ 15, ρ 16, ρ 17, ρ 18, ρ 19] (γ 1) := hJ
  obtain ⟨r0, r1, r2, r3, r4, r5, r6, r7, r8, r9, r10, r11, r12, r13, r14, r15, r16, r17, r18, r19, r20, r21, r22, r23, r24, r25, r26, r27, r28, r29, r30, r31, r32, r33, r34, r35, r36, r37, -⟩ := hr
  have r0 : (0 : Int) ≤ ρ 0 ∧ ρ 0 ≤ 59 := r0
  have r1 : (0 : Int) ≤ ρ 1 ∧ ρ 1 ≤ 60 := r1
  have r2 : (0 : Int) ≤ ρ 2 ∧ ρ 2 ≤ 20 := r2
  have r3 : (2 : Int) ≤ ρ 3 ∧ ρ 3 ≤ 2 := r3
  have r4 : (0 : Int) ≤ ρ 4 ∧ ρ 4 ≤ 50001 := r4
  have r5 : (0 : Int) ≤ ρ 5 ∧ ρ 5 ≤ 3 := r5
  have r6 : (0 : Int) ≤ ρ 6 ∧ ρ 6 ≤ 2000 := r6
  have r7 : (0 : Int) ≤ ρ 7 ∧ ρ 7 ≤ 19 := r7
  have r8 : (0 : Int) ≤ ρ 8 ∧ ρ 8 ≤ 61 := r8
  have r9 : (0 : Int) ≤ ρ 9 ∧ ρ 9 ≤ 2000 := r9
  have r10 : ((-2147483648) : Int) ≤ ρ 10 ∧ ρ 10 ≤ 2147483647 := r10
  have r11 : (0 : Int) ≤ ρ 11 ∧ ρ 11 ≤ 2000 := r11
  have r12 : (0 : Int) ≤ ρ 12 ∧ ρ 12 ≤ 2000 := r12
  have r13 : (0 : Int) ≤ ρ 13 ∧ ρ 13 ≤ 2000 := r13
  have r14 : (0 : Int) ≤ ρ 14 ∧ ρ 14 ≤ 50001 := r14
  have r15 : (0 : Int) ≤ ρ 15 ∧ ρ 15 ≤ 2000 := r15
  have r16 : (0 : Int) ≤ ρ 16 ∧ ρ 16 ≤ 50001 := r16
  have r17 : (0 : Int) ≤ ρ 17 ∧ ρ 17 ≤ 0 := r17
  have r18 : (0 : Int) ≤ ρ 18 ∧ ρ 18 ≤ 2000 := r18
  have r19 : (0 : Int) ≤ ρ 19 ∧ ρ 19 ≤ 2000 := r19
  have r20 : ((-2147483648) : Int) ≤ ρ 20 ∧ ρ 20 ≤ 2147483647 := r20
  have r21 : (4 : Int) ≤ ρ 21 ∧ ρ 21 ≤ 4 := r21
  have r22 : (0 : Int) ≤ ρ 22 ∧ ρ 22 ≤ 2 := r22
  have r23 : ((-2147483648) : Int) ≤ ρ 23 ∧ ρ 23 ≤ 1099511640064 := r23
  have r24 : (0 : Int) ≤ ρ 24 ∧ ρ 24 ≤ 2 := r24
  have r25 : ((-2147483648) : Int) ≤ ρ 25 ∧ ρ 25 ≤ 1099511640064 := r25
  have r26 : (0 : Int) ≤ ρ 26 ∧ ρ 26 ≤ 2 := r26
  have r27 : ((-2147483648) : Int) ≤ ρ 27 ∧ ρ 27 ≤ 1099511640064 := r27
  have r28 : (0 : Int) ≤ ρ 28 ∧ ρ 28 ≤ 2 := r28
  have r29 : ((-2147483648) : Int) ≤ ρ 29 ∧ ρ 29 ≤ 1099511640064 := r29
  have r30 : (0 : Int) ≤ ρ 30 ∧ ρ 30 ≤ 8 := r30
  have r31 : ((-1) : Int) ≤ ρ 31 ∧ ρ 31 ≤ 1999 := r31
  have r32 : (0 : Int) ≤ ρ 32 ∧ ρ 32 ≤ 1999 := r32
  have r33 : (1 : Int) ≤ ρ 33 ∧ ρ 33 ≤ 2000 := r33
  have r34 : (0 : Int) ≤ ρ 34 ∧ ρ 34 ≤ 8 := r34
  have r35 : ((-1) : Int) ≤ ρ 35 ∧ ρ 35 ≤ 1999 := r35
  have r36 : (0 : Int) ≤ ρ 36 ∧ ρ 36 ≤ 1999 := r36
  have r37 : (0 : Int) ≤ ρ 37 ∧ ρ 37 ≤ 3 := r37
  obtain ⟨f0, f1, f2, f3, f4, f5, f6, f7, f8, f9, -⟩ := hf
  have f0 : (0 : Int) ≤ -ρ 7 + ρ 2 + (-1) := f0
  have f1 : (0 : Int) ≤ ρ 33 + -ρ 19 := f1
  have f2 : (0 : Int) ≤ ρ 35 + -ρ 31 := f2
  have f3 : (0 : Int) ≤ ρ 18 + -ρ 15 + (-1) := f3
  have f4 : (0 : Int) ≤ ρ 17 + -ρ 16 + 50000 := f4
  have f5 : (0 : Int) ≤ ρ 1 + -ρ 0 + (-1) := f5
  have f6 : (0 : Int) ≤ ρ 19 + -ρ 9 := f6
  have f7 : (0 : Int) ≤ ρ 18 + -ρ 15 := f7
  have f8 : (0 : Int) ≤ ρ 17 + -ρ 5 := f8
  have f9 : (0 : Int) ≤ ρ 16 + -ρ 4 := f9
  obtain ⟨m0, m1, m2, m3, m4, m5, m6, m7, m8, m9, m10, m11, m12, m13, m14, m15, m16, m17, m18, m19, m20, m21, m22, m23, m24, m25, m26, m27, m28, m29, m30, m31, m32, m33, m34, m35, m36, -⟩ := hm
  have m0 : γ 0 15 0 32 = ρ 1 := m0
  have m1 : γ 0 15 0 13 = ρ 2 := m1
  have m2 : γ 0 71 0 (ρ 0) = ρ 3 := m2
  have m3 : γ 0 15 0 72 = ρ 4 := m3
  have m4 : γ 0 15 0 77 = ρ 5 := m4
  have m5 : γ 0 15 0 90 = ρ 6 := m5
  have m6 : γ 0 69 0 (ρ 0) = ρ 7 := m6
  have m7 : γ 0 15 0 44 = ρ 8 := m7
  have m8 : γ 0 15 0 71 = ρ 9 := m8
  have m9 : γ 0 15 0 76 = ρ 10 := m9
  have m10 : γ 0 15 0 81 = ρ 11 := m10
  have m11 : γ 0 15 0 82 = ρ 12 := m11
  have m12 : γ 0 15 0 83 = ρ 13 := m12
  have m13 : γ 0 15 0 94 = ρ 14 := m13
  have m14 : γ 1 15 0 72 = ρ 16 := m14
  have m15 : γ 1 15 0 77 = ρ 17 := m15
  have m16 : γ 1 15 0 90 = ρ 18 := m16
  have m17 : γ 1 15 0 71 = ρ 19 := m17
  have m18 : γ 1 15 0 81 = ρ 9 := m18
  have m19 : γ 1 107 0 (ρ 15) = ρ 20 := m19
  have m20 : γ 0 66 0 (ρ 7) = ρ 21 := m20
  have m21 : γ 0 70 0 (4 * ρ 0) = ρ 22 := m21
  have m22 : γ 1 105 0 (4 * ρ 15) = ρ 23 := m22
  have m23 : γ 0 70 0 (4 * ρ 0 + 1) = ρ 24 := m23
  have m24 : γ 1 105 0 (4 * ρ 15 + 1) = ρ 25 := m24
  have m25 : γ 0 70 0 (4 * ρ 0 + 2) = ρ 26 := m25
  have m26 : γ 1 105 0 (4 * ρ 15 + 2) = ρ 27 := m26
  have m27 : γ 0 70 0 (4 * ρ 0 + 3) = ρ 28 := m27
  have m28 : γ 1 105 0 (4 * ρ 15 + 3) = ρ 29 := m28
  have m29 : γ 1 97 0 (ρ 19) = ρ 30 := m29
  have m30 : γ 1 100 0 (ρ 7) = ρ 31 := m30
  have m31 : γ 1 101 0 (ρ 7) = ρ 32 := m31
  have m32 : γ 6 15 0 71 = ρ 33 := m32
  have m33 : γ 6 97 0 (ρ 19) = ρ 34 := m33
  have m34 : γ 6 100 0 (ρ 7) = ρ 35 := m34
  have m35 : γ 6 101 0 (ρ 7) = ρ 36 := m35
  have m36 : γ 6 15 0 77 = ρ 37 := m36
  obtain ⟨⟨⟨⟨⟨⟨-, c1⟩, c2⟩, c3⟩, c4⟩, c5⟩, c6⟩ := hc
  have c1 : ∀ (G : Nat) (k j : Int), ¬ rMdP m51_ G j → γ 1 G k j = γ 0 G k j := c1
  have c2 : γ 2 = rUp (γ 1) 102 0 0 (ρ 23) := c2
  have c3 : γ 3 = rUp (γ 2) 102 0 1 (ρ 25) := c3
  have c4 : γ 4 = rUp (γ 3) 102 0 2 (ρ 27) := c4
  have c5 : γ 5 = rUp (γ 4) 102 0 3 (ρ 29) := c5
  have c6 : ∀ (G : Nat) (k j : Int), ¬ rMdP m40_ G j → γ 6 G k j = γ 5 G k j := c6
  obtain ⟨l0, -⟩ := hl
  have l0 : sn57 [ρ 7, ρ 0, ρ 2, ρ 19, ρ 30, ρ 31, ρ 32, ρ 10, ρ 17] (γ 5) 0 0 (γ 6) := hS57 _ _ _ _ _ l0
  show jn75 [ρ 0, ρ 1, ρ 2, ρ 3, ρ 4, ρ 5, ρ 6, ρ 7, ρ 8, ρ 9, ρ 10, ρ 11, ρ 12, ρ 13, ρ 14] (γ 0) 0 [ρ 0, ρ 1, ρ 2, ρ 3, ρ 4, ρ 5, ρ 6, ρ 7, ρ 8, ρ 9, ρ 10, ρ 11, ρ 12, ρ 13, ρ 14, ρ 15 + 1, ρ 16, ρ 37, ρ 18, ρ 33] (γ 6)
  have hD : en75 (γ 0) (0, [ρ 0, ρ 15], γ 1) = .inl (0, [ρ 0, ρ 15 + 1], γ 6) := by
    unfold en75
    refine (if_pos (show (0 : Nat) = 0 by decide)).trans ?_
    refine (zLet_eq (show _ = γ 1 from rfl)).trans ?_
    refine (zLet_eq (show _ = ρ 0 from rfl)).trans ?_
    refine (zLet_eq (show _ = ρ 15 from rfl)).trans ?_
    refine (zLet_eq m2).trans ?_
    refine (zLet_eq m6).trans ?_
    refine (zLet_eq m15).trans ?_
    refine (zLet_eq m16).trans ?_
    refine (if_neg (show ¬ (ρ 15 ≥ ρ 18) by omega)).trans ?_
    refine (if_neg (show ¬ (ρ 17 ≠ 0) by omega)).trans ?_
    refine (if_pos (show ρ 3 ≤ 2 by omega)).trans ?_
    refine (if_pos (show ρ 3 ≠ 1 by omega)).trans ?_
    refine (zLet_eq m19).trans ?_
    refine (zLet_eq m20).trans ?_
    refine (if_neg (show ¬ (0 ≥ ρ 21) by omega)).trans ?_
    refine (zLet_eq m21).trans ?_
    refine (if_pos (show ρ 22 ≠ 3 by omega)).trans ?_
    refine (zLet_eq m22).trans ?_
    refine (zLet_eq c2.symm).trans ?_
    refine (if_neg (show ¬ (1 ≥ ρ 21) by omega)).trans ?_
    refine (zLet_eq m23).trans ?_
    refine (if_pos (show ρ 24 ≠ 3 by omega)).trans ?_
    refine (zLet_eq m24).trans ?_
    refine (zLet_eq c3.symm).trans ?_
    refine (if_neg (show ¬ (2 ≥ ρ 21) by omega)).trans ?_
    refine (zLet_eq m25).trans ?_
    refine (if_pos (show ρ 26 ≠ 3 by omega)).trans ?_
    refine (zLet_eq m26).trans ?_
    refine (zLet_eq c4.symm).trans ?_
    refine (if_neg (show ¬ (3 ≥ ρ 21) by omega)).trans ?_
    refine (zLet_eq m27).trans ?_
    refine (if_pos (show ρ 28 ≠ 3 by omega)).trans ?_
    refine (zLet_eq m28).trans ?_
    refine (zLet_eq c5.symm).trans ?_
    refine (zLet_eq (show fn57 [ρ 7, ρ 0] (γ 5) = (0, 0, γ 6) from l0.symm)).trans ?_
    refine (zLet_eq (show _ = γ 6 from rfl)).trans ?_
    rfl
  exact zGoo_ato hJ hD
theorem vn75a0_7 {S : Nat → zSpc} (hS57 : ∀ x g o v gz, S 57 x g o v gz → sn57 x g o v gz) (hS73 : ∀ x g o v gz, S 73 x g o v gz → sn73 x g o v gz) {a : List Int} {g : rHp} : ∀ (ρ : Nat → Int) (γ : Nat → rHp), jn75 a g 0 (zAg (zNA a75_ 0) ρ) (γ 1) → zO 15 S a g q75a0_7 ρ γ → zGl (fun i vs g1 => jn75 a g i vs g1) (sn75 a g) q75a0_7 ρ γ := by
  intro ρ γ hJ h
  obtain ⟨ha, hg, hr, hf, hm, hc, hl⟩ := h
  have ha : a = [ρ 0, ρ 1, ρ 2, ρ 3, ρ 4, ρ 5, ρ 6, ρ 7, ρ 8, ρ 9, ρ 10, ρ 11, ρ 12, ρ 13, ρ 14] := ha
  subst ha
  subst hg
  have hJ : jn75 [ρ 0, ρ 1, ρ 2, ρ 3, ρ 4, ρ 5, ρ 6, ρ 7, ρ 8, ρ 9, ρ 10, ρ 11, ρ 12, ρ 13, ρ 14] (γ 0) 0 [ρ 0, ρ 1, ρ 2, ρ 3, ρ 4, ρ 5, ρ 6, ρ 7, ρ 8, ρ 9, ρ 10, ρ 11, ρ 12, ρ 13, ρ 14, ρ 15, ρ 16, ρ 17, ρ 18, ρ 19] (γ 1) := hJ
  obtain ⟨r0, r1, r2, r3, r4, r5, r6, r7, r8, r9, r10, r11, r12, r13, r14, r15, r16, r17, r18, r19, r20, r21, r22, r23, r24, r25, r26, r27, r28, r29, r30, r31, r32, r33, r34, r35, r36, -⟩ := hr
  have r0 : (0 : Int) ≤ ρ 0 ∧ ρ 0 ≤ 59 := r0
  have r1 : (0 : Int) ≤ ρ 1 ∧ ρ 1 ≤ 60 := r1
  have r2 : (0 : Int) ≤ ρ 2 ∧ ρ 2 ≤ 20 := r2
  have r3 : (2 : Int) ≤ ρ 3 ∧ ρ 3 ≤ 2 := r3
  have r4 : (0 : Int) ≤ ρ 4 ∧ ρ 4 ≤ 50001 := r4
  have r5 : (0 : Int) ≤ ρ 5 ∧ ρ 5 ≤ 3 := r5
  have r6 : (0 : Int) ≤ ρ 6 ∧ ρ 6 ≤ 2000 := r6
  have r7 : (0 : Int) ≤ ρ 7 ∧ ρ 7 ≤ 19 := r7
  have r8 : (0 : Int) ≤ ρ 8 ∧ ρ 8 ≤ 61 := r8
  have r9 : (0 : Int) ≤ ρ 9 ∧ ρ 9 ≤ 2000 := r9
  have r10 : ((-2147483648) : Int) ≤ ρ 10 ∧ ρ 10 ≤ 2147483647 := r10
  have r11 : (0 : Int) ≤ ρ 11 ∧ ρ 11 ≤ 2000 := r11
  have r12 : (0 : Int) ≤ ρ 12 ∧ ρ 12 ≤ 2000 := r12
  have r13 : (0 : Int) ≤ ρ 13 ∧ ρ 13 ≤ 2000 := r13
  have r14 : (0 : Int) ≤ ρ 14 ∧ ρ 14 ≤ 50001 := r14
  have r15 : (0 : Int) ≤ ρ 15 ∧ ρ 15 ≤ 2000 := r15
  have r16 : (0 : Int) ≤ ρ 16 ∧ ρ 16 ≤ 50001 := r16
  have r17 : (0 : Int) ≤ ρ 17 ∧ ρ 17 ≤ 0 := r17
  have r18 : (0 : Int) ≤ ρ 18 ∧ ρ 18 ≤ 2000 := r18
  have r19 : (0 : Int) ≤ ρ 19 ∧ ρ 19 ≤ 2000 := r19
  have r20 : ((-2147483648) : Int) ≤ ρ 20 ∧ ρ 20 ≤ 2147483647 := r20
  have r21 : (4 : Int) ≤ ρ 21 ∧ ρ 21 ≤ 4 := r21
  have r22 : (0 : Int) ≤ ρ 22 ∧ ρ 22 ≤ 2 := r22
  have r23 : ((-2147483648) : Int) ≤ ρ 23 ∧ ρ 23 ≤ 1099511640064 := r23
  have r24 : (0 : Int) ≤ ρ 24 ∧ ρ 24 ≤ 2 := r24
  have r25 : ((-2147483648) : Int) ≤ ρ 25 ∧ ρ 25 ≤ 1099511640064 := r25
  have r26 : (0 : Int) ≤ ρ 26 ∧ ρ 26 ≤ 2 := r26
  have r27 : ((-2147483648) : Int) ≤ ρ 27 ∧ ρ 27 ≤ 1099511640064 := r27
  have r28 : (3 : Int) ≤ ρ 28 ∧ ρ 28 ≤ 3 := r28
  have r29 : (0 : Int) ≤ ρ 29 ∧ ρ 29 ≤ 8 := r29
  have r30 : ((-1) : Int) ≤ ρ 30 ∧ ρ 30 ≤ 1999 := r30
  have r31 : (0 : Int) ≤ ρ 31 ∧ ρ 31 ≤ 1999 := r31
  have r32 : (1 : Int) ≤ ρ 32 ∧ ρ 32 ≤ 2000 := r32
  have r33 : (0 : Int) ≤ ρ 33 ∧ ρ 33 ≤ 8 := r33
  have r34 : ((-1) : Int) ≤ ρ 34 ∧ ρ 34 ≤ 1999 := r34
  have r35 : (0 : Int) ≤ ρ 35 ∧ ρ 35 ≤ 1999 := r35
  have r36 : (0 : Int) ≤ ρ 36 ∧ ρ 36 ≤ 3 := r36
  obtain ⟨f0, f1, f2, f3, f4, f5, f6, f7, f8, f9, -⟩ := hf
  have f0 : (0 : Int) ≤ -ρ 7 + ρ 2 + (-1) := f0
  have f1 : (0 : Int) ≤ ρ 32 + -ρ 19 := f1
  have f2 : (0 : Int) ≤ ρ 34 + -ρ 30 := f2
  have f3 : (0 : Int) ≤ ρ 18 + -ρ 15 + (-1) := f3
  have f4 : (0 : Int) ≤ ρ 17 + -ρ 16 + 50000 := f4
  have f5 : (0 : Int) ≤ ρ 1 + -ρ 0 + (-1) := f5
  have f6 : (0 : Int) ≤ ρ 19 + -ρ 9 := f6
  have f7 : (0 : Int) ≤ ρ 18 + -ρ 15 := f7
  have f8 : (0 : Int) ≤ ρ 17 + -ρ 5 := f8
  have f9 : (0 : Int) ≤ ρ 16 + -ρ 4 := f9
  obtain ⟨m0, m1, m2, m3, m4, m5, m6, m7, m8, m9, m10, m11, m12, m13, m14, m15, m16, m17, m18, m19, m20, m21, m22, m23, m24, m25, m26, m27, m28, m29, m30, m31, m32, m33, m34, m35, -⟩ := hm
  have m0 : γ 0 15 0 32 = ρ 1 := m0
  have m1 : γ 0 15 0 13 = ρ 2 := m1
  have m2 : γ 0 71 0 (ρ 0) = ρ 3 := m2
  have m3 : γ 0 15 0 72 = ρ 4 := m3
  have m4 : γ 0 15 0 77 = ρ 5 := m4
  have m5 : γ 0 15 0 90 = ρ 6 := m5
  have m6 : γ 0 69 0 (ρ 0) = ρ 7 := m6
  have m7 : γ 0 15 0 44 = ρ 8 := m7
  have m8 : γ 0 15 0 71 = ρ 9 := m8
  have m9 : γ 0 15 0 76 = ρ 10 := m9
  have m10 : γ 0 15 0 81 = ρ 11 := m10
  have m11 : γ 0 15 0 82 = ρ 12 := m11
  have m12 : γ 0 15 0 83 = ρ 13 := m12
  have m13 : γ 0 15 0 94 = ρ 14 := m13
  have m14 : γ 1 15 0 72 = ρ 16 := m14
  have m15 : γ 1 15 0 77 = ρ 17 := m15
  have m16 : γ 1 15 0 90 = ρ 18 := m16
  have m17 : γ 1 15 0 71 = ρ 19 := m17
  have m18 : γ 1 15 0 81 = ρ 9 := m18
  have m19 : γ 1 107 0 (ρ 15) = ρ 20 := m19
  have m20 : γ 0 66 0 (ρ 7) = ρ 21 := m20
  have m21 : γ 0 70 0 (4 * ρ 0) = ρ 22 := m21
  have m22 : γ 1 105 0 (4 * ρ 15) = ρ 23 := m22
  have m23 : γ 0 70 0 (4 * ρ 0 + 1) = ρ 24 := m23
  have m24 : γ 1 105 0 (4 * ρ 15 + 1) = ρ 25 := m24
  have m25 : γ 0 70 0 (4 * ρ 0 + 2) = ρ 26 := m25
  have m26 : γ 1 105 0 (4 * ρ 15 + 2) = ρ 27 := m26
  have m27 : γ 0 70 0 (4 * ρ 0 + 3) = ρ 28 := m27
  have m28 : γ 1 97 0 (ρ 19) = ρ 29 := m28
  have m29 : γ 1 100 0 (ρ 7) = ρ 30 := m29
  have m30 : γ 1 101 0 (ρ 7) = ρ 31 := m30
  have m31 : γ 6 15 0 71 = ρ 32 := m31
  have m32 : γ 6 97 0 (ρ 19) = ρ 33 := m32
  have m33 : γ 6 100 0 (ρ 7) = ρ 34 := m33
  have m34 : γ 6 101 0 (ρ 7) = ρ 35 := m34
  have m35 : γ 6 15 0 77 = ρ 36 := m35
  obtain ⟨⟨⟨⟨⟨⟨-, c1⟩, c2⟩, c3⟩, c4⟩, c5⟩, c6⟩ := hc
  have c1 : ∀ (G : Nat) (k j : Int), ¬ rMdP m51_ G j → γ 1 G k j = γ 0 G k j := c1
  have c2 : γ 2 = rUp (γ 1) 102 0 0 (ρ 23) := c2
  have c3 : γ 3 = rUp (γ 2) 102 0 1 (ρ 25) := c3
  have c4 : γ 4 = rUp (γ 3) 102 0 2 (ρ 27) := c4
  have c5 : γ 5 = rUp (γ 4) 102 0 3 (ρ 20) := c5
  have c6 : ∀ (G : Nat) (k j : Int), ¬ rMdP m40_ G j → γ 6 G k j = γ 5 G k j := c6
  obtain ⟨l0, -⟩ := hl
  have l0 : sn57 [ρ 7, ρ 0, ρ 2, ρ 19, ρ 29, ρ 30, ρ 31, ρ 10, ρ 17] (γ 5) 0 0 (γ 6) := hS57 _ _ _ _ _ l0
  show jn75 [ρ 0, ρ 1, ρ 2, ρ 3, ρ 4, ρ 5, ρ 6, ρ 7, ρ 8, ρ 9, ρ 10, ρ 11, ρ 12, ρ 13, ρ 14] (γ 0) 0 [ρ 0, ρ 1, ρ 2, ρ 3, ρ 4, ρ 5, ρ 6, ρ 7, ρ 8, ρ 9, ρ 10, ρ 11, ρ 12, ρ 13, ρ 14, ρ 15 + 1, ρ 16, ρ 36, ρ 18, ρ 32] (γ 6)
  have hD : en75 (γ 0) (0, [ρ 0, ρ 15], γ 1) = .inl (0, [ρ 0, ρ 15 + 1], γ 6) := by
    unfold en75
    refine (if_pos (show (0 : Nat) = 0 by decide)).trans ?_
    refine (zLet_eq (show _ = γ 1 from rfl)).trans ?_
    refine (zLet_eq (show _ = ρ 0 from rfl)).trans ?_
    refine (zLet_eq (show _ = ρ 15 from rfl)).trans ?_
    refine (zLet_eq m2).trans ?_
    refine (zLet_eq m6).trans ?_
    refine (zLet_eq m15).trans ?_
    refine (zLet_eq m16).trans ?_
    refine (if_neg (show ¬ (ρ 15 ≥ ρ 18) by omega)).trans ?_
    refine (if_neg (show ¬ (ρ 17 ≠ 0) by omega)).trans ?_
    refine (if_pos (show ρ 3 ≤ 2 by omega)).trans ?_
    refine (if_pos (show ρ 3 ≠ 1 by omega)).trans ?_
    refine (zLet_eq m19).trans ?_
    refine (zLet_eq m20).trans ?_
    refine (if_neg (show ¬ (0 ≥ ρ 21) by omega)).trans ?_
    refine (zLet_eq m21).trans ?_
    refine (if_pos (show ρ 22 ≠ 3 by omega)).trans ?_
    refine (zLet_eq m22).trans ?_
    refine (zLet_eq c2.symm).trans ?_
    refine (if_neg (show ¬ (1 ≥ ρ 21) by omega)).trans ?_
    refine (zLet_eq m23).trans ?_
    refine (if_pos (show ρ 24 ≠ 3 by omega)).trans ?_
    refine (zLet_eq m24).trans ?_
    refine (zLet_eq c3.symm).trans ?_
    refine (if_neg (show ¬ (2 ≥ ρ 21) by omega)).trans ?_
    refine (zLet_eq m25).trans ?_
    refine (if_pos (show ρ 26 ≠ 3 by omega)).trans ?_
    refine (zLet_eq m26).trans ?_
    refine (zLet_eq c4.symm).trans ?_
    refine (if_neg (show ¬ (3 ≥ ρ 21) by omega)).trans ?_
    refine (zLet_eq m27).trans ?_
    refine (if_neg (show ¬ (ρ 28 ≠ 3) by omega)).trans ?_
    refine (zLet_eq c5.symm).trans ?_
    refine (zLet_eq (show fn57 [ρ 7, ρ 0] (γ 5) = (0, 0, γ 6) from l0.symm)).trans ?_
    refine (zLet_eq (show _ = γ 6 from rfl)).trans ?_
    rfl
  exact zGoo_ato hJ hD
theorem vn75a0_8 {S : Nat → zSpc} (hS57 : ∀ x g o v gz, S 57 x g o v gz → sn57 x g o v gz) (hS73 : ∀ x g o v gz, S 73 x g o v gz → sn73 x g o v gz) {a : List Int} {g : rHp} : ∀ (ρ : Nat → Int) (γ : Nat → rHp), jn75 a g 0 (zAg (zNA a75_ 0) ρ) (γ 1) → zO 15 S a g q75a0_8 ρ γ → zGl (fun i vs g1 => jn75 a g i vs g1) (sn75 a g) q75a0_8 ρ γ := by
  intro ρ γ hJ h
  obtain ⟨ha, hg, hr, hf, hm, hc, hl⟩ := h
  have ha : a = [ρ 0, ρ 1, ρ 2, ρ 3, ρ 4, ρ 5, ρ 6, ρ 7, ρ 8, ρ 9, ρ 10, ρ 11, ρ 12, ρ 13, ρ 14] := ha
  subst ha
  subst hg
  have hJ : jn75 [ρ 0, ρ 1, ρ 2, ρ 3, ρ 4, ρ 5, ρ 6, ρ 7, ρ 8, ρ 9, ρ 10, ρ 11, ρ 12, ρ 13, ρ 14] (γ 0) 0 [ρ 0, ρ 1, ρ 2, ρ 3, ρ 4, ρ 5, ρ 6, ρ 7, ρ 8, ρ 9, ρ 10, ρ 11, ρ 12, ρ 13, ρ 14, ρ 15, ρ 16, ρ 17, ρ 18, ρ 19] (γ 1) := hJ
  obtain ⟨r0, r1, r2, r3, r4, r5, r6, r7, r8, r9, r10, r11, r12, r13, r14, r15, r16, r17, r18, r19, r20, r21, r22, r23, r24, r25, r26, r27, r28, r29, r30, r31, r32, r33, r34, r35, -⟩ := hr
  have r0 : (0 : Int) ≤ ρ 0 ∧ ρ 0 ≤ 59 := r0
  have r1 : (0 : Int) ≤ ρ 1 ∧ ρ 1 ≤ 60 := r1
  have r2 : (0 : Int) ≤ ρ 2 ∧ ρ 2 ≤ 20 := r2
  have r3 : (2 : Int) ≤ ρ 3 ∧ ρ 3 ≤ 2 := r3
  have r4 : (0 : Int) ≤ ρ 4 ∧ ρ 4 ≤ 50001 := r4
  have r5 : (0 : Int) ≤ ρ 5 ∧ ρ 5 ≤ 3 := r5
  have r6 : (0 : Int) ≤ ρ 6 ∧ ρ 6 ≤ 2000 := r6
  have r7 : (0 : Int) ≤ ρ 7 ∧ ρ 7 ≤ 19 := r7
  have r8 : (0 : Int) ≤ ρ 8 ∧ ρ 8 ≤ 61 := r8
  have r9 : (0 : Int) ≤ ρ 9 ∧ ρ 9 ≤ 2000 := r9
  have r10 : ((-2147483648) : Int) ≤ ρ 10 ∧ ρ 10 ≤ 2147483647 := r10
  have r11 : (0 : Int) ≤ ρ 11 ∧ ρ 11 ≤ 2000 := r11
  have r12 : (0 : Int) ≤ ρ 12 ∧ ρ 12 ≤ 2000 := r12
  have r13 : (0 : Int) ≤ ρ 13 ∧ ρ 13 ≤ 2000 := r13
  have r14 : (0 : Int) ≤ ρ 14 ∧ ρ 14 ≤ 50001 := r14
  have r15 : (0 : Int) ≤ ρ 15 ∧ ρ 15 ≤ 2000 := r15
  have r16 : (0 : Int) ≤ ρ 16 ∧ ρ 16 ≤ 50001 := r16
  have r17 : (0 : Int) ≤ ρ 17 ∧ ρ 17 ≤ 0 := r17
  have r18 : (0 : Int) ≤ ρ 18 ∧ ρ 18 ≤ 2000 := r18
  have r19 : (0 : Int) ≤ ρ 19 ∧ ρ 19 ≤ 2000 := r19
  have r20 : ((-2147483648) : Int) ≤ ρ 20 ∧ ρ 20 ≤ 2147483647 := r20
  have r21 : (3 : Int) ≤ ρ 21 ∧ ρ 21 ≤ 3 := r21
  have r22 : (0 : Int) ≤ ρ 22 ∧ ρ 22 ≤ 2 := r22
  have r23 : ((-2147483648) : Int) ≤ ρ 23 ∧ ρ 23 ≤ 1099511640064 := r23
  have r24 : (0 : Int) ≤ ρ 24 ∧ ρ 24 ≤ 2 := r24
  have r25 : ((-2147483648) : Int) ≤ ρ 25 ∧ ρ 25 ≤ 1099511640064 := r25
  have r26 : (3 : Int) ≤ ρ 26 ∧ ρ 26 ≤ 3 := r26
  have r27 : ((-2147483648) : Int) ≤ ρ 27 ∧ ρ 27 ≤ 1099511640064 := r27
  have r28 : (0 : Int) ≤ ρ 28 ∧ ρ 28 ≤ 8 := r28
  have r29 : ((-1) : Int) ≤ ρ 29 ∧ ρ 29 ≤ 1999 := r29
  have r30 : (0 : Int) ≤ ρ 30 ∧ ρ 30 ≤ 1999 := r30
  have r31 : (1 : Int) ≤ ρ 31 ∧ ρ 31 ≤ 2000 := r31
  have r32 : (0 : Int) ≤ ρ 32 ∧ ρ 32 ≤ 8 := r32
  have r33 : ((-1) : Int) ≤ ρ 33 ∧ ρ 33 ≤ 1999 := r33
  have r34 : (0 : Int) ≤ ρ 34 ∧ ρ 34 ≤ 1999 := r34
  have r35 : (0 : Int) ≤ ρ 35 ∧ ρ 35 ≤ 3 := r35
  obtain ⟨f0, f1, f2, f3, f4, f5, f6, f7, f8, f9, -⟩ := hf
  have f0 : (0 : Int) ≤ -ρ 7 + ρ 2 + (-1) := f0
  have f1 : (0 : Int) ≤ ρ 31 + -ρ 19 := f1
  have f2 : (0 : Int) ≤ ρ 33 + -ρ 29 := f2
  have f3 : (0 : Int) ≤ ρ 18 + -ρ 15 + (-1) := f3
  have f4 : (0 : Int) ≤ ρ 17 + -ρ 16 + 50000 := f4
  have f5 : (0 : Int) ≤ ρ 1 + -ρ 0 + (-1) := f5
  have f6 : (0 : Int) ≤ ρ 19 + -ρ 9 := f6
  have f7 : (0 : Int) ≤ ρ 18 + -ρ 15 := f7
  have f8 : (0 : Int) ≤ ρ 17 + -ρ 5 := f8
  have f9 : (0 : Int) ≤ ρ 16 + -ρ 4 := f9
  obtain ⟨m0, m1, m2, m3, m4, m5, m6, m7, m8, m9, m10, m11, m12, m13, m14, m15, m16, m17, m18, m19, m20, m21, m22, m23, m24, m25, m26, m27, m28, m29, m30, m31, m32, m33, m34, -⟩ := hm
  have m0 : γ 0 15 0 32 = ρ 1 := m0
  have m1 : γ 0 15 0 13 = ρ 2 := m1
  have m2 : γ 0 71 0 (ρ 0) = ρ 3 := m2
  have m3 : γ 0 15 0 72 = ρ 4 := m3
  have m4 : γ 0 15 0 77 = ρ 5 := m4
  have m5 : γ 0 15 0 90 = ρ 6 := m5
  have m6 : γ 0 69 0 (ρ 0) = ρ 7 := m6
  have m7 : γ 0 15 0 44 = ρ 8 := m7
  have m8 : γ 0 15 0 71 = ρ 9 := m8
  have m9 : γ 0 15 0 76 = ρ 10 := m9
  have m10 : γ 0 15 0 81 = ρ 11 := m10
  have m11 : γ 0 15 0 82 = ρ 12 := m11
  have m12 : γ 0 15 0 83 = ρ 13 := m12
  have m13 : γ 0 15 0 94 = ρ 14 := m13
  have m14 : γ 1 15 0 72 = ρ 16 := m14
  have m15 : γ 1 15 0 77 = ρ 17 := m15
  have m16 : γ 1 15 0 90 = ρ 18 := m16
  have m17 : γ 1 15 0 71 = ρ 19 := m17
  have m18 : γ 1 15 0 81 = ρ 9 := m18
  have m19 : γ 1 107 0 (ρ 15) = ρ 20 := m19
  have m20 : γ 0 66 0 (ρ 7) = ρ 21 := m20
  have m21 : γ 0 70 0 (4 * ρ 0) = ρ 22 := m21
  have m22 : γ 1 105 0 (4 * ρ 15) = ρ 23 := m22
  have m23 : γ 0 70 0 (4 * ρ 0 + 1) = ρ 24 := m23
  have m24 : γ 1 105 0 (4 * ρ 15 + 1) = ρ 25 := m24
  have m25 : γ 0 70 0 (4 * ρ 0 + 2) = ρ 26 := m25
  have m26 : γ 1 105 0 (4 * ρ 15 + 3) = ρ 27 := m26
  have m27 : γ 1 97 0 (ρ 19) = ρ 28 := m27
  have m28 : γ 1 100 0 (ρ 7) = ρ 29 := m28
  have m29 : γ 1 101 0 (ρ 7) = ρ 30 := m29
  have m30 : γ 6 15 0 71 = ρ 31 := m30
  have m31 : γ 6 97 0 (ρ 19) = ρ 32 := m31
  have m32 : γ 6 100 0 (ρ 7) = ρ 33 := m32
  have m33 : γ 6 101 0 (ρ 7) = ρ 34 := m33
  have m34 : γ 6 15 0 77 = ρ 35 := m34
  obtain ⟨⟨⟨⟨⟨⟨-, c1⟩, c2⟩, c3⟩, c4⟩, c5⟩, c6⟩ := hc
  have c1 : ∀ (G : Nat) (k j : Int), ¬ rMdP m51_ G j → γ 1 G k j = γ 0 G k j := c1
  have c2 : γ 2 = rUp (γ 1) 102 0 0 (ρ 23) := c2
  have c3 : γ 3 = rUp (γ 2) 102 0 1 (ρ 25) := c3
  have c4 : γ 4 = rUp (γ 3) 102 0 2 (ρ 20) := c4
  have c5 : γ 5 = rUp (γ 4) 102 0 3 (ρ 27) := c5
  have c6 : ∀ (G : Nat) (k j : Int), ¬ rMdP m40_ G j → γ 6 G k j = γ 5 G k j := c6
  obtain ⟨l0, -⟩ := hl
  have l0 : sn57 [ρ 7, ρ 0, ρ 2, ρ 19, ρ 28, ρ 29, ρ 30, ρ 10, ρ 17] (γ 5) 0 0 (γ 6) := hS57 _ _ _ _ _ l0
  show jn75 [ρ 0, ρ 1, ρ 2, ρ 3, ρ 4, ρ 5, ρ 6, ρ 7, ρ 8, ρ 9, ρ 10, ρ 11, ρ 12, ρ 13, ρ 14] (γ 0) 0 [ρ 0, ρ 1, ρ 2, ρ 3, ρ 4, ρ 5, ρ 6, ρ 7, ρ 8, ρ 9, ρ 10, ρ 11, ρ 12, ρ 13, ρ 14, ρ 15 + 1, ρ 16, ρ 35, ρ 18, ρ 31] (γ 6)
  have hD : en75 (γ 0) (0, [ρ 0, ρ 15], γ 1) = .inl (0, [ρ 0, ρ 15 + 1], γ 6) := by
    unfold en75
    refine (if_pos (show (0 : Nat) = 0 by decide)).trans ?_
    refine (zLet_eq (show _ = γ 1 from rfl)).trans ?_
    refine (zLet_eq (show _ = ρ 0 from rfl)).trans ?_
    refine (zLet_eq (show _ = ρ 15 from rfl)).trans ?_
    refine (zLet_eq m2).trans ?_
    refine (zLet_eq m6).trans ?_
    refine (zLet_eq m15).trans ?_
    refine (zLet_eq m16).trans ?_
    refine (if_neg (show ¬ (ρ 15 ≥ ρ 18) by omega)).trans ?_
    refine (if_neg (show ¬ (ρ 17 ≠ 0) by omega)).trans ?_
    refine (if_pos (show ρ 3 ≤ 2 by omega)).trans ?_
    refine (if_pos (show ρ 3 ≠ 1 by omega)).trans ?_
    refine (zLet_eq m19).trans ?_
    refine (zLet_eq m20).trans ?_
    refine (if_neg (show ¬ (0 ≥ ρ 21) by omega)).trans ?_
    refine (zLet_eq m21).trans ?_
    refine (if_pos (show ρ 22 ≠ 3 by omega)).trans ?_
    refine (zLet_eq m22).trans ?_
    refine (zLet_eq c2.symm).trans ?_
    refine (if_neg (show ¬ (1 ≥ ρ 21) by omega)).trans ?_
    refine (zLet_eq m23).trans ?_
    refine (if_pos (show ρ 24 ≠ 3 by omega)).trans ?_
    refine (zLet_eq m24).trans ?_
    refine (zLet_eq c3.symm).trans ?_
    refine (if_neg (show ¬ (2 ≥ ρ 21) by omega)).trans ?_
    refine (zLet_eq m25).trans ?_
    refine (if_neg (show ¬ (ρ 26 ≠ 3) by omega)).trans ?_
    refine (zLet_eq c4.symm).trans ?_
    refine (if_pos (show 3 ≥ ρ 21 by omega)).trans ?_
    refine (zLet_eq m26).trans ?_
    refine (zLet_eq c5.symm).trans ?_
    refine (zLet_eq (show fn57 [ρ 7, ρ 0] (γ 5) = (0, 0, γ 6) from l0.symm)).trans ?_
    refine (zLet_eq (show _ = γ 6 from rfl)).trans ?_
    rfl
  exact zGoo_ato hJ hD
theorem vn75a0_9 {S : Nat → zSpc} (hS57 : ∀ x g o v gz, S 57 x g o v gz → sn57 x g o v gz) (hS73 : ∀ x g o v gz, S 73 x g o v gz → sn73 x g o v gz) {a : List Int} {g : rHp} : ∀ (ρ : Nat → Int) (γ : Nat → rHp), jn75 a g 0 (zAg (zNA a75_ 0) ρ) (γ 1) → zO 15 S a g q75a0_9 ρ γ → zGl (fun i vs g1 => jn75 a g i vs g1) (sn75 a g) q75a0_9 ρ γ := by
  intro ρ γ hJ h
  obtain ⟨ha, hg, hr, hf, hm, hc, hl⟩ := h
  have ha : a = [ρ 0, ρ 1, ρ 2, ρ 3, ρ 4, ρ 5, ρ 6, ρ 7, ρ 8, ρ 9, ρ 10, ρ 11, ρ 12, ρ 13, ρ 14] := ha
  subst ha
  subst hg
  have hJ : jn75 [ρ 0, ρ 1, ρ 2, ρ 3, ρ 4, ρ 5, ρ 6, ρ 7, ρ 8, ρ 9, ρ 10, ρ 11, ρ 12, ρ 13, ρ 14] (γ 0) 0 [ρ 0, ρ 1, ρ 2, ρ 3, ρ 4, ρ 5, ρ 6, ρ 7, ρ 8, ρ 9, ρ 10, ρ 11, ρ 12, ρ 13, ρ 14, ρ 15, ρ 16, ρ 17, ρ 18, ρ 19] (γ 1) := hJ
  obtain ⟨r0, r1, r2, r3, r4, r5, r6, r7, r8, r9, r10, r11, r12, r13, r14, r15, r16, r17, r18, r19, r20, r21, r22, r23, r24, r25, r26, r27, r28, r29, r30, r31, r32, r33, r34, r35, r36, -⟩ := hr
  have r0 : (0 : Int) ≤ ρ 0 ∧ ρ 0 ≤ 59 := r0
  have r1 : (0 : Int) ≤ ρ 1 ∧ ρ 1 ≤ 60 := r1
  have r2 : (0 : Int) ≤ ρ 2 ∧ ρ 2 ≤ 20 := r2
  have r3 : (2 : Int) ≤ ρ 3 ∧ ρ 3 ≤ 2 := r3
  have r4 : (0 : Int) ≤ ρ 4 ∧ ρ 4 ≤ 50001 := r4
  have r5 : (0 : Int) ≤ ρ 5 ∧ ρ 5 ≤ 3 := r5
  have r6 : (0 : Int) ≤ ρ 6 ∧ ρ 6 ≤ 2000 := r6
  have r7 : (0 : Int) ≤ ρ 7 ∧ ρ 7 ≤ 19 := r7
  have r8 : (0 : Int) ≤ ρ 8 ∧ ρ 8 ≤ 61 := r8
  have r9 : (0 : Int) ≤ ρ 9 ∧ ρ 9 ≤ 2000 := r9
  have r10 : ((-2147483648) : Int) ≤ ρ 10 ∧ ρ 10 ≤ 2147483647 := r10
  have r11 : (0 : Int) ≤ ρ 11 ∧ ρ 11 ≤ 2000 := r11
  have r12 : (0 : Int) ≤ ρ 12 ∧ ρ 12 ≤ 2000 := r12
  have r13 : (0 : Int) ≤ ρ 13 ∧ ρ 13 ≤ 2000 := r13
  have r14 : (0 : Int) ≤ ρ 14 ∧ ρ 14 ≤ 50001 := r14
  have r15 : (0 : Int) ≤ ρ 15 ∧ ρ 15 ≤ 2000 := r15
  have r16 : (0 : Int) ≤ ρ 16 ∧ ρ 16 ≤ 50001 := r16
  have r17 : (0 : Int) ≤ ρ 17 ∧ ρ 17 ≤ 0 := r17
  have r18 : (0 : Int) ≤ ρ 18 ∧ ρ 18 ≤ 2000 := r18
  have r19 : (0 : Int) ≤ ρ 19 ∧ ρ 19 ≤ 2000 := r19
  have r20 : ((-2147483648) : Int) ≤ ρ 20 ∧ ρ 20 ≤ 2147483647 := r20
  have r21 : (4 : Int) ≤ ρ 21 ∧ ρ 21 ≤ 4 := r21
  have r22 : (0 : Int) ≤ ρ 22 ∧ ρ 22 ≤ 2 := r22
  have r23 : ((-2147483648) : Int) ≤ ρ 23 ∧ ρ 23 ≤ 1099511640064 := r23
  have r24 : (0 : Int) ≤ ρ 24 ∧ ρ 24 ≤ 2 := r24
  have r25 : ((-2147483648) : Int) ≤ ρ 25 ∧ ρ 25 ≤ 1099511640064 := r25
  have r26 : (3 : Int) ≤ ρ 26 ∧ ρ 26 ≤ 3 := r26
  have r27 : (0 : Int) ≤ ρ 27 ∧ ρ 27 ≤ 2 := r27
  have r28 : ((-2147483648) : Int) ≤ ρ 28 ∧ ρ 28 ≤ 1099511640064 := r28
  have r29 : (0 : Int) ≤ ρ 29 ∧ ρ 29 ≤ 8 := r29
  have r30 : ((-1) : Int) ≤ ρ 30 ∧ ρ 30 ≤ 1999 := r30
  have r31 : (0 : Int) ≤ ρ 31 ∧ ρ 31 ≤ 1999 := r31
  have r32 : (1 : Int) ≤ ρ 32 ∧ ρ 32 ≤ 2000 := r32
  have r33 : (0 : Int) ≤ ρ 33 ∧ ρ 33 ≤ 8 := r33
  have r34 : ((-1) : Int) ≤ ρ 34 ∧ ρ 34 ≤ 1999 := r34
  have r35 : (0 : Int) ≤ ρ 35 ∧ ρ 35 ≤ 1999 := r35
  have r36 : (0 : Int) ≤ ρ 36 ∧ ρ 36 ≤ 3 := r36
  obtain ⟨f0, f1, f2, f3, f4, f5, f6, f7, f8, f9, -⟩ := hf
  have f0 : (0 : Int) ≤ -ρ 7 + ρ 2 + (-1) := f0
  have f1 : (0 : Int) ≤ ρ 32 + -ρ 19 := f1
  have f2 : (0 : Int) ≤ ρ 34 + -ρ 30 := f2
  have f3 : (0 : Int) ≤ ρ 18 + -ρ 15 + (-1) := f3
  have f4 : (0 : Int) ≤ ρ 17 + -ρ 16 + 50000 := f4
  have f5 : (0 : Int) ≤ ρ 1 + -ρ 0 + (-1) := f5
  have f6 : (0 : Int) ≤ ρ 19 + -ρ 9 := f6
  have f7 : (0 : Int) ≤ ρ 18 + -ρ 15 := f7
  have f8 : (0 : Int) ≤ ρ 17 + -ρ 5 := f8
  have f9 : (0 : Int) ≤ ρ 16 + -ρ 4 := f9
  obtain ⟨m0, m1, m2, m3, m4, m5, m6, m7, m8, m9, m10, m11, m12, m13, m14, m15, m16, m17, m18, m19, m20, m21, m22, m23, m24, m25, m26, m27, m28, m29, m30, m31, m32, m33, m34, m35, -⟩ := hm
  have m0 : γ 0 15 0 32 = ρ 1 := m0
  have m1 : γ 0 15 0 13 = ρ 2 := m1
  have m2 : γ 0 71 0 (ρ 0) = ρ 3 := m2
  have m3 : γ 0 15 0 72 = ρ 4 := m3
  have m4 : γ 0 15 0 77 = ρ 5 := m4
  have m5 : γ 0 15 0 90 = ρ 6 := m5
  have m6 : γ 0 69 0 (ρ 0) = ρ 7 := m6
  have m7 : γ 0 15 0 44 = ρ 8 := m7
  have m8 : γ 0 15 0 71 = ρ 9 := m8
  have m9 : γ 0 15 0 76 = ρ 10 := m9
  have m10 : γ 0 15 0 81 = ρ 11 := m10
  have m11 : γ 0 15 0 82 = ρ 12 := m11
  have m12 : γ 0 15 0 83 = ρ 13 := m12
  have m13 : γ 0 15 0 94 = ρ 14 := m13
  have m14 : γ 1 15 0 72 = ρ 16 := m14
  have m15 : γ 1 15 0 77 = ρ 17 := m15
  have m16 : γ 1 15 0 90 = ρ 18 := m16
  have m17 : γ 1 15 0 71 = ρ 19 := m17
  have m18 : γ 1 15 0 81 = ρ 9 := m18
  have m19 : γ 1 107 0 (ρ 15) = ρ 20 := m19
  have m20 : γ 0 66 0 (ρ 7) = ρ 21 := m20
  have m21 : γ 0 70 0 (4 * ρ 0) = ρ 22 := m21
  have m22 : γ 1 105 0 (4 * ρ 15) = ρ 23 := m22
  have m23 : γ 0 70 0 (4 * ρ 0 + 1) = ρ 24 := m23
  have m24 : γ 1 105 0 (4 * ρ 15 + 1) = ρ 25 := m24
  have m25 : γ 0 70 0 (4 * ρ 0 + 2) = ρ 26 := m25
  have m26 : γ 0 70 0 (4 * ρ 0 + 3) = ρ 27 := m26
  have m27 : γ 1 105 0 (4 * ρ 15 + 3) = ρ 28 := m27
  have m28 : γ 1 97 0 (ρ 19) = ρ 29 := m28
  have m29 : γ 1 100 0 (ρ 7) = ρ 30 := m29
  have m30 : γ 1 101 0 (ρ 7) = ρ 31 := m30
  have m31 : γ 6 15 0 71 = ρ 32 := m31
  have m32 : γ 6 97 0 (ρ 19) = ρ 33 := m32
  have m33 : γ 6 100 0 (ρ 7) = ρ 34 := m33
  have m34 : γ 6 101 0 (ρ 7) = ρ 35 := m34
  have m35 : γ 6 15 0 77 = ρ 36 := m35
  obtain ⟨⟨⟨⟨⟨⟨-, c1⟩, c2⟩, c3⟩, c4⟩, c5⟩, c6⟩ := hc
  have c1 : ∀ (G : Nat) (k j : Int), ¬ rMdP m51_ G j → γ 1 G k j = γ 0 G k j := c1
  have c2 : γ 2 = rUp (γ 1) 102 0 0 (ρ 23) := c2
  have c3 : γ 3 = rUp (γ 2) 102 0 1 (ρ 25) := c3
  have c4 : γ 4 = rUp (γ 3) 102 0 2 (ρ 20) := c4
  have c5 : γ 5 = rUp (γ 4) 102 0 3 (ρ 28) := c5
  have c6 : ∀ (G : Nat) (k j : Int), ¬ rMdP m40_ G j → γ 6 G k j = γ 5 G k j := c6
  obtain ⟨l0, -⟩ := hl
  have l0 : sn57 [ρ 7, ρ 0, ρ 2, ρ 19, ρ 29, ρ 30, ρ 31, ρ 10, ρ 17] (γ 5) 0 0 (γ 6) := hS57 _ _ _ _ _ l0
  show jn75 [ρ 0, ρ 1, ρ 2, ρ 3, ρ 4, ρ 5, ρ 6, ρ 7, ρ 8, ρ 9, ρ 10, ρ 11, ρ 12, ρ 13, ρ 14] (γ 0) 0 [ρ 0, ρ 1, ρ 2, ρ 3, ρ 4, ρ 5, ρ 6, ρ 7, ρ 8, ρ 9, ρ 10, ρ 11, ρ 12, ρ 13, ρ 14, ρ 15 + 1, ρ 16, ρ 36, ρ 18, ρ 32] (γ 6)
  have hD : en75 (γ 0) (0, [ρ 0, ρ 15], γ 1) = .inl (0, [ρ 0, ρ 15 + 1], γ 6) := by
    unfold en75
    refine (if_pos (show (0 : Nat) = 0 by decide)).trans ?_
    refine (zLet_eq (show _ = γ 1 from rfl)).trans ?_
    refine (zLet_eq (show _ = ρ 0 from rfl)).trans ?_
    refine (zLet_eq (show _ = ρ 15 from rfl)).trans ?_
    refine (zLet_eq m2).trans ?_
    refine (zLet_eq m6).trans ?_
    refine (zLet_eq m15).trans ?_
    refine (zLet_eq m16).trans ?_
    refine (if_neg (show ¬ (ρ 15 ≥ ρ 18) by omega)).trans ?_
    refine (if_neg (show ¬ (ρ 17 ≠ 0) by omega)).trans ?_
    refine (if_pos (show ρ 3 ≤ 2 by omega)).trans ?_
    refine (if_pos (show ρ 3 ≠ 1 by omega)).trans ?_
    refine (zLet_eq m19).trans ?_
    refine (zLet_eq m20).trans ?_
    refine (if_neg (show ¬ (0 ≥ ρ 21) by omega)).trans ?_
    refine (zLet_eq m21).trans ?_
    refine (if_pos (show ρ 22 ≠ 3 by omega)).trans ?_
    refine (zLet_eq m22).trans ?_
    refine (zLet_eq c2.symm).trans ?_
    refine (if_neg (show ¬ (1 ≥ ρ 21) by omega)).trans ?_
    refine (zLet_eq m23).trans ?_
    refine (if_pos (show ρ 24 ≠ 3 by omega)).trans ?_
    refine (zLet_eq m24).trans ?_
    refine (zLet_eq c3.symm).trans ?_
    refine (if_neg (show ¬ (2 ≥ ρ 21) by omega)).trans ?_
    refine (zLet_eq m25).trans ?_
    refine (if_neg (show ¬ (ρ 26 ≠ 3) by omega)).trans ?_
    refine (zLet_eq c4.symm).trans ?_
    refine (if_neg (show ¬ (3 ≥ ρ 21) by omega)).trans ?_
    refine (zLet_eq m26).trans ?_
    refine (if_pos (show ρ 27 ≠ 3 by omega)).trans ?_
    refine (zLet_eq m27).trans ?_
    refine (zLet_eq c5.symm).trans ?_
    refine (zLet_eq (show fn57 [ρ 7, ρ 0] (γ 5) = (0, 0, γ 6) from l0.symm)).trans ?_
    refine (zLet_eq (show _ = γ 6 from rfl)).trans ?_
    rfl
  exact zGoo_ato hJ hD
theorem vn75a0_10 {S : Nat → zSpc} (hS57 : ∀ x g o v gz, S 57 x g o v gz → sn57 x g o v gz) (hS73 : ∀ x g o v gz, S 73 x g o v gz → sn73 x g o v gz) {a : List Int} {g : rHp} : ∀ (ρ : Nat → Int) (γ : Nat → rHp), jn75 a g 0 (zAg (zNA a75_ 0) ρ) (γ 1) → zO 15 S a g q75a0_10 ρ γ → zGl (fun i vs g1 => jn75 a g i vs g1) (sn75 a g) q75a0_10 ρ γ := by
  intro ρ γ hJ h
  obtain ⟨ha, hg, hr, hf, hm, hc, hl⟩ := h
  have ha : a = [ρ 0, ρ 1, ρ 2, ρ 3, ρ 4, ρ 5, ρ 6, ρ 7, ρ 8, ρ 9, ρ 10, ρ 11, ρ 12, ρ 13, ρ 14] := ha
  subst ha
  subst hg
  have hJ : jn75 [ρ 0, ρ 1, ρ 2, ρ 3, ρ 4, ρ 5, ρ 6, ρ 7, ρ 8, ρ 9, ρ 10, ρ 11, ρ 12, ρ 13, ρ 14] (γ 0) 0 [ρ 0, ρ 1, ρ 2, ρ 3, ρ 4, ρ 5, ρ 6, ρ 7, ρ 8, ρ 9, ρ 10, ρ 11, ρ 12, ρ 13, ρ 14, ρ 15, ρ 16, ρ 17, ρ 18, ρ 19] (γ 1) := hJ
  obtain ⟨r0, r1, r2, r3, r4, r5, r6, r7, r8, r9, r10, r11, r12, r13, r14, r15, r16, r17, r18, r19, r20, r21, r22, r23, r24, r25, r26, r27, r28, r29, r30, r31, r32, r33, r34, r35, -⟩ := hr
  have r0 : (0 : Int) ≤ ρ 0 ∧ ρ 0 ≤ 59 := r0
  have r1 : (0 : Int) ≤ ρ 1 ∧ ρ 1 ≤ 60 := r1
  have r2 : (0 : Int) ≤ ρ 2 ∧ ρ 2 ≤ 20 := r2
  have r3 : (2 : Int) ≤ ρ 3 ∧ ρ 3 ≤ 2 := r3
  have r4 : (0 : Int) ≤ ρ 4 ∧ ρ 4 ≤ 50001 := r4
  have r5 : (0 : Int) ≤ ρ 5 ∧ ρ 5 ≤ 3 := r5
  have r6 : (0 : Int) ≤ ρ 6 ∧ ρ 6 ≤ 2000 := r6
  have r7 : (0 : Int) ≤ ρ 7 ∧ ρ 7 ≤ 19 := r7
  have r8 : (0 : Int) ≤ ρ 8 ∧ ρ 8 ≤ 61 := r8
  have r9 : (0 : Int) ≤ ρ 9 ∧ ρ 9 ≤ 2000 := r9
  have r10 : ((-2147483648) : Int) ≤ ρ 10 ∧ ρ 10 ≤ 2147483647 := r10
  have r11 : (0 : Int) ≤ ρ 11 ∧ ρ 11 ≤ 2000 := r11
  have r12 : (0 : Int) ≤ ρ 12 ∧ ρ 12 ≤ 2000 := r12
  have r13 : (0 : Int) ≤ ρ 13 ∧ ρ 13 ≤ 2000 := r13
  have r14 : (0 : Int) ≤ ρ 14 ∧ ρ 14 ≤ 50001 := r14
  have r15 : (0 : Int) ≤ ρ 15 ∧ ρ 15 ≤ 2000 := r15
  have r16 : (0 : Int) ≤ ρ 16 ∧ ρ 16 ≤ 50001 := r16
  have r17 : (0 : Int) ≤ ρ 17 ∧ ρ 17 ≤ 0 := r17
  have r18 : (0 : Int) ≤ ρ 18 ∧ ρ 18 ≤ 2000 := r18
  have r19 : (0 : Int) ≤ ρ 19 ∧ ρ 19 ≤ 2000 := r19
  have r20 : ((-2147483648) : Int) ≤ ρ 20 ∧ ρ 20 ≤ 2147483647 := r20
  have r21 : (4 : Int) ≤ ρ 21 ∧ ρ 21 ≤ 4 := r21
  have r22 : (0 : Int) ≤ ρ 22 ∧ ρ 22 ≤ 2 := r22
  have r23 : ((-2147483648) : Int) ≤ ρ 23 ∧ ρ 23 ≤ 1099511640064 := r23
  have r24 : (0 : Int) ≤ ρ 24 ∧ ρ 24 ≤ 2 := r24
  have r25 : ((-2147483648) : Int) ≤ ρ 25 ∧ ρ 25 ≤ 1099511640064 := r25
  have r26 : (3 : Int) ≤ ρ 26 ∧ ρ 26 ≤ 3 := r26
  have r27 : (3 : Int) ≤ ρ 27 ∧ ρ 27 ≤ 3 := r27
  have r28 : (0 : Int) ≤ ρ 28 ∧ ρ 28 ≤ 8 := r28
  have r29 : ((-1) : Int) ≤ ρ 29 ∧ ρ 29 ≤ 1999 := r29
  have r30 : (0 : Int) ≤ ρ 30 ∧ ρ 30 ≤ 1999 := r30
  have r31 : (1 : Int) ≤ ρ 31 ∧ ρ 31 ≤ 2000 := r31
  have r32 : (0 : Int) ≤ ρ 32 ∧ ρ 32 ≤ 8 := r32
  have r33 : ((-1) : Int) ≤ ρ 33 ∧ ρ 33 ≤ 1999 := r33
  have r34 : (0 : Int) ≤ ρ 34 ∧ ρ 34 ≤ 1999 := r34
  have r35 : (0 : Int) ≤ ρ 35 ∧ ρ 35 ≤ 3 := r35
  obtain ⟨f0, f1, f2, f3, f4, f5, f6, f7, f8, f9, -⟩ := hf
  have f0 : (0 : Int) ≤ -ρ 7 + ρ 2 + (-1) := f0
  have f1 : (0 : Int) ≤ ρ 31 + -ρ 19 := f1
  have f2 : (0 : Int) ≤ ρ 33 + -ρ 29 := f2
  have f3 : (0 : Int) ≤ ρ 18 + -ρ 15 + (-1) := f3
  have f4 : (0 : Int) ≤ ρ 17 + -ρ 16 + 50000 := f4
  have f5 : (0 : Int) ≤ ρ 1 + -ρ 0 + (-1) := f5
  have f6 : (0 : Int) ≤ ρ 19 + -ρ 9 := f6
  have f7 : (0 : Int) ≤ ρ 18 + -ρ 15 := f7
  have f8 : (0 : Int) ≤ ρ 17 + -ρ 5 := f8
  have f9 : (0 : Int) ≤ ρ 16 + -ρ 4 := f9
  obtain ⟨m0, m1, m2, m3, m4, m5, m6, m7, m8, m9, m10, m11, m12, m13, m14, m15, m16, m17, m18, m19, m20, m21, m22, m23, m24, m25, m26, m27, m28, m29, m30, m31, m32, m33, m34, -⟩ := hm
  have m0 : γ 0 15 0 32 = ρ 1 := m0
  have m1 : γ 0 15 0 13 = ρ 2 := m1
  have m2 : γ 0 71 0 (ρ 0) = ρ 3 := m2
  have m3 : γ 0 15 0 72 = ρ 4 := m3
  have m4 : γ 0 15 0 77 = ρ 5 := m4
  have m5 : γ 0 15 0 90 = ρ 6 := m5
  have m6 : γ 0 69 0 (ρ 0) = ρ 7 := m6
  have m7 : γ 0 15 0 44 = ρ 8 := m7
  have m8 : γ 0 15 0 71 = ρ 9 := m8
  have m9 : γ 0 15 0 76 = ρ 10 := m9
  have m10 : γ 0 15 0 81 = ρ 11 := m10
  have m11 : γ 0 15 0 82 = ρ 12 := m11
  have m12 : γ 0 15 0 83 = ρ 13 := m12
  have m13 : γ 0 15 0 94 = ρ 14 := m13
  have m14 : γ 1 15 0 72 = ρ 16 := m14
  have m15 : γ 1 15 0 77 = ρ 17 := m15
  have m16 : γ 1 15 0 90 = ρ 18 := m16
  have m17 : γ 1 15 0 71 = ρ 19 := m17
  have m18 : γ 1 15 0 81 = ρ 9 := m18
  have m19 : γ 1 107 0 (ρ 15) = ρ 20 := m19
  have m20 : γ 0 66 0 (ρ 7) = ρ 21 := m20
  have m21 : γ 0 70 0 (4 * ρ 0) = ρ 22 := m21
  have m22 : γ 1 105 0 (4 * ρ 15) = ρ 23 := m22
  have m23 : γ 0 70 0 (4 * ρ 0 + 1) = ρ 24 := m23
  have m24 : γ 1 105 0 (4 * ρ 15 + 1) = ρ 25 := m24
  have m25 : γ 0 70 0 (4 * ρ 0 + 2) = ρ 26 := m25
  have m26 : γ 0 70 0 (4 * ρ 0 + 3) = ρ 27 := m26
  have m27 : γ 1 97 0 (ρ 19) = ρ 28 := m27
  have m28 : γ 1 100 0 (ρ 7) = ρ 29 := m28
  have m29 : γ 1 101 0 (ρ 7) = ρ 30 := m29
  have m30 : γ 6 15 0 71 = ρ 31 := m30
  have m31 : γ 6 97 0 (ρ 19) = ρ 32 := m31
  have m32 : γ 6 100 0 (ρ 7) = ρ 33 := m32
  have m33 : γ 6 101 0 (ρ 7) = ρ 34 := m33
  have m34 : γ 6 15 0 77 = ρ 35 := m34
  obtain ⟨⟨⟨⟨⟨⟨-, c1⟩, c2⟩, c3⟩, c4⟩, c5⟩, c6⟩ := hc
  have c1 : ∀ (G : Nat) (k j : Int), ¬ rMdP m51_ G j → γ 1 G k j = γ 0 G k j := c1
  have c2 : γ 2 = rUp (γ 1) 102 0 0 (ρ 23) := c2
  have c3 : γ 3 = rUp (γ 2) 102 0 1 (ρ 25) := c3
  have c4 : γ 4 = rUp (γ 3) 102 0 2 (ρ 20) := c4
  have c5 : γ 5 = rUp (γ 4) 102 0 3 (ρ 20) := c5
  have c6 : ∀ (G : Nat) (k j : Int), ¬ rMdP m40_ G j → γ 6 G k j = γ 5 G k j := c6
  obtain ⟨l0, -⟩ := hl
  have l0 : sn57 [ρ 7, ρ 0, ρ 2, ρ 19, ρ 28, ρ 29, ρ 30, ρ 10, ρ 17] (γ 5) 0 0 (γ 6) := hS57 _ _ _ _ _ l0
  show jn75 [ρ 0, ρ 1, ρ 2, ρ 3, ρ 4, ρ 5, ρ 6, ρ 7, ρ 8, ρ 9, ρ 10, ρ 11, ρ 12, ρ 13, ρ 14] (γ 0) 0 [ρ 0, ρ 1, ρ 2, ρ 3, ρ 4, ρ 5, ρ 6, ρ 7, ρ 8, ρ 9, ρ 10, ρ 11, ρ 12, ρ 13, ρ 14, ρ 15 + 1, ρ 16, ρ 35, ρ 18, ρ 31] (γ 6)
  have hD : en75 (γ 0) (0, [ρ 0, ρ 15], γ 1) = .inl (0, [ρ 0, ρ 15 + 1], γ 6) := by
    unfold en75
    refine (if_pos (show (0 : Nat) = 0 by decide)).trans ?_
    refine (zLet_eq (show _ = γ 1 from rfl)).trans ?_
    refine (zLet_eq (show _ = ρ 0 from rfl)).trans ?_
    refine (zLet_eq (show _ = ρ 15 from rfl)).trans ?_
    refine (zLet_eq m2).trans ?_
    refine (zLet_eq m6).trans ?_
    refine (zLet_eq m15).trans ?_
    refine (zLet_eq m16).trans ?_
    refine (if_neg (show ¬ (ρ 15 ≥ ρ 18) by omega)).trans ?_
    refine (if_neg (show ¬ (ρ 17 ≠ 0) by omega)).trans ?_
    refine (if_pos (show ρ 3 ≤ 2 by omega)).trans ?_
    refine (if_pos (show ρ 3 ≠ 1 by omega)).trans ?_
    refine (zLet_eq m19).trans ?_
    refine (zLet_eq m20).trans ?_
    refine (if_neg (show ¬ (0 ≥ ρ 21) by omega)).trans ?_
    refine (zLet_eq m21).trans ?_
    refine (if_pos (show ρ 22 ≠ 3 by omega)).trans ?_
    refine (zLet_eq m22).trans ?_
    refine (zLet_eq c2.symm).trans ?_
    refine (if_neg (show ¬ (1 ≥ ρ 21) by omega)).trans ?_
    refine (zLet_eq m23).trans ?_
    refine (if_pos (show ρ 24 ≠ 3 by omega)).trans ?_
    refine (zLet_eq m24).trans ?_
    refine (zLet_eq c3.symm).trans ?_
    refine (if_neg (show ¬ (2 ≥ ρ 21) by omega)).trans ?_
    refine (zLet_eq m25).trans ?_
    refine (if_neg (show ¬ (ρ 26 ≠ 3) by omega)).trans ?_
    refine (zLet_eq c4.symm).trans ?_
    refine (if_neg (show ¬ (3 ≥ ρ 21) by omega)).trans ?_
    refine (zLet_eq m26).trans ?_
    refine (if_neg (show ¬ (ρ 27 ≠ 3) by omega)).trans ?_
    refine (zLet_eq c5.symm).trans ?_
    refine (zLet_eq (show fn57 [ρ 7, ρ 0] (γ 5) = (0, 0, γ 6) from l0.symm)).trans ?_
    refine (zLet_eq (show _ = γ 6 from rfl)).trans ?_
    rfl
  exact zGoo_ato hJ hD
theorem vn75a0_11 {S : Nat → zSpc} (hS57 : ∀ x g o v gz, S 57 x g o v gz → sn57 x g o v gz) (hS73 : ∀ x g o v gz, S 73 x g o v gz → sn73 x g o v gz) {a : List Int} {g : rHp} : ∀ (ρ : Nat → Int) (γ : Nat → rHp), jn75 a g 0 (zAg (zNA a75_ 0) ρ) (γ 1) → zO 15 S a g q75a0_11 ρ γ → zGl (fun i vs g1 => jn75 a g i vs g1) (sn75 a g) q75a0_11 ρ γ := by
  intro ρ γ hJ h
  obtain ⟨ha, hg, hr, hf, hm, hc, hl⟩ := h
  have ha : a = [ρ 0, ρ 1, ρ 2, ρ 3, ρ 4, ρ 5, ρ 6, ρ 7, ρ 8, ρ 9, ρ 10, ρ 11, ρ 12, ρ 13, ρ 14] := ha
  subst ha
  subst hg
  have hJ : jn75 [ρ 0, ρ 1, ρ 2, ρ 3, ρ 4, ρ 5, ρ 6, ρ 7, ρ 8, ρ 9, ρ 10, ρ 11, ρ 12, ρ 13, ρ 14] (γ 0) 0 [ρ 0, ρ 1, ρ 2, ρ 3, ρ 4, ρ 5, ρ 6, ρ 7, ρ 8, ρ 9, ρ 10, ρ 11, ρ 12, ρ 13, ρ 14, ρ 15, ρ 16, ρ 17, ρ 18, ρ 19] (γ 1) := hJ
  obtain ⟨r0, r1, r2, r3, r4, r5, r6, r7, r8, r9, r10, r11, r12, r13, r14, r15, r16, r17, r18, r19, r20, r21, r22, r23, r24, r25, r26, r27, r28, r29, r30, r31, r32, r33, r34, -⟩ := hr
  have r0 : (0 : Int) ≤ ρ 0 ∧ ρ 0 ≤ 59 := r0
  have r1 : (0 : Int) ≤ ρ 1 ∧ ρ 1 ≤ 60 := r1
  have r2 : (0 : Int) ≤ ρ 2 ∧ ρ 2 ≤ 20 := r2
  have r3 : (2 : Int) ≤ ρ 3 ∧ ρ 3 ≤ 2 := r3
  have r4 : (0 : Int) ≤ ρ 4 ∧ ρ 4 ≤ 50001 := r4
  have r5 : (0 : Int) ≤ ρ 5 ∧ ρ 5 ≤ 3 := r5
  have r6 : (0 : Int) ≤ ρ 6 ∧ ρ 6 ≤ 2000 := r6
  have r7 : (0 : Int) ≤ ρ 7 ∧ ρ 7 ≤ 19 := r7
  have r8 : (0 : Int) ≤ ρ 8 ∧ ρ 8 ≤ 61 := r8
  have r9 : (0 : Int) ≤ ρ 9 ∧ ρ 9 ≤ 2000 := r9
  have r10 : ((-2147483648) : Int) ≤ ρ 10 ∧ ρ 10 ≤ 2147483647 := r10
  have r11 : (0 : Int) ≤ ρ 11 ∧ ρ 11 ≤ 2000 := r11
  have r12 : (0 : Int) ≤ ρ 12 ∧ ρ 12 ≤ 2000 := r12
  have r13 : (0 : Int) ≤ ρ 13 ∧ ρ 13 ≤ 2000 := r13
  have r14 : (0 : Int) ≤ ρ 14 ∧ ρ 14 ≤ 50001 := r14
  have r15 : (0 : Int) ≤ ρ 15 ∧ ρ 15 ≤ 2000 := r15
  have r16 : (0 : Int) ≤ ρ 16 ∧ ρ 16 ≤ 50001 := r16
  have r17 : (0 : Int) ≤ ρ 17 ∧ ρ 17 ≤ 0 := r17
  have r18 : (0 : Int) ≤ ρ 18 ∧ ρ 18 ≤ 2000 := r18
  have r19 : (0 : Int) ≤ ρ 19 ∧ ρ 19 ≤ 2000 := r19
  have r20 : ((-2147483648) : Int) ≤ ρ 20 ∧ ρ 20 ≤ 2147483647 := r20
  have r21 : (2 : Int) ≤ ρ 21 ∧ ρ 21 ≤ 2 := r21
  have r22 : (0 : Int) ≤ ρ 22 ∧ ρ 22 ≤ 2 := r22
  have r23 : ((-2147483648) : Int) ≤ ρ 23 ∧ ρ 23 ≤ 1099511640064 := r23
  have r24 : (3 : Int) ≤ ρ 24 ∧ ρ 24 ≤ 3 := r24
  have r25 : ((-2147483648) : Int) ≤ ρ 25 ∧ ρ 25 ≤ 1099511640064 := r25
  have r26 : ((-2147483648) : Int) ≤ ρ 26 ∧ ρ 26 ≤ 1099511640064 := r26
  have r27 : (0 : Int) ≤ ρ 27 ∧ ρ 27 ≤ 8 := r27
  have r28 : ((-1) : Int) ≤ ρ 28 ∧ ρ 28 ≤ 1999 := r28
  have r29 : (0 : Int) ≤ ρ 29 ∧ ρ 29 ≤ 1999 := r29
  have r30 : (1 : Int) ≤ ρ 30 ∧ ρ 30 ≤ 2000 := r30
  have r31 : (0 : Int) ≤ ρ 31 ∧ ρ 31 ≤ 8 := r31
  have r32 : ((-1) : Int) ≤ ρ 32 ∧ ρ 32 ≤ 1999 := r32
  have r33 : (0 : Int) ≤ ρ 33 ∧ ρ 33 ≤ 1999 := r33
  have r34 : (0 : Int) ≤ ρ 34 ∧ ρ 34 ≤ 3 := r34
  obtain ⟨f0, f1, f2, f3, f4, f5, f6, f7, f8, f9, -⟩ := hf
  have f0 : (0 : Int) ≤ -ρ 7 + ρ 2 + (-1) := f0
  have f1 : (0 : Int) ≤ ρ 30 + -ρ 19 := f1
  have f2 : (0 : Int) ≤ ρ 32 + -ρ 28 := f2
  have f3 : (0 : Int) ≤ ρ 18 + -ρ 15 + (-1) := f3
  have f4 : (0 : Int) ≤ ρ 17 + -ρ 16 + 50000 := f4
  have f5 : (0 : Int) ≤ ρ 1 + -ρ 0 + (-1) := f5
  have f6 : (0 : Int) ≤ ρ 19 + -ρ 9 := f6
  have f7 : (0 : Int) ≤ ρ 18 + -ρ 15 := f7
  have f8 : (0 : Int) ≤ ρ 17 + -ρ 5 := f8
  have f9 : (0 : Int) ≤ ρ 16 + -ρ 4 := f9
  obtain ⟨m0, m1, m2, m3, m4, m5, m6, m7, m8, m9, m10, m11, m12, m13, m14, m15, m16, m17, m18, m19, m20, m21, m22, m23, m24, m25, m26, m27, m28, m29, m30, m31, m32, m33, -⟩ := hm
  have m0 : γ 0 15 0 32 = ρ 1 := m0
  have m1 : γ 0 15 0 13 = ρ 2 := m1
  have m2 : γ 0 71 0 (ρ 0) = ρ 3 := m2
  have m3 : γ 0 15 0 72 = ρ 4 := m3
  have m4 : γ 0 15 0 77 = ρ 5 := m4
  have m5 : γ 0 15 0 90 = ρ 6 := m5
  have m6 : γ 0 69 0 (ρ 0) = ρ 7 := m6
  have m7 : γ 0 15 0 44 = ρ 8 := m7
  have m8 : γ 0 15 0 71 = ρ 9 := m8
  have m9 : γ 0 15 0 76 = ρ 10 := m9
  have m10 : γ 0 15 0 81 = ρ 11 := m10
  have m11 : γ 0 15 0 82 = ρ 12 := m11
  have m12 : γ 0 15 0 83 = ρ 13 := m12
  have m13 : γ 0 15 0 94 = ρ 14 := m13
  have m14 : γ 1 15 0 72 = ρ 16 := m14
  have m15 : γ 1 15 0 77 = ρ 17 := m15
  have m16 : γ 1 15 0 90 = ρ 18 := m16
  have m17 : γ 1 15 0 71 = ρ 19 := m17
  have m18 : γ 1 15 0 81 = ρ 9 := m18
  have m19 : γ 1 107 0 (ρ 15) = ρ 20 := m19
  have m20 : γ 0 66 0 (ρ 7) = ρ 21 := m20
  have m21 : γ 0 70 0 (4 * ρ 0) = ρ 22 := m21
  have m22 : γ 1 105 0 (4 * ρ 15) = ρ 23 := m22
  have m23 : γ 0 70 0 (4 * ρ 0 + 1) = ρ 24 := m23
  have m24 : γ 1 105 0 (4 * ρ 15 + 2) = ρ 25 := m24
  have m25 : γ 1 105 0 (4 * ρ 15 + 3) = ρ 26 := m25
  have m26 : γ 1 97 0 (ρ 19) = ρ 27 := m26
  have m27 : γ 1 100 0 (ρ 7) = ρ 28 := m27
  have m28 : γ 1 101 0 (ρ 7) = ρ 29 := m28
  have m29 : γ 6 15 0 71 = ρ 30 := m29
  have m30 : γ 6 97 0 (ρ 19) = ρ 31 := m30
  have m31 : γ 6 100 0 (ρ 7) = ρ 32 := m31
  have m32 : γ 6 101 0 (ρ 7) = ρ 33 := m32
  have m33 : γ 6 15 0 77 = ρ 34 := m33
  obtain ⟨⟨⟨⟨⟨⟨-, c1⟩, c2⟩, c3⟩, c4⟩, c5⟩, c6⟩ := hc
  have c1 : ∀ (G : Nat) (k j : Int), ¬ rMdP m51_ G j → γ 1 G k j = γ 0 G k j := c1
  have c2 : γ 2 = rUp (γ 1) 102 0 0 (ρ 23) := c2
  have c3 : γ 3 = rUp (γ 2) 102 0 1 (ρ 20) := c3
  have c4 : γ 4 = rUp (γ 3) 102 0 2 (ρ 25) := c4
  have c5 : γ 5 = rUp (γ 4) 102 0 3 (ρ 26) := c5
  have c6 : ∀ (G : Nat) (k j : Int), ¬ rMdP m40_ G j → γ 6 G k j = γ 5 G k j := c6
  obtain ⟨l0, -⟩ := hl
  have l0 : sn57 [ρ 7, ρ 0, ρ 2, ρ 19, ρ 27, ρ 28, ρ 29, ρ 10, ρ 17] (γ 5) 0 0 (γ 6) := hS57 _ _ _ _ _ l0
  show jn75 [ρ 0, ρ 1, ρ 2, ρ 3, ρ 4, ρ 5, ρ 6, ρ 7, ρ 8, ρ 9, ρ 10, ρ 11, ρ 12, ρ 13, ρ 14] (γ 0) 0 [ρ 0, ρ 1, ρ 2, ρ 3, ρ 4, ρ 5, ρ 6, ρ 7, ρ 8, ρ 9, ρ 10, ρ 11, ρ 12, ρ 13, ρ 14, ρ 15 + 1, ρ 16, ρ 34, ρ 18, ρ 30] (γ 6)
  have hD : en75 (γ 0) (0, [ρ 0, ρ 15], γ 1) = .inl (0, [ρ 0, ρ 15 + 1], γ 6) := by
    unfold en75
    refine (if_pos (show (0 : Nat) = 0 by decide)).trans ?_
    refine (zLet_eq (show _ = γ 1 from rfl)).trans ?_
    refine (zLet_eq (show _ = ρ 0 from rfl)).trans ?_
    refine (zLet_eq (show _ = ρ 15 from rfl)).trans ?_
    refine (zLet_eq m2).trans ?_
    refine (zLet_eq m6).trans ?_
    refine (zLet_eq m15).trans ?_
    refine (zLet_eq m16).trans ?_
    refine (if_neg (show ¬ (ρ 15 ≥ ρ 18) by omega)).trans ?_
    refine (if_neg (show ¬ (ρ 17 ≠ 0) by omega)).trans ?_
    refine (if_pos (show ρ 3 ≤ 2 by omega)).trans ?_
    refine (if_pos (show ρ 3 ≠ 1 by omega)).trans ?_
    refine (zLet_eq m19).trans ?_
    refine (zLet_eq m20).trans ?_
    refine (if_neg (show ¬ (0 ≥ ρ 21) by omega)).trans ?_
    refine (zLet_eq m21).trans ?_
    refine (if_pos (show ρ 22 ≠ 3 by omega)).trans ?_
    refine (zLet_eq m22).trans ?_
    refine (zLet_eq c2.symm).trans ?_
    refine (if_neg (show ¬ (1 ≥ ρ 21) by omega)).trans ?_
    refine (zLet_eq m23).trans ?_
    refine (if_neg (show ¬ (ρ 24 ≠ 3) by omega)).trans ?_
    refine (zLet_eq c3.symm).trans ?_
    refine (if_pos (show 2 ≥ ρ 21 by omega)).trans ?_
    refine (zLet_eq m24).trans ?_
    refine (zLet_eq c4.symm).trans ?_
    refine (zLet_eq m25).trans ?_
    refine (zLet_eq c5.symm).trans ?_
    refine (zLet_eq (show fn57 [ρ 7, ρ 0] (γ 5) = (0, 0, γ 6) from l0.symm)).trans ?_
    refine (zLet_eq (show _ = γ 6 from rfl)).trans ?_
    rfl
  exact zGoo_ato hJ hD
theorem vn75a0_12 {S : Nat → zSpc} (hS57 : ∀ x g o v gz, S 57 x g o v gz → sn57 x g o v gz) (hS73 : ∀ x g o v gz, S 73 x g o v gz → sn73 x g o v gz) {a : List Int} {g : rHp} : ∀ (ρ : Nat → Int) (γ : Nat → rHp), jn75 a g 0 (zAg (zNA a75_ 0) ρ) (γ 1) → zO 15 S a g q75a0_12 ρ γ → zGl (fun i vs g1 => jn75 a g i vs g1) (sn75 a g) q75a0_12 ρ γ := by
  intro ρ γ hJ h
  obtain ⟨ha, hg, hr, hf, hm, hc, hl⟩ := h
  have ha : a = [ρ 0, ρ 1, ρ 2, ρ 3, ρ 4, ρ 5, ρ 6, ρ 7, ρ 8, ρ 9, ρ 10, ρ 11, ρ 12, ρ 13, ρ 14] := ha
  subst ha
  subst hg
  have hJ : jn75 [ρ 0, ρ 1, ρ 2, ρ 3, ρ 4, ρ 5, ρ 6, ρ 7, ρ 8, ρ 9, ρ 10, ρ 11, ρ 12, ρ 13, ρ 14] (γ 0) 0 [ρ 0, ρ 1, ρ 2, ρ 3, ρ 4, ρ 5, ρ 6, ρ 7, ρ 8, ρ 9, ρ 10, ρ 11, ρ 12, ρ 13, ρ 14, ρ 15, ρ 16, ρ 17, ρ 18, ρ 19] (γ 1) := hJ
  obtain ⟨r0, r1, r2, r3, r4, r5, r6, r7, r8, r9, r10, r11, r12, r13, r14, r15, r16, r17, r18, r19, r20, r21, r22, r23, r24, r25, r26, r27, r28, r29, r30, r31, r32, r33, r34, r35, -⟩ := hr
  have r0 : (0 : Int) ≤ ρ 0 ∧ ρ 0 ≤ 59 := r0
  have r1 : (0 : Int) ≤ ρ 1 ∧ ρ 1 ≤ 60 := r1
  have r2 : (0 : Int) ≤ ρ 2 ∧ ρ 2 ≤ 20 := r2
  have r3 : (2 : Int) ≤ ρ 3 ∧ ρ 3 ≤ 2 := r3
  have r4 : (0 : Int) ≤ ρ 4 ∧ ρ 4 ≤ 50001 := r4
  have r5 : (0 : Int) ≤ ρ 5 ∧ ρ 5 ≤ 3 := r5
  have r6 : (0 : Int) ≤ ρ 6 ∧ ρ 6 ≤ 2000 := r6
  have r7 : (0 : Int) ≤ ρ 7 ∧ ρ 7 ≤ 19 := r7
  have r8 : (0 : Int) ≤ ρ 8 ∧ ρ 8 ≤ 61 := r8
  have r9 : (0 : Int) ≤ ρ 9 ∧ ρ 9 ≤ 2000 := r9
  have r10 : ((-2147483648) : Int) ≤ ρ 10 ∧ ρ 10 ≤ 2147483647 := r10
  have r11 : (0 : Int) ≤ ρ 11 ∧ ρ 11 ≤ 2000 := r11
  have r12 : (0 : Int) ≤ ρ 12 ∧ ρ 12 ≤ 2000 := r12
  have r13 : (0 : Int) ≤ ρ 13 ∧ ρ 13 ≤ 2000 := r13
  have r14 : (0 : Int) ≤ ρ 14 ∧ ρ 14 ≤ 50001 := r14
  have r15 : (0 : Int) ≤ ρ 15 ∧ ρ 15 ≤ 2000 := r15
  have r16 : (0 : Int) ≤ ρ 16 ∧ ρ 16 ≤ 50001 := r16
  have r17 : (0 : Int) ≤ ρ 17 ∧ ρ 17 ≤ 0 := r17
  have r18 : (0 : Int) ≤ ρ 18 ∧ ρ 18 ≤ 2000 := r18
  have r19 : (0 : Int) ≤ ρ 19 ∧ ρ 19 ≤ 2000 := r19
  have r20 : ((-2147483648) : Int) ≤ ρ 20 ∧ ρ 20 ≤ 2147483647 := r20
  have r21 : (3 : Int) ≤ ρ 21 ∧ ρ 21 ≤ 3 := r21
  have r22 : (0 : Int) ≤ ρ 22 ∧ ρ 22 ≤ 2 := r22
  have r23 : ((-2147483648) : Int) ≤ ρ 23 ∧ ρ 23 ≤ 1099511640064 := r23
  have r24 : (3 : Int) ≤ ρ 24 ∧ ρ 24 ≤ 3 := r24
  have r25 : (0 : Int) ≤ ρ 25 ∧ ρ 25 ≤ 2 := r25
  have r26 : ((-2147483648) : Int) ≤ ρ 26 ∧ ρ 26 ≤ 1099511640064 := r26
  have r27 : ((-2147483648) : Int) ≤ ρ 27 ∧ ρ 27 ≤ 1099511640064 := r27
  have r28 : (0 : Int) ≤ ρ 28 ∧ ρ 28 ≤ 8 := r28
  have r29 : ((-1) : Int) ≤ ρ 29 ∧ ρ 29 ≤ 1999 := r29
  have r30 : (0 : Int) ≤ ρ 30 ∧ ρ 30 ≤ 1999 := r30
  have r31 : (1 : Int) ≤ ρ 31 ∧ ρ 31 ≤ 2000 := r31
  have r32 : (0 : Int) ≤ ρ 32 ∧ ρ 32 ≤ 8 := r32
  have r33 : ((-1) : Int) ≤ ρ 33 ∧ ρ 33 ≤ 1999 := r33
  have r34 : (0 : Int) ≤ ρ 34 ∧ ρ 34 ≤ 1999 := r34
  have r35 : (0 : Int) ≤ ρ 35 ∧ ρ 35 ≤ 3 := r35
  obtain ⟨f0, f1, f2, f3, f4, f5, f6, f7, f8, f9, -⟩ := hf
  have f0 : (0 : Int) ≤ -ρ 7 + ρ 2 + (-1) := f0
  have f1 : (0 : Int) ≤ ρ 31 + -ρ 19 := f1
  have f2 : (0 : Int) ≤ ρ 33 + -ρ 29 := f2
  have f3 : (0 : Int) ≤ ρ 18 + -ρ 15 + (-1) := f3
  have f4 : (0 : Int) ≤ ρ 17 + -ρ 16 + 50000 := f4
  have f5 : (0 : Int) ≤ ρ 1 + -ρ 0 + (-1) := f5
  have f6 : (0 : Int) ≤ ρ 19 + -ρ 9 := f6
  have f7 : (0 : Int) ≤ ρ 18 + -ρ 15 := f7
  have f8 : (0 : Int) ≤ ρ 17 + -ρ 5 := f8
  have f9 : (0 : Int) ≤ ρ 16 + -ρ 4 := f9
  obtain ⟨m0, m1, m2, m3, m4, m5, m6, m7, m8, m9, m10, m11, m12, m13, m14, m15, m16, m17, m18, m19, m20, m21, m22, m23, m24, m25, m26, m27, m28, m29, m30, m31, m32, m33, m34, -⟩ := hm
  have m0 : γ 0 15 0 32 = ρ 1 := m0
  have m1 : γ 0 15 0 13 = ρ 2 := m1
  have m2 : γ 0 71 0 (ρ 0) = ρ 3 := m2
  have m3 : γ 0 15 0 72 = ρ 4 := m3
  have m4 : γ 0 15 0 77 = ρ 5 := m4
  have m5 : γ 0 15 0 90 = ρ 6 := m5
  have m6 : γ 0 69 0 (ρ 0) = ρ 7 := m6
  have m7 : γ 0 15 0 44 = ρ 8 := m7
  have m8 : γ 0 15 0 71 = ρ 9 := m8
  have m9 : γ 0 15 0 76 = ρ 10 := m9
  have m10 : γ 0 15 0 81 = ρ 11 := m10
  have m11 : γ 0 15 0 82 = ρ 12 := m11
  have m12 : γ 0 15 0 83 = ρ 13 := m12
  have m13 : γ 0 15 0 94 = ρ 14 := m13
  have m14 : γ 1 15 0 72 = ρ 16 := m14
  have m15 : γ 1 15 0 77 = ρ 17 := m15
  have m16 : γ 1 15 0 90 = ρ 18 := m16
  have m17 : γ 1 15 0 71 = ρ 19 := m17
  have m18 : γ 1 15 0 81 = ρ 9 := m18
  have m19 : γ 1 107 0 (ρ 15) = ρ 20 := m19
  have m20 : γ 0 66 0 (ρ 7) = ρ 21 := m20
  have m21 : γ 0 70 0 (4 * ρ 0) = ρ 22 := m21
  have m22 : γ 1 105 0 (4 * ρ 15) = ρ 23 := m22
  have m23 : γ 0 70 0 (4 * ρ 0 + 1) = ρ 24 := m23
  have m24 : γ 0 70 0 (4 * ρ 0 + 2) = ρ 25 := m24
  have m25 : γ 1 105 0 (4 * ρ 15 + 2) = ρ 26 := m25
  have m26 : γ 1 105 0 (4 * ρ 15 + 3) = ρ 27 := m26
  have m27 : γ 1 97 0 (ρ 19) = ρ 28 := m27
  have m28 : γ 1 100 0 (ρ 7) = ρ 29 := m28
  have m29 : γ 1 101 0 (ρ 7) = ρ 30 := m29
  have m30 : γ 6 15 0 71 = ρ 31 := m30
  have m31 : γ 6 97 0 (ρ 19) = ρ 32 := m31
  have m32 : γ 6 100 0 (ρ 7) = ρ 33 := m32
  have m33 : γ 6 101 0 (ρ 7) = ρ 34 := m33
  have m34 : γ 6 15 0 77 = ρ 35 := m34
  obtain ⟨⟨⟨⟨⟨⟨-, c1⟩, c2⟩, c3⟩, c4⟩, c5⟩, c6⟩ := hc
  have c1 : ∀ (G : Nat) (k j : Int), ¬ rMdP m51_ G j → γ 1 G k j = γ 0 G k j := c1
  have c2 : γ 2 = rUp (γ 1) 102 0 0 (ρ 23) := c2
  have c3 : γ 3 = rUp (γ 2) 102 0 1 (ρ 20) := c3
  have c4 : γ 4 = rUp (γ 3) 102 0 2 (ρ 26) := c4
  have c5 : γ 5 = rUp (γ 4) 102 0 3 (ρ 27) := c5
  have c6 : ∀ (G : Nat) (k j : Int), ¬ rMdP m40_ G j → γ 6 G k j = γ 5 G k j := c6
  obtain ⟨l0, -⟩ := hl
  have l0 : sn57 [ρ 7, ρ 0, ρ 2, ρ 19, ρ 28, ρ 29, ρ 30, ρ 10, ρ 17] (γ 5) 0 0 (γ 6) := hS57 _ _ _ _ _ l0
  show jn75 [ρ 0, ρ 1, ρ 2, ρ 3, ρ 4, ρ 5, ρ 6, ρ 7, ρ 8, ρ 9, ρ 10, ρ 11, ρ 12, ρ 13, ρ 14] (γ 0) 0 [ρ 0, ρ 1, ρ 2, ρ 3, ρ 4, ρ 5, ρ 6, ρ 7, ρ 8, ρ 9, ρ 10, ρ 11, ρ 12, ρ 13, ρ 14, ρ 15 + 1, ρ 16, ρ 35, ρ 18, ρ 31] (γ 6)
  have hD : en75 (γ 0) (0, [ρ 0, ρ 15], γ 1) = .inl (0, [ρ 0, ρ 15 + 1], γ 6) := by
    unfold en75
    refine (if_pos (show (0 : Nat) = 0 by decide)).trans ?_
    refine (zLet_eq (show _ = γ 1 from rfl)).trans ?_
    refine (zLet_eq (show _ = ρ 0 from rfl)).trans ?_
    refine (zLet_eq (show _ = ρ 15 from rfl)).trans ?_
    refine (zLet_eq m2).trans ?_
    refine (zLet_eq m6).trans ?_
    refine (zLet_eq m15).trans ?_
    refine (zLet_eq m16).trans ?_
    refine (if_neg (show ¬ (ρ 15 ≥ ρ 18) by omega)).trans ?_
    refine (if_neg (show ¬ (ρ 17 ≠ 0) by omega)).trans ?_
    refine (if_pos (show ρ 3 ≤ 2 by omega)).trans ?_
    refine (if_pos (show ρ 3 ≠ 1 by omega)).trans ?_
    refine (zLet_eq m19).trans ?_
    refine (zLet_eq m20).trans ?_
    refine (if_neg (show ¬ (0 ≥ ρ 21) by omega)).trans ?_
    refine (zLet_eq m21).trans ?_
    refine (if_pos (show ρ 22 ≠ 3 by omega)).trans ?_
    refine (zLet_eq m22).trans ?_
    refine (zLet_eq c2.symm).trans ?_
    refine (if_neg (show ¬ (1 ≥ ρ 21) by omega)).trans ?_
    refine (zLet_eq m23).trans ?_
    refine (if_neg (show ¬ (ρ 24 ≠ 3) by omega)).trans ?_
    refine (zLet_eq c3.symm).trans ?_
    refine (if_neg (show ¬ (2 ≥ ρ 21) by omega)).trans ?_
    refine (zLet_eq m24).trans ?_
    refine (if_pos (show ρ 25 ≠ 3 by omega)).trans ?_
    refine (zLet_eq m25).trans ?_
    refine (zLet_eq c4.symm).trans ?_
    refine (if_pos (show 3 ≥ ρ 21 by omega)).trans ?_
    refine (zLet_eq m26).trans ?_
    refine (zLet_eq c5.symm).trans ?_
    refine (zLet_eq (show fn57 [ρ 7, ρ 0] (γ 5) = (0, 0, γ 6) from l0.symm)).trans ?_
    refine (zLet_eq (show _ = γ 6 from rfl)).trans ?_
    rfl
  exact zGoo_ato hJ hD
theorem vn75a0_13 {S : Nat → zSpc} (hS57 : ∀ x g o v gz, S 57 x g o v gz → sn57 x g o v gz) (hS73 : ∀ x g o v gz, S 73 x g o v gz → sn73 x g o v gz) {a : List Int} {g : rHp} : ∀ (ρ : Nat → Int) (γ : Nat → rHp), jn75 a g 0 (zAg (zNA a75_ 0) ρ) (γ 1) → zO 15 S a g q75a0_13 ρ γ → zGl (fun i vs g1 => jn75 a g i vs g1) (sn75 a g) q75a0_13 ρ γ := by
  intro ρ γ hJ h
  obtain ⟨ha, hg, hr, hf, hm, hc, hl⟩ := h
  have ha : a = [ρ 0, ρ 1, ρ 2, ρ 3, ρ 4, ρ 5, ρ 6, ρ 7, ρ 8, ρ 9, ρ 10, ρ 11, ρ 12, ρ 13, ρ 14] := ha
  subst ha
  subst hg
  have hJ : jn75 [ρ 0, ρ 1, ρ 2, ρ 3, ρ 4, ρ 5, ρ 6, ρ 7, ρ 8, ρ 9, ρ 10, ρ 11, ρ 12, ρ 13, ρ 14] (γ 0) 0 [ρ 0, ρ 1, ρ 2, ρ 3, ρ 4, ρ 5, ρ 6, ρ 7, ρ 8, ρ 9, ρ 10, ρ 11, ρ 12, ρ 13, ρ 14, ρ 15, ρ 16, ρ 17, ρ 18, ρ 19] (γ 1) := hJ
  obtain ⟨r0, r1, r2, r3, r4, r5, r6, r7, r8, r9, r10, r11, r12, r13, r14, r15, r16, r17, r18, r19, r20, r21, r22, r23, r24, r25, r26, r27, r28, r29, r30, r31, r32, r33, r34, r35, r36, -⟩ := hr
  have r0 : (0 : Int) ≤ ρ 0 ∧ ρ 0 ≤ 59 := r0
  have r1 : (0 : Int) ≤ ρ 1 ∧ ρ 1 ≤ 60 := r1
  have r2 : (0 : Int) ≤ ρ 2 ∧ ρ 2 ≤ 20 := r2
  have r3 : (2 : Int) ≤ ρ 3 ∧ ρ 3 ≤ 2 := r3
  have r4 : (0 : Int) ≤ ρ 4 ∧ ρ 4 ≤ 50001 := r4
  have r5 : (0 : Int) ≤ ρ 5 ∧ ρ 5 ≤ 3 := r5
  have r6 : (0 : Int) ≤ ρ 6 ∧ ρ 6 ≤ 2000 := r6
  have r7 : (0 : Int) ≤ ρ 7 ∧ ρ 7 ≤ 19 := r7
  have r8 : (0 : Int) ≤ ρ 8 ∧ ρ 8 ≤ 61 := r8
  have r9 : (0 : Int) ≤ ρ 9 ∧ ρ 9 ≤ 2000 := r9
  have r10 : ((-2147483648) : Int) ≤ ρ 10 ∧ ρ 10 ≤ 2147483647 := r10
  have r11 : (0 : Int) ≤ ρ 11 ∧ ρ 11 ≤ 2000 := r11
  have r12 : (0 : Int) ≤ ρ 12 ∧ ρ 12 ≤ 2000 := r12
  have r13 : (0 : Int) ≤ ρ 13 ∧ ρ 13 ≤ 2000 := r13
  have r14 : (0 : Int) ≤ ρ 14 ∧ ρ 14 ≤ 50001 := r14
  have r15 : (0 : Int) ≤ ρ 15 ∧ ρ 15 ≤ 2000 := r15
  have r16 : (0 : Int) ≤ ρ 16 ∧ ρ 16 ≤ 50001 := r16
  have r17 : (0 : Int) ≤ ρ 17 ∧ ρ 17 ≤ 0 := r17
  have r18 : (0 : Int) ≤ ρ 18 ∧ ρ 18 ≤ 2000 := r18
  have r19 : (0 : Int) ≤ ρ 19 ∧ ρ 19 ≤ 2000 := r19
  have r20 : ((-2147483648) : Int) ≤ ρ 20 ∧ ρ 20 ≤ 2147483647 := r20
  have r21 : (4 : Int) ≤ ρ 21 ∧ ρ 21 ≤ 4 := r21
  have r22 : (0 : Int) ≤ ρ 22 ∧ ρ 22 ≤ 2 := r22
  have r23 : ((-2147483648) : Int) ≤ ρ 23 ∧ ρ 23 ≤ 1099511640064 := r23
  have r24 : (3 : Int) ≤ ρ 24 ∧ ρ 24 ≤ 3 := r24
  have r25 : (0 : Int) ≤ ρ 25 ∧ ρ 25 ≤ 2 := r25
  have r26 : ((-2147483648) : Int) ≤ ρ 26 ∧ ρ 26 ≤ 1099511640064 := r26
  have r27 : (0 : Int) ≤ ρ 27 ∧ ρ 27 ≤ 2 := r27
  have r28 : ((-2147483648) : Int) ≤ ρ 28 ∧ ρ 28 ≤ 1099511640064 := r28
  have r29 : (0 : Int) ≤ ρ 29 ∧ ρ 29 ≤ 8 := r29
  have r30 : ((-1) : Int) ≤ ρ 30 ∧ ρ 30 ≤ 1999 := r30
  have r31 : (0 : Int) ≤ ρ 31 ∧ ρ 31 ≤ 1999 := r31
  have r32 : (1 : Int) ≤ ρ 32 ∧ ρ 32 ≤ 2000 := r32
  have r33 : (0 : Int) ≤ ρ 33 ∧ ρ 33 ≤ 8 := r33
  have r34 : ((-1) : Int) ≤ ρ 34 ∧ ρ 34 ≤ 1999 := r34
  have r35 : (0 : Int) ≤ ρ 35 ∧ ρ 35 ≤ 1999 := r35
  have r36 : (0 : Int) ≤ ρ 36 ∧ ρ 36 ≤ 3 := r36
  obtain ⟨f0, f1, f2, f3, f4, f5, f6, f7, f8, f9, -⟩ := hf
  have f0 : (0 : Int) ≤ -ρ 7 + ρ 2 + (-1) := f0
  have f1 : (0 : Int) ≤ ρ 32 + -ρ 19 := f1
  have f2 : (0 : Int) ≤ ρ 34 + -ρ 30 := f2
  have f3 : (0 : Int) ≤ ρ 18 + -ρ 15 + (-1) := f3
  have f4 : (0 : Int) ≤ ρ 17 + -ρ 16 + 50000 := f4
  have f5 : (0 : Int) ≤ ρ 1 + -ρ 0 + (-1) := f5
  have f6 : (0 : Int) ≤ ρ 19 + -ρ 9 := f6
  have f7 : (0 : Int) ≤ ρ 18 + -ρ 15 := f7
  have f8 : (0 : Int) ≤ ρ 17 + -ρ 5 := f8
  have f9 : (0 : Int) ≤ ρ 16 + -ρ 4 := f9
  obtain ⟨m0, m1, m2, m3, m4, m5, m6, m7, m8, m9, m10, m11, m12, m13, m14, m15, m16, m17, m18, m19, m20, m21, m22, m23, m24, m25, m26, m27, m28, m29, m30, m31, m32, m33, m34, m35, -⟩ := hm
  have m0 : γ 0 15 0 32 = ρ 1 := m0
  have m1 : γ 0 15 0 13 = ρ 2 := m1
  have m2 : γ 0 71 0 (ρ 0) = ρ 3 := m2
  have m3 : γ 0 15 0 72 = ρ 4 := m3
  have m4 : γ 0 15 0 77 = ρ 5 := m4
  have m5 : γ 0 15 0 90 = ρ 6 := m5
  have m6 : γ 0 69 0 (ρ 0) = ρ 7 := m6
  have m7 : γ 0 15 0 44 = ρ 8 := m7
  have m8 : γ 0 15 0 71 = ρ 9 := m8
  have m9 : γ 0 15 0 76 = ρ 10 := m9
  have m10 : γ 0 15 0 81 = ρ 11 := m10
  have m11 : γ 0 15 0 82 = ρ 12 := m11
  have m12 : γ 0 15 0 83 = ρ 13 := m12
  have m13 : γ 0 15 0 94 = ρ 14 := m13
  have m14 : γ 1 15 0 72 = ρ 16 := m14
  have m15 : γ 1 15 0 77 = ρ 17 := m15
  have m16 : γ 1 15 0 90 = ρ 18 := m16
  have m17 : γ 1 15 0 71 = ρ 19 := m17
  have m18 : γ 1 15 0 81 = ρ 9 := m18
  have m19 : γ 1 107 0 (ρ 15) = ρ 20 := m19
  have m20 : γ 0 66 0 (ρ 7) = ρ 21 := m20
  have m21 : γ 0 70 0 (4 * ρ 0) = ρ 22 := m21
  have m22 : γ 1 105 0 (4 * ρ 15) = ρ 23 := m22
  have m23 : γ 0 70 0 (4 * ρ 0 + 1) = ρ 24 := m23
  have m24 : γ 0 70 0 (4 * ρ 0 + 2) = ρ 25 := m24
  have m25 : γ 1 105 0 (4 * ρ 15 + 2) = ρ 26 := m25
  have m26 : γ 0 70 0 (4 * ρ 0 + 3) = ρ 27 := m26
  have m27 : γ 1 105 0 (4 * ρ 15 + 3) = ρ 28 := m27
  have m28 : γ 1 97 0 (ρ 19) = ρ 29 := m28
  have m29 : γ 1 100 0 (ρ 7) = ρ 30 := m29
  have m30 : γ 1 101 0 (ρ 7) = ρ 31 := m30
  have m31 : γ 6 15 0 71 = ρ 32 := m31
  have m32 : γ 6 97 0 (ρ 19) = ρ 33 := m32
  have m33 : γ 6 100 0 (ρ 7) = ρ 34 := m33
  have m34 : γ 6 101 0 (ρ 7) = ρ 35 := m34
  have m35 : γ 6 15 0 77 = ρ 36 := m35
  obtain ⟨⟨⟨⟨⟨⟨-, c1⟩, c2⟩, c3⟩, c4⟩, c5⟩, c6⟩ := hc
  have c1 : ∀ (G : Nat) (k j : Int), ¬ rMdP m51_ G j → γ 1 G k j = γ 0 G k j := c1
  have c2 : γ 2 = rUp (γ 1) 102 0 0 (ρ 23) := c2
  have c3 : γ 3 = rUp (γ 2) 102 0 1 (ρ 20) := c3
  have c4 : γ 4 = rUp (γ 3) 102 0 2 (ρ 26) := c4
  have c5 : γ 5 = rUp (γ 4) 102 0 3 (ρ 28) := c5
  have c6 : ∀ (G : Nat) (k j : Int), ¬ rMdP m40_ G j → γ 6 G k j = γ 5 G k j := c6
  obtain ⟨l0, -⟩ := hl
  have l0 : sn57 [ρ 7, ρ 0, ρ 2, ρ 19, ρ 29, ρ 30, ρ 31, ρ 10, ρ 17] (γ 5) 0 0 (γ 6) := hS57 _ _ _ _ _ l0
  show jn75 [ρ 0, ρ 1, ρ 2, ρ 3, ρ 4, ρ 5, ρ 6, ρ 7, ρ 8, ρ 9, ρ 10, ρ 11, ρ 12, ρ 13, ρ 14] (γ 0) 0 [ρ 0, ρ 1, ρ 2, ρ 3, ρ 4, ρ 5, ρ 6, ρ 7, ρ 8, ρ 9, ρ 10, ρ 11, ρ 12, ρ 13, ρ 14, ρ 15 + 1, ρ 16, ρ 36, ρ 18, ρ 32] (γ 6)
  have hD : en75 (γ 0) (0, [ρ 0, ρ 15], γ 1) = .inl (0, [ρ 0, ρ 15 + 1], γ 6) := by
    unfold en75
    refine (if_pos (show (0 : Nat) = 0 by decide)).trans ?_
    refine (zLet_eq (show _ = γ 1 from rfl)).trans ?_
    refine (zLet_eq (show _ = ρ 0 from rfl)).trans ?_
    refine (zLet_eq (show _ = ρ 15 from rfl)).trans ?_
    refine (zLet_eq m2).trans ?_
    refine (zLet_eq m6).trans ?_
    refine (zLet_eq m15).trans ?_
    refine (zLet_eq m16).trans ?_
    refine (if_neg (show ¬ (ρ 15 ≥ ρ 18) by omega)).trans ?_
    refine (if_neg (show ¬ (ρ 17 ≠ 0) by omega)).trans ?_
    refine (if_pos (show ρ 3 ≤ 2 by omega)).trans ?_
    refine (if_pos (show ρ 3 ≠ 1 by omega)).trans ?_
    refine (zLet_eq m19).trans ?_
    refine (zLet_eq m20).trans ?_
    refine (if_neg (show ¬ (0 ≥ ρ 21) by omega)).trans ?_
    refine (zLet_eq m21).trans ?_
    refine (if_pos (show ρ 22 ≠ 3 by omega)).trans ?_
    refine (zLet_eq m22).trans ?_
    refine (zLet_eq c2.symm).trans ?_
    refine (if_neg (show ¬ (1 ≥ ρ 21) by omega)).trans ?_
    refine (zLet_eq m23).trans ?_
    refine (if_neg (show ¬ (ρ 24 ≠ 3) by omega)).trans ?_
    refine (zLet_eq c3.symm).trans ?_
    refine (if_neg (show ¬ (2 ≥ ρ 21) by omega)).trans ?_
    refine (zLet_eq m24).trans ?_
    refine (if_pos (show ρ 25 ≠ 3 by omega)).trans ?_
    refine (zLet_eq m25).trans ?_
    refine (zLet_eq c4.symm).trans ?_
    refine (if_neg (show ¬ (3 ≥ ρ 21) by omega)).trans ?_
    refine (zLet_eq m26).trans ?_
    refine (if_pos (show ρ 27 ≠ 3 by omega)).trans ?_
    refine (zLet_eq m27).trans ?_
    refine (zLet_eq c5.symm).trans ?_
    refine (zLet_eq (show fn57 [ρ 7, ρ 0] (γ 5) = (0, 0, γ 6) from l0.symm)).trans ?_
    refine (zLet_eq (show _ = γ 6 from rfl)).trans ?_
    rfl
  exact zGoo_ato hJ hD
theorem vn75a0_14 {S : Nat → zSpc} (hS57 : ∀ x g o v gz, S 57 x g o v gz → sn57 x g o v gz) (hS73 : ∀ x g o v gz, S 73 x g o v gz → sn73 x g o v gz) {a : List Int} {g : rHp} : ∀ (ρ : Nat → Int) (γ : Nat → rHp), jn75 a g 0 (zAg (zNA a75_ 0) ρ) (γ 1) → zO 15 S a g q75a0_14 ρ γ → zGl (fun i vs g1 => jn75 a g i vs g1) (sn75 a g) q75a0_14 ρ γ := by
  intro ρ γ hJ h
  obtain ⟨ha, hg, hr, hf, hm, hc, hl⟩ := h
  have ha : a = [ρ 0, ρ 1, ρ 2, ρ 3, ρ 4, ρ 5, ρ 6, ρ 7, ρ 8, ρ 9, ρ 10, ρ 11, ρ 12, ρ 13, ρ 14] := ha
  subst ha
  subst hg
  have hJ : jn75 [ρ 0, ρ 1, ρ 2, ρ 3, ρ 4, ρ 5, ρ 6, ρ 7, ρ 8, ρ 9, ρ 10, ρ 11, ρ 12, ρ 13, ρ 14] (γ 0) 0 [ρ 0, ρ 1, ρ 2, ρ 3, ρ 4, ρ 5, ρ 6, ρ 7, ρ 8, ρ 9, ρ 10, ρ 11, ρ 12, ρ 13, ρ 14, ρ 15, ρ 16, ρ 17, ρ 18, ρ 19] (γ 1) := hJ
  obtain ⟨r0, r1, r2, r3, r4, r5, r6, r7, r8, r9, r10, r11, r12, r13, r14, r15, r16, r17, r18, r19, r20, r21, r22, r23, r24, r25, r26, r27, r28, r29, r30, r31, r32, r33, r34, r35, -⟩ := hr
  have r0 : (0 : Int) ≤ ρ 0 ∧ ρ 0 ≤ 59 := r0
  have r1 : (0 : Int) ≤ ρ 1 ∧ ρ 1 ≤ 60 := r1
  have r2 : (0 : Int) ≤ ρ 2 ∧ ρ 2 ≤ 20 := r2
  have r3 : (2 : Int) ≤ ρ 3 ∧ ρ 3 ≤ 2 := r3
  have r4 : (0 : Int) ≤ ρ 4 ∧ ρ 4 ≤ 50001 := r4
  have r5 : (0 : Int) ≤ ρ 5 ∧ ρ 5 ≤ 3 := r5
  have r6 : (0 : Int) ≤ ρ 6 ∧ ρ 6 ≤ 2000 := r6
  have r7 : (0 : Int) ≤ ρ 7 ∧ ρ 7 ≤ 19 := r7
  have r8 : (0 : Int) ≤ ρ 8 ∧ ρ 8 ≤ 61 := r8
  have r9 : (0 : Int) ≤ ρ 9 ∧ ρ 9 ≤ 2000 := r9
  have r10 : ((-2147483648) : Int) ≤ ρ 10 ∧ ρ 10 ≤ 2147483647 := r10
  have r11 : (0 : Int) ≤ ρ 11 ∧ ρ 11 ≤ 2000 := r11
  have r12 : (0 : Int) ≤ ρ 12 ∧ ρ 12 ≤ 2000 := r12
  have r13 : (0 : Int) ≤ ρ 13 ∧ ρ 13 ≤ 2000 := r13
  have r14 : (0 : Int) ≤ ρ 14 ∧ ρ 14 ≤ 50001 := r14
  have r15 : (0 : Int) ≤ ρ 15 ∧ ρ 15 ≤ 2000 := r15
  have r16 : (0 : Int) ≤ ρ 16 ∧ ρ 16 ≤ 50001 := r16
  have r17 : (0 : Int) ≤ ρ 17 ∧ ρ 17 ≤ 0 := r17
  have r18 : (0 : Int) ≤ ρ 18 ∧ ρ 18 ≤ 2000 := r18
  have r19 : (0 : Int) ≤ ρ 19 ∧ ρ 19 ≤ 2000 := r19
  have r20 : ((-2147483648) : Int) ≤ ρ 20 ∧ ρ 20 ≤ 2147483647 := r20
  have r21 : (4 : Int) ≤ ρ 21 ∧ ρ 21 ≤ 4 := r21
  have r22 : (0 : Int) ≤ ρ 22 ∧ ρ 22 ≤ 2 := r22
  have r23 : ((-2147483648) : Int) ≤ ρ 23 ∧ ρ 23 ≤ 1099511640064 := r23
  have r24 : (3 : Int) ≤ ρ 24 ∧ ρ 24 ≤ 3 := r24
  have r25 : (0 : Int) ≤ ρ 25 ∧ ρ 25 ≤ 2 := r25
  have r26 : ((-2147483648) : Int) ≤ ρ 26 ∧ ρ 26 ≤ 1099511640064 := r26
  have r27 : (3 : Int) ≤ ρ 27 ∧ ρ 27 ≤ 3 := r27
  have r28 : (0 : Int) ≤ ρ 28 ∧ ρ 28 ≤ 8 := r28
  have r29 : ((-1) : Int) ≤ ρ 29 ∧ ρ 29 ≤ 1999 := r29
  have r30 : (0 : Int) ≤ ρ 30 ∧ ρ 30 ≤ 1999 := r30
  have r31 : (1 : Int) ≤ ρ 31 ∧ ρ 31 ≤ 2000 := r31
  have r32 : (0 : Int) ≤ ρ 32 ∧ ρ 32 ≤ 8 := r32
  have r33 : ((-1) : Int) ≤ ρ 33 ∧ ρ 33 ≤ 1999 := r33
  have r34 : (0 : Int) ≤ ρ 34 ∧ ρ 34 ≤ 1999 := r34
  have r35 : (0 : Int) ≤ ρ 35 ∧ ρ 35 ≤ 3 := r35
  obtain ⟨f0, f1, f2, f3, f4, f5, f6, f7, f8, f9, -⟩ := hf
  have f0 : (0 : Int) ≤ -ρ 7 + ρ 2 + (-1) := f0
  have f1 : (0 : Int) ≤ ρ 31 + -ρ 19 := f1
  have f2 : (0 : Int) ≤ ρ 33 + -ρ 29 := f2
  have f3 : (0 : Int) ≤ ρ 18 + -ρ 15 + (-1) := f3
  have f4 : (0 : Int) ≤ ρ 17 + -ρ 16 + 50000 := f4
  have f5 : (0 : Int) ≤ ρ 1 + -ρ 0 + (-1) := f5
  have f6 : (0 : Int) ≤ ρ 19 + -ρ 9 := f6
  have f7 : (0 : Int) ≤ ρ 18 + -ρ 15 := f7
  have f8 : (0 : Int) ≤ ρ 17 + -ρ 5 := f8
  have f9 : (0 : Int) ≤ ρ 16 + -ρ 4 := f9
  obtain ⟨m0, m1, m2, m3, m4, m5, m6, m7, m8, m9, m10, m11, m12, m13, m14, m15, m16, m17, m18, m19, m20, m21, m22, m23, m24, m25, m26, m27, m28, m29, m30, m31, m32, m33, m34, -⟩ := hm
  have m0 : γ 0 15 0 32 = ρ 1 := m0
  have m1 : γ 0 15 0 13 = ρ 2 := m1
  have m2 : γ 0 71 0 (ρ 0) = ρ 3 := m2
  have m3 : γ 0 15 0 72 = ρ 4 := m3
  have m4 : γ 0 15 0 77 = ρ 5 := m4
  have m5 : γ 0 15 0 90 = ρ 6 := m5
  have m6 : γ 0 69 0 (ρ 0) = ρ 7 := m6
  have m7 : γ 0 15 0 44 = ρ 8 := m7
  have m8 : γ 0 15 0 71 = ρ 9 := m8
  have m9 : γ 0 15 0 76 = ρ 10 := m9
  have m10 : γ 0 15 0 81 = ρ 11 := m10
  have m11 : γ 0 15 0 82 = ρ 12 := m11
  have m12 : γ 0 15 0 83 = ρ 13 := m12
  have m13 : γ 0 15 0 94 = ρ 14 := m13
  have m14 : γ 1 15 0 72 = ρ 16 := m14
  have m15 : γ 1 15 0 77 = ρ 17 := m15
  have m16 : γ 1 15 0 90 = ρ 18 := m16
  have m17 : γ 1 15 0 71 = ρ 19 := m17
  have m18 : γ 1 15 0 81 = ρ 9 := m18
  have m19 : γ 1 107 0 (ρ 15) = ρ 20 := m19
  have m20 : γ 0 66 0 (ρ 7) = ρ 21 := m20
  have m21 : γ 0 70 0 (4 * ρ 0) = ρ 22 := m21
  have m22 : γ 1 105 0 (4 * ρ 15) = ρ 23 := m22
  have m23 : γ 0 70 0 (4 * ρ 0 + 1) = ρ 24 := m23
  have m24 : γ 0 70 0 (4 * ρ 0 + 2) = ρ 25 := m24
  have m25 : γ 1 105 0 (4 * ρ 15 + 2) = ρ 26 := m25
  have m26 : γ 0 70 0 (4 * ρ 0 + 3) = ρ 27 := m26
  have m27 : γ 1 97 0 (ρ 19) = ρ 28 := m27
  have m28 : γ 1 100 0 (ρ 7) = ρ 29 := m28
  have m29 : γ 1 101 0 (ρ 7) = ρ 30 := m29
  have m30 : γ 6 15 0 71 = ρ 31 := m30
  have m31 : γ 6 97 0 (ρ 19) = ρ 32 := m31
  have m32 : γ 6 100 0 (ρ 7) = ρ 33 := m32
  have m33 : γ 6 101 0 (ρ 7) = ρ 34 := m33
  have m34 : γ 6 15 0 77 = ρ 35 := m34
  obtain ⟨⟨⟨⟨⟨⟨-, c1⟩, c2⟩, c3⟩, c4⟩, c5⟩, c6⟩ := hc
  have c1 : ∀ (G : Nat) (k j : Int), ¬ rMdP m51_ G j → γ 1 G k j = γ 0 G k j := c1
  have c2 : γ 2 = rUp (γ 1) 102 0 0 (ρ 23) := c2
  have c3 : γ 3 = rUp (γ 2) 102 0 1 (ρ 20) := c3
  have c4 : γ 4 = rUp (γ 3) 102 0 2 (ρ 26) := c4
  have c5 : γ 5 = rUp (γ 4) 102 0 3 (ρ 20) := c5
  have c6 : ∀ (G : Nat) (k j : Int), ¬ rMdP m40_ G j → γ 6 G k j = γ 5 G k j := c6
  obtain ⟨l0, -⟩ := hl
  have l0 : sn57 [ρ 7, ρ 0, ρ 2, ρ 19, ρ 28, ρ 29, ρ 30, ρ 10, ρ 17] (γ 5) 0 0 (γ 6) := hS57 _ _ _ _ _ l0
  show jn75 [ρ 0, ρ 1, ρ 2, ρ 3, ρ 4, ρ 5, ρ 6, ρ 7, ρ 8, ρ 9, ρ 10, ρ 11, ρ 12, ρ 13, ρ 14] (γ 0) 0 [ρ 0, ρ 1, ρ 2, ρ 3, ρ 4, ρ 5, ρ 6, ρ 7, ρ 8, ρ 9, ρ 10, ρ 11, ρ 12, ρ 13, ρ 14, ρ 15 + 1, ρ 16, ρ 35, ρ 18, ρ 31] (γ 6)
  have hD : en75 (γ 0) (0, [ρ 0, ρ 15], γ 1) = .inl (0, [ρ 0, ρ 15 + 1], γ 6) := by
    unfold en75
    refine (if_pos (show (0 : Nat) = 0 by decide)).trans ?_
    refine (zLet_eq (show _ = γ 1 from rfl)).trans ?_
    refine (zLet_eq (show _ = ρ 0 from rfl)).trans ?_
    refine (zLet_eq (show _ = ρ 15 from rfl)).trans ?_
    refine (zLet_eq m2).trans ?_
    refine (zLet_eq m6).trans ?_
    refine (zLet_eq m15).trans ?_
    refine (zLet_eq m16).trans ?_
    refine (if_neg (show ¬ (ρ 15 ≥ ρ 18) by omega)).trans ?_
    refine (if_neg (show ¬ (ρ 17 ≠ 0) by omega)).trans ?_
    refine (if_pos (show ρ 3 ≤ 2 by omega)).trans ?_
    refine (if_pos (show ρ 3 ≠ 1 by omega)).trans ?_
    refine (zLet_eq m19).trans ?_
    refine (zLet_eq m20).trans ?_
    refine (if_neg (show ¬ (0 ≥ ρ 21) by omega)).trans ?_
    refine (zLet_eq m21).trans ?_
    refine (if_pos (show ρ 22 ≠ 3 by omega)).trans ?_
    refine (zLet_eq m22).trans ?_
    refine (zLet_eq c2.symm).trans ?_
    refine (if_neg (show ¬ (1 ≥ ρ 21) by omega)).trans ?_
    refine (zLet_eq m23).trans ?_
    refine (if_neg (show ¬ (ρ 24 ≠ 3) by omega)).trans ?_
    refine (zLet_eq c3.symm).trans ?_
    refine (if_neg (show ¬ (2 ≥ ρ 21) by omega)).trans ?_
    refine (zLet_eq m24).trans ?_
    refine (if_pos (show ρ 25 ≠ 3 by omega)).trans ?_
    refine (zLet_eq m25).trans ?_
    refine (zLet_eq c4.symm).trans ?_
    refine (if_neg (show ¬ (3 ≥ ρ 21) by omega)).trans ?_
    refine (zLet_eq m26).trans ?_
    refine (if_neg (show ¬ (ρ 27 ≠ 3) by omega)).trans ?_
    refine (zLet_eq c5.symm).trans ?_
    refine (zLet_eq (show fn57 [ρ 7, ρ 0] (γ 5) = (0, 0, γ 6) from l0.symm)).trans ?_
    refine (zLet_eq (show _ = γ 6 from rfl)).trans ?_
    rfl
  exact zGoo_ato hJ hD
theorem vn75a0_15 {S : Nat → zSpc} (hS57 : ∀ x g o v gz, S 57 x g o v gz → sn57 x g o v gz) (hS73 : ∀ x g o v gz, S 73 x g o v gz → sn73 x g o v gz) {a : List Int} {g : rHp} : ∀ (ρ : Nat → Int) (γ : Nat → rHp), jn75 a g 0 (zAg (zNA a75_ 0) ρ) (γ 1) → zO 15 S a g q75a0_15 ρ γ → zGl (fun i vs g1 => jn75 a g i vs g1) (sn75 a g) q75a0_15 ρ γ := by
  intro ρ γ hJ h
  obtain ⟨ha, hg, hr, hf, hm, hc, hl⟩ := h
  have ha : a = [ρ 0, ρ 1, ρ 2, ρ 3, ρ 4, ρ 5, ρ 6, ρ 7, ρ 8, ρ 9, ρ 10, ρ 11, ρ 12, ρ 13, ρ 14] := ha
  subst ha
  subst hg
  have hJ : jn75 [ρ 0, ρ 1, ρ 2, ρ 3, ρ 4, ρ 5, ρ 6, ρ 7, ρ 8, ρ 9, ρ 10, ρ 11, ρ 12, ρ 13, ρ 14] (γ 0) 0 [ρ 0, ρ 1, ρ 2, ρ 3, ρ 4, ρ 5, ρ 6, ρ 7, ρ 8, ρ 9, ρ 10, ρ 11, ρ 12, ρ 13, ρ 14, ρ 15, ρ 16, ρ 17, ρ 18, ρ 19] (γ 1) := hJ
  obtain ⟨r0, r1, r2, r3, r4, r5, r6, r7, r8, r9, r10, r11, r12, r13, r14, r15, r16, r17, r18, r19, r20, r21, r22, r23, r24, r25, r26, r27, r28, r29, r30, r31, r32, r33, r34, -⟩ := hr
  have r0 : (0 : Int) ≤ ρ 0 ∧ ρ 0 ≤ 59 := r0
  have r1 : (0 : Int) ≤ ρ 1 ∧ ρ 1 ≤ 60 := r1
  have r2 : (0 : Int) ≤ ρ 2 ∧ ρ 2 ≤ 20 := r2
  have r3 : (2 : Int) ≤ ρ 3 ∧ ρ 3 ≤ 2 := r3
  have r4 : (0 : Int) ≤ ρ 4 ∧ ρ 4 ≤ 50001 := r4
  have r5 : (0 : Int) ≤ ρ 5 ∧ ρ 5 ≤ 3 := r5
  have r6 : (0 : Int) ≤ ρ 6 ∧ ρ 6 ≤ 2000 := r6
  have r7 : (0 : Int) ≤ ρ 7 ∧ ρ 7 ≤ 19 := r7
  have r8 : (0 : Int) ≤ ρ 8 ∧ ρ 8 ≤ 61 := r8
  have r9 : (0 : Int) ≤ ρ 9 ∧ ρ 9 ≤ 2000 := r9
  have r10 : ((-2147483648) : Int) ≤ ρ 10 ∧ ρ 10 ≤ 2147483647 := r10
  have r11 : (0 : Int) ≤ ρ 11 ∧ ρ 11 ≤ 2000 := r11
  have r12 : (0 : Int) ≤ ρ 12 ∧ ρ 12 ≤ 2000 := r12
  have r13 : (0 : Int) ≤ ρ 13 ∧ ρ 13 ≤ 2000 := r13
  have r14 : (0 : Int) ≤ ρ 14 ∧ ρ 14 ≤ 50001 := r14
  have r15 : (0 : Int) ≤ ρ 15 ∧ ρ 15 ≤ 2000 := r15
  have r16 : (0 : Int) ≤ ρ 16 ∧ ρ 16 ≤ 50001 := r16
  have r17 : (0 : Int) ≤ ρ 17 ∧ ρ 17 ≤ 0 := r17
  have r18 : (0 : Int) ≤ ρ 18 ∧ ρ 18 ≤ 2000 := r18
  have r19 : (0 : Int) ≤ ρ 19 ∧ ρ 19 ≤ 2000 := r19
  have r20 : ((-2147483648) : Int) ≤ ρ 20 ∧ ρ 20 ≤ 2147483647 := r20
  have r21 : (3 : Int) ≤ ρ 21 ∧ ρ 21 ≤ 3 := r21
  have r22 : (0 : Int) ≤ ρ 22 ∧ ρ 22 ≤ 2 := r22
  have r23 : ((-2147483648) : Int) ≤ ρ 23 ∧ ρ 23 ≤ 1099511640064 := r23
  have r24 : (3 : Int) ≤ ρ 24 ∧ ρ 24 ≤ 3 := r24
  have r25 : (3 : Int) ≤ ρ 25 ∧ ρ 25 ≤ 3 := r25
  have r26 : ((-2147483648) : Int) ≤ ρ 26 ∧ ρ 26 ≤ 1099511640064 := r26
  have r27 : (0 : Int) ≤ ρ 27 ∧ ρ 27 ≤ 8 := r27
  have r28 : ((-1) : Int) ≤ ρ 28 ∧ ρ 28 ≤ 1999 := r28
  have r29 : (0 : Int) ≤ ρ 29 ∧ ρ 29 ≤ 1999 := r29
  have r30 : (1 : Int) ≤ ρ 30 ∧ ρ 30 ≤ 2000 := r30
  have r31 : (0 : Int) ≤ ρ 31 ∧ ρ 31 ≤ 8 := r31
  have r32 : ((-1) : Int) ≤ ρ 32 ∧ ρ 32 ≤ 1999 := r32
  have r33 : (0 : Int) ≤ ρ 33 ∧ ρ 33 ≤ 1999 := r33
  have r34 : (0 : Int) ≤ ρ 34 ∧ ρ 34 ≤ 3 := r34
  obtain ⟨f0, f1, f2, f3, f4, f5, f6, f7, f8, f9, -⟩ := hf
  have f0 : (0 : Int) ≤ -ρ 7 + ρ 2 + (-1) := f0
  have f1 : (0 : Int) ≤ ρ 30 + -ρ 19 := f1
  have f2 : (0 : Int) ≤ ρ 32 + -ρ 28 := f2
  have f3 : (0 : Int) ≤ ρ 18 + -ρ 15 + (-1) := f3
  have f4 : (0 : Int) ≤ ρ 17 + -ρ 16 + 50000 := f4
  have f5 : (0 : Int) ≤ ρ 1 + -ρ 0 + (-1) := f5
  have f6 : (0 : Int) ≤ ρ 19 + -ρ 9 := f6
  have f7 : (0 : Int) ≤ ρ 18 + -ρ 15 := f7
  have f8 : (0 : Int) ≤ ρ 17 + -ρ 5 := f8
  have f9 : (0 : Int) ≤ ρ 16 + -ρ 4 := f9
  obtain ⟨m0, m1, m2, m3, m4, m5, m6, m7, m8, m9, m10, m11, m12, m13, m14, m15, m16, m17, m18, m19, m20, m21, m22, m23, m24, m25, m26, m27, m28, m29, m30, m31, m32, m33, -⟩ := hm
  have m0 : γ 0 15 0 32 = ρ 1 := m0
  have m1 : γ 0 15 0 13 = ρ 2 := m1
  have m2 : γ 0 71 0 (ρ 0) = ρ 3 := m2
  have m3 : γ 0 15 0 72 = ρ 4 := m3
  have m4 : γ 0 15 0 77 = ρ 5 := m4
  have m5 : γ 0 15 0 90 = ρ 6 := m5
  have m6 : γ 0 69 0 (ρ 0) = ρ 7 := m6
  have m7 : γ 0 15 0 44 = ρ 8 := m7
  have m8 : γ 0 15 0 71 = ρ 9 := m8
  have m9 : γ 0 15 0 76 = ρ 10 := m9
  have m10 : γ 0 15 0 81 = ρ 11 := m10
  have m11 : γ 0 15 0 82 = ρ 12 := m11
  have m12 : γ 0 15 0 83 = ρ 13 := m12
  have m13 : γ 0 15 0 94 = ρ 14 := m13
  have m14 : γ 1 15 0 72 = ρ 16 := m14
  have m15 : γ 1 15 0 77 = ρ 17 := m15
  have m16 : γ 1 15 0 90 = ρ 18 := m16
  have m17 : γ 1 15 0 71 = ρ 19 := m17
  have m18 : γ 1 15 0 81 = ρ 9 := m18
  have m19 : γ 1 107 0 (ρ 15) = ρ 20 := m19
  have m20 : γ 0 66 0 (ρ 7) = ρ 21 := m20
  have m21 : γ 0 70 0 (4 * ρ 0) = ρ 22 := m21
  have m22 : γ 1 105 0 (4 * ρ 15) = ρ 23 := m22
  have m23 : γ 0 70 0 (4 * ρ 0 + 1) = ρ 24 := m23
  have m24 : γ 0 70 0 (4 * ρ 0 + 2) = ρ 25 := m24
  have m25 : γ 1 105 0 (4 * ρ 15 + 3) = ρ 26 := m25
  have m26 : γ 1 97 0 (ρ 19) = ρ 27 := m26
  have m27 : γ 1 100 0 (ρ 7) = ρ 28 := m27
  have m28 : γ 1 101 0 (ρ 7) = ρ 29 := m28
  have m29 : γ 6 15 0 71 = ρ 30 := m29
  have m30 : γ 6 97 0 (ρ 19) = ρ 31 := m30
  have m31 : γ 6 100 0 (ρ 7) = ρ 32 := m31
  have m32 : γ 6 101 0 (ρ 7) = ρ 33 := m32
  have m33 : γ 6 15 0 77 = ρ 34 := m33
  obtain ⟨⟨⟨⟨⟨⟨-, c1⟩, c2⟩, c3⟩, c4⟩, c5⟩, c6⟩ := hc
  have c1 : ∀ (G : Nat) (k j : Int), ¬ rMdP m51_ G j → γ 1 G k j = γ 0 G k j := c1
  have c2 : γ 2 = rUp (γ 1) 102 0 0 (ρ 23) := c2
  have c3 : γ 3 = rUp (γ 2) 102 0 1 (ρ 20) := c3
  have c4 : γ 4 = rUp (γ 3) 102 0 2 (ρ 20) := c4
  have c5 : γ 5 = rUp (γ 4) 102 0 3 (ρ 26) := c5
  have c6 : ∀ (G : Nat) (k j : Int), ¬ rMdP m40_ G j → γ 6 G k j = γ 5 G k j := c6
  obtain ⟨l0, -⟩ := hl
  have l0 : sn57 [ρ 7, ρ 0, ρ 2, ρ 19, ρ 27, ρ 28, ρ 29, ρ 10, ρ 17] (γ 5) 0 0 (γ 6) := hS57 _ _ _ _ _ l0
  show jn75 [ρ 0, ρ 1, ρ 2, ρ 3, ρ 4, ρ 5, ρ 6, ρ 7, ρ 8, ρ 9, ρ 10, ρ 11, ρ 12, ρ 13, ρ 14] (γ 0) 0 [ρ 0, ρ 1, ρ 2, ρ 3, ρ 4, ρ 5, ρ 6, ρ 7, ρ 8, ρ 9, ρ 10, ρ 11, ρ 12, ρ 13, ρ 14, ρ 15 + 1, ρ 16, ρ 34, ρ 18, ρ 30] (γ 6)
  have hD : en75 (γ 0) (0, [ρ 0, ρ 15], γ 1) = .inl (0, [ρ 0, ρ 15 + 1], γ 6) := by
    unfold en75
    refine (if_pos (show (0 : Nat) = 0 by decide)).trans ?_
    refine (zLet_eq (show _ = γ 1 from rfl)).trans ?_
    refine (zLet_eq (show _ = ρ 0 from rfl)).trans ?_
    refine (zLet_eq (show _ = ρ 15 from rfl)).trans ?_
    refine (zLet_eq m2).trans ?_
    refine (zLet_eq m6).trans ?_
    refine (zLet_eq m15).trans ?_
    refine (zLet_eq m16).trans ?_
    refine (if_neg (show ¬ (ρ 15 ≥ ρ 18) by omega)).trans ?_
    refine (if_neg (show ¬ (ρ 17 ≠ 0) by omega)).trans ?_
    refine (if_pos (show ρ 3 ≤ 2 by omega)).trans ?_
    refine (if_pos (show ρ 3 ≠ 1 by omega)).trans ?_
    refine (zLet_eq m19).trans ?_
    refine (zLet_eq m20).trans ?_
    refine (if_neg (show ¬ (0 ≥ ρ 21) by omega)).trans ?_
    refine (zLet_eq m21).trans ?_
    refine (if_pos (show ρ 22 ≠ 3 by omega)).trans ?_
    refine (zLet_eq m22).trans ?_
    refine (zLet_eq c2.symm).trans ?_
    refine (if_neg (show ¬ (1 ≥ ρ 21) by omega)).trans ?_
    refine (zLet_eq m23).trans ?_
    refine (if_neg (show ¬ (ρ 24 ≠ 3) by omega)).trans ?_
    refine (zLet_eq c3.symm).trans ?_
    refine (if_neg (show ¬ (2 ≥ ρ 21) by omega)).trans ?_
    refine (zLet_eq m24).trans ?_
    refine (if_neg (show ¬ (ρ 25 ≠ 3) by omega)).trans ?_
    refine (zLet_eq c4.symm).trans ?_
    refine (if_pos (show 3 ≥ ρ 21 by omega)).trans ?_
    refine (zLet_eq m25).trans ?_
    refine (zLet_eq c5.symm).trans ?_
    refine (zLet_eq (show fn57 [ρ 7, ρ 0] (γ 5) = (0, 0, γ 6) from l0.symm)).trans ?_
    refine (zLet_eq (show _ = γ 6 from rfl)).trans ?_
    rfl
  exact zGoo_ato hJ hD
theorem vn75a0_16 {S : Nat → zSpc} (hS57 : ∀ x g o v gz, S 57 x g o v gz → sn57 x g o v gz) (hS73 : ∀ x g o v gz, S 73 x g o v gz → sn73 x g o v gz) {a : List Int} {g : rHp} : ∀ (ρ : Nat → Int) (γ : Nat → rHp), jn75 a g 0 (zAg (zNA a75_ 0) ρ) (γ 1) → zO 15 S a g q75a0_16 ρ γ → zGl (fun i vs g1 => jn75 a g i vs g1) (sn75 a g) q75a0_16 ρ γ := by
  intro ρ γ hJ h
  obtain ⟨ha, hg, hr, hf, hm, hc, hl⟩ := h
  have ha : a = [ρ 0, ρ 1, ρ 2, ρ 3, ρ 4, ρ 5, ρ 6, ρ 7, ρ 8, ρ 9, ρ 10, ρ 11, ρ 12, ρ 13, ρ 14] := ha
  subst ha
  subst hg
  have hJ : jn75 [ρ 0, ρ 1, ρ 2, ρ 3, ρ 4, ρ 5, ρ 6, ρ 7, ρ 8, ρ 9, ρ 10, ρ 11, ρ 12, ρ 13, ρ 14] (γ 0) 0 [ρ 0, ρ 1, ρ 2, ρ 3, ρ 4, ρ 5, ρ 6, ρ 7, ρ 8, ρ 9, ρ 10, ρ 11, ρ 12, ρ 13, ρ 14, ρ 15, ρ 16, ρ 17, ρ 18, ρ 19] (γ 1) := hJ
  obtain ⟨r0, r1, r2, r3, r4, r5, r6, r7, r8, r9, r10, r11, r12, r13, r14, r15, r16, r17, r18, r19, r20, r21, r22, r23, r24, r25, r26, r27, r28, r29, r30, r31, r32, r33, r34, r35, -⟩ := hr
  have r0 : (0 : Int) ≤ ρ 0 ∧ ρ 0 ≤ 59 := r0
  have r1 : (0 : Int) ≤ ρ 1 ∧ ρ 1 ≤ 60 := r1
  have r2 : (0 : Int) ≤ ρ 2 ∧ ρ 2 ≤ 20 := r2
  have r3 : (2 : Int) ≤ ρ 3 ∧ ρ 3 ≤ 2 := r3
  have r4 : (0 : Int) ≤ ρ 4 ∧ ρ 4 ≤ 50001 := r4
  have r5 : (0 : Int) ≤ ρ 5 ∧ ρ 5 ≤ 3 := r5
  have r6 : (0 : Int) ≤ ρ 6 ∧ ρ 6 ≤ 2000 := r6
  have r7 : (0 : Int) ≤ ρ 7 ∧ ρ 7 ≤ 19 := r7
  have r8 : (0 : Int) ≤ ρ 8 ∧ ρ 8 ≤ 61 := r8
  have r9 : (0 : Int) ≤ ρ 9 ∧ ρ 9 ≤ 2000 := r9
  have r10 : ((-2147483648) : Int) ≤ ρ 10 ∧ ρ 10 ≤ 2147483647 := r10
  have r11 : (0 : Int) ≤ ρ 11 ∧ ρ 11 ≤ 2000 := r11
  have r12 : (0 : Int) ≤ ρ 12 ∧ ρ 12 ≤ 2000 := r12
  have r13 : (0 : Int) ≤ ρ 13 ∧ ρ 13 ≤ 2000 := r13
  have r14 : (0 : Int) ≤ ρ 14 ∧ ρ 14 ≤ 50001 := r14
  have r15 : (0 : Int) ≤ ρ 15 ∧ ρ 15 ≤ 2000 := r15
  have r16 : (0 : Int) ≤ ρ 16 ∧ ρ 16 ≤ 50001 := r16
  have r17 : (0 : Int) ≤ ρ 17 ∧ ρ 17 ≤ 0 := r17
  have r18 : (0 : Int) ≤ ρ 18 ∧ ρ 18 ≤ 2000 := r18
  have r19 : (0 : Int) ≤ ρ 19 ∧ ρ 19 ≤ 2000 := r19
  have r20 : ((-2147483648) : Int) ≤ ρ 20 ∧ ρ 20 ≤ 2147483647 := r20
  have r21 : (4 : Int) ≤ ρ 21 ∧ ρ 21 ≤ 4 := r21
  have r22 : (0 : Int) ≤ ρ 22 ∧ ρ 22 ≤ 2 := r22
  have r23 : ((-2147483648) : Int) ≤ ρ 23 ∧ ρ 23 ≤ 1099511640064 := r23
  have r24 : (3 : Int) ≤ ρ 24 ∧ ρ 24 ≤ 3 := r24
  have r25 : (3 : Int) ≤ ρ 25 ∧ ρ 25 ≤ 3 := r25
  have r26 : (0 : Int) ≤ ρ 26 ∧ ρ 26 ≤ 2 := r26
  have r27 : ((-2147483648) : Int) ≤ ρ 27 ∧ ρ 27 ≤ 1099511640064 := r27
  have r28 : (0 : Int) ≤ ρ 28 ∧ ρ 28 ≤ 8 := r28
  have r29 : ((-1) : Int) ≤ ρ 29 ∧ ρ 29 ≤ 1999 := r29
  have r30 : (0 : Int) ≤ ρ 30 ∧ ρ 30 ≤ 1999 := r30
  have r31 : (1 : Int) ≤ ρ 31 ∧ ρ 31 ≤ 2000 := r31
  have r32 : (0 : Int) ≤ ρ 32 ∧ ρ 32 ≤ 8 := r32
  have r33 : ((-1) : Int) ≤ ρ 33 ∧ ρ 33 ≤ 1999 := r33
  have r34 : (0 : Int) ≤ ρ 34 ∧ ρ 34 ≤ 1999 := r34
  have r35 : (0 : Int) ≤ ρ 35 ∧ ρ 35 ≤ 3 := r35
  obtain ⟨f0, f1, f2, f3, f4, f5, f6, f7, f8, f9, -⟩ := hf
  have f0 : (0 : Int) ≤ -ρ 7 + ρ 2 + (-1) := f0
  have f1 : (0 : Int) ≤ ρ 31 + -ρ 19 := f1
  have f2 : (0 : Int) ≤ ρ 33 + -ρ 29 := f2
  have f3 : (0 : Int) ≤ ρ 18 + -ρ 15 + (-1) := f3
  have f4 : (0 : Int) ≤ ρ 17 + -ρ 16 + 50000 := f4
  have f5 : (0 : Int) ≤ ρ 1 + -ρ 0 + (-1) := f5
  have f6 : (0 : Int) ≤ ρ 19 + -ρ 9 := f6
  have f7 : (0 : Int) ≤ ρ 18 + -ρ 15 := f7
  have f8 : (0 : Int) ≤ ρ 17 + -ρ 5 := f8
  have f9 : (0 : Int) ≤ ρ 16 + -ρ 4 := f9
  obtain ⟨m0, m1, m2, m3, m4, m5, m6, m7, m8, m9, m10, m11, m12, m13, m14, m15, m16, m17, m18, m19, m20, m21, m22, m23, m24, m25, m26, m27, m28, m29, m30, m31, m32, m33, m34, -⟩ := hm
  have m0 : γ 0 15 0 32 = ρ 1 := m0
  have m1 : γ 0 15 0 13 = ρ 2 := m1
  have m2 : γ 0 71 0 (ρ 0) = ρ 3 := m2
  have m3 : γ 0 15 0 72 = ρ 4 := m3
  have m4 : γ 0 15 0 77 = ρ 5 := m4
  have m5 : γ 0 15 0 90 = ρ 6 := m5
  have m6 : γ 0 69 0 (ρ 0) = ρ 7 := m6
  have m7 : γ 0 15 0 44 = ρ 8 := m7
  have m8 : γ 0 15 0 71 = ρ 9 := m8
  have m9 : γ 0 15 0 76 = ρ 10 := m9
  have m10 : γ 0 15 0 81 = ρ 11 := m10
  have m11 : γ 0 15 0 82 = ρ 12 := m11
  have m12 : γ 0 15 0 83 = ρ 13 := m12
  have m13 : γ 0 15 0 94 = ρ 14 := m13
  have m14 : γ 1 15 0 72 = ρ 16 := m14
  have m15 : γ 1 15 0 77 = ρ 17 := m15
  have m16 : γ 1 15 0 90 = ρ 18 := m16
  have m17 : γ 1 15 0 71 = ρ 19 := m17
  have m18 : γ 1 15 0 81 = ρ 9 := m18
  have m19 : γ 1 107 0 (ρ 15) = ρ 20 := m19
  have m20 : γ 0 66 0 (ρ 7) = ρ 21 := m20
  have m21 : γ 0 70 0 (4 * ρ 0) = ρ 22 := m21
  have m22 : γ 1 105 0 (4 * ρ 15) = ρ 23 := m22
  have m23 : γ 0 70 0 (4 * ρ 0 + 1) = ρ 24 := m23
  have m24 : γ 0 70 0 (4 * ρ 0 + 2) = ρ 25 := m24
  have m25 : γ 0 70 0 (4 * ρ 0 + 3) = ρ 26 := m25
  have m26 : γ 1 105 0 (4 * ρ 15 + 3) = ρ 27 := m26
  have m27 : γ 1 97 0 (ρ 19) = ρ 28 := m27
  have m28 : γ 1 100 0 (ρ 7) = ρ 29 := m28
  have m29 : γ 1 101 0 (ρ 7) = ρ 30 := m29
  have m30 : γ 6 15 0 71 = ρ 31 := m30
  have m31 : γ 6 97 0 (ρ 19) = ρ 32 := m31
  have m32 : γ 6 100 0 (ρ 7) = ρ 33 := m32
  have m33 : γ 6 101 0 (ρ 7) = ρ 34 := m33
  have m34 : γ 6 15 0 77 = ρ 35 := m34
  obtain ⟨⟨⟨⟨⟨⟨-, c1⟩, c2⟩, c3⟩, c4⟩, c5⟩, c6⟩ := hc
  have c1 : ∀ (G : Nat) (k j : Int), ¬ rMdP m51_ G j → γ 1 G k j = γ 0 G k j := c1
  have c2 : γ 2 = rUp (γ 1) 102 0 0 (ρ 23) := c2
  have c3 : γ 3 = rUp (γ 2) 102 0 1 (ρ 20) := c3
  have c4 : γ 4 = rUp (γ 3) 102 0 2 (ρ 20) := c4
  have c5 : γ 5 = rUp (γ 4) 102 0 3 (ρ 27) := c5
  have c6 : ∀ (G : Nat) (k j : Int), ¬ rMdP m40_ G j → γ 6 G k j = γ 5 G k j := c6
  obtain ⟨l0, -⟩ := hl
  have l0 : sn57 [ρ 7, ρ 0, ρ 2, ρ 19, ρ 28, ρ 29, ρ 30, ρ 10, ρ 17] (γ 5) 0 0 (γ 6) := hS57 _ _ _ _ _ l0
  show jn75 [ρ 0, ρ 1, ρ 2, ρ 3, ρ 4, ρ 5, ρ 6, ρ 7, ρ 8, ρ 9, ρ 10, ρ 11, ρ 12, ρ 13, ρ 14] (γ 0) 0 [ρ 0, ρ 1, ρ 2, ρ 3, ρ 4, ρ 5, ρ 6, ρ 7, ρ 8, ρ 9, ρ 10, ρ 11, ρ 12, ρ 13, ρ 14, ρ 15 + 1, ρ 16, ρ 35, ρ 18, ρ 31] (γ 6)
  have hD : en75 (γ 0) (0, [ρ 0, ρ 15], γ 1) = .inl (0, [ρ 0, ρ 15 + 1], γ 6) := by
    unfold en75
    refine (if_pos (show (0 : Nat) = 0 by decide)).trans ?_
    refine (zLet_eq (show _ = γ 1 from rfl)).trans ?_
    refine (zLet_eq (show _ = ρ 0 from rfl)).trans ?_
    refine (zLet_eq (show _ = ρ 15 from rfl)).trans ?_
    refine (zLet_eq m2).trans ?_
    refine (zLet_eq m6).trans ?_
    refine (zLet_eq m15).trans ?_
    refine (zLet_eq m16).trans ?_
    refine (if_neg (show ¬ (ρ 15 ≥ ρ 18) by omega)).trans ?_
    refine (if_neg (show ¬ (ρ 17 ≠ 0) by omega)).trans ?_
    refine (if_pos (show ρ 3 ≤ 2 by omega)).trans ?_
    refine (if_pos (show ρ 3 ≠ 1 by omega)).trans ?_
    refine (zLet_eq m19).trans ?_
    refine (zLet_eq m20).trans ?_
    refine (if_neg (show ¬ (0 ≥ ρ 21) by omega)).trans ?_
    refine (zLet_eq m21).trans ?_
    refine (if_pos (show ρ 22 ≠ 3 by omega)).trans ?_
    refine (zLet_eq m22).trans ?_
    refine (zLet_eq c2.symm).trans ?_
    refine (if_neg (show ¬ (1 ≥ ρ 21) by omega)).trans ?_
    refine (zLet_eq m23).trans ?_
    refine (if_neg (show ¬ (ρ 24 ≠ 3) by omega)).trans ?_
    refine (zLet_eq c3.symm).trans ?_
    refine (if_neg (show ¬ (2 ≥ ρ 21) by omega)).trans ?_
    refine (zLet_eq m24).trans ?_
    refine (if_neg (show ¬ (ρ 25 ≠ 3) by omega)).trans ?_
    refine (zLet_eq c4.symm).trans ?_
    refine (if_neg (show ¬ (3 ≥ ρ 21) by omega)).trans ?_
    refine (zLet_eq m25).trans ?_
    refine (if_pos (show ρ 26 ≠ 3 by omega)).trans ?_
    refine (zLet_eq m26).trans ?_
    refine (zLet_eq c5.symm).trans ?_
    refine (zLet_eq (show fn57 [ρ 7, ρ 0] (γ 5) = (0, 0, γ 6) from l0.symm)).trans ?_
    refine (zLet_eq (show _ = γ 6 from rfl)).trans ?_
    rfl
  exact zGoo_ato hJ hD
theorem vn75a0_17 {S : Nat → zSpc} (hS57 : ∀ x g o v gz, S 57 x g o v gz → sn57 x g o v gz) (hS73 : ∀ x g o v gz, S 73 x g o v gz → sn73 x g o v gz) {a : List Int} {g : rHp} : ∀ (ρ : Nat → Int) (γ : Nat → rHp), jn75 a g 0 (zAg (zNA a75_ 0) ρ) (γ 1) → zO 15 S a g q75a0_17 ρ γ → zGl (fun i vs g1 => jn75 a g i vs g1) (sn75 a g) q75a0_17 ρ γ := by
  intro ρ γ hJ h
  obtain ⟨ha, hg, hr, hf, hm, hc, hl⟩ := h
  have ha : a = [ρ 0, ρ 1, ρ 2, ρ 3, ρ 4, ρ 5, ρ 6, ρ 7, ρ 8, ρ 9, ρ 10, ρ 11, ρ 12, ρ 13, ρ 14] := ha
  subst ha
  subst hg
  have hJ : jn75 [ρ 0, ρ 1, ρ 2, ρ 3, ρ 4, ρ 5, ρ 6, ρ 7, ρ 8, ρ 9, ρ 10, ρ 11, ρ 12, ρ 13, ρ 14] (γ 0) 0 [ρ 0, ρ 1, ρ 2, ρ 3, ρ 4, ρ 5, ρ 6, ρ 7, ρ 8, ρ 9, ρ 10, ρ 11, ρ 12, ρ 13, ρ 14, ρ 15, ρ 16, ρ 17, ρ 18, ρ 19] (γ 1) := hJ
  obtain ⟨r0, r1, r2, r3, r4, r5, r6, r7, r8, r9, r10, r11, r12, r13, r14, r15, r16, r17, r18, r19, r20, r21, r22, r23, r24, r25, r26, r27, r28, r29, r30, r31, r32, r33, r34, -⟩ := hr
  have r0 : (0 : Int) ≤ ρ 0 ∧ ρ 0 ≤ 59 := r0
  have r1 : (0 : Int) ≤ ρ 1 ∧ ρ 1 ≤ 60 := r1
  have r2 : (0 : Int) ≤ ρ 2 ∧ ρ 2 ≤ 20 := r2
  have r3 : (2 : Int) ≤ ρ 3 ∧ ρ 3 ≤ 2 := r3
  have r4 : (0 : Int) ≤ ρ 4 ∧ ρ 4 ≤ 50001 := r4
  have r5 : (0 : Int) ≤ ρ 5 ∧ ρ 5 ≤ 3 := r5
  have r6 : (0 : Int) ≤ ρ 6 ∧ ρ 6 ≤ 2000 := r6
  have r7 : (0 : Int) ≤ ρ 7 ∧ ρ 7 ≤ 19 := r7
  have r8 : (0 : Int) ≤ ρ 8 ∧ ρ 8 ≤ 61 := r8
  have r9 : (0 : Int) ≤ ρ 9 ∧ ρ 9 ≤ 2000 := r9
  have r10 : ((-2147483648) : Int) ≤ ρ 10 ∧ ρ 10 ≤ 2147483647 := r10
  have r11 : (0 : Int) ≤ ρ 11 ∧ ρ 11 ≤ 2000 := r11
  have r12 : (0 : Int) ≤ ρ 12 ∧ ρ 12 ≤ 2000 := r12
  have r13 : (0 : Int) ≤ ρ 13 ∧ ρ 13 ≤ 2000 := r13
  have r14 : (0 : Int) ≤ ρ 14 ∧ ρ 14 ≤ 50001 := r14
  have r15 : (0 : Int) ≤ ρ 15 ∧ ρ 15 ≤ 2000 := r15
  have r16 : (0 : Int) ≤ ρ 16 ∧ ρ 16 ≤ 50001 := r16
  have r17 : (0 : Int) ≤ ρ 17 ∧ ρ 17 ≤ 0 := r17
  have r18 : (0 : Int) ≤ ρ 18 ∧ ρ 18 ≤ 2000 := r18
  have r19 : (0 : Int) ≤ ρ 19 ∧ ρ 19 ≤ 2000 := r19
  have r20 : ((-2147483648) : Int) ≤ ρ 20 ∧ ρ 20 ≤ 2147483647 := r20
  have r21 : (4 : Int) ≤ ρ 21 ∧ ρ 21 ≤ 4 := r21
  have r22 : (0 : Int) ≤ ρ 22 ∧ ρ 22 ≤ 2 := r22
  have r23 : ((-2147483648) : Int) ≤ ρ 23 ∧ ρ 23 ≤ 1099511640064 := r23
  have r24 : (3 : Int) ≤ ρ 24 ∧ ρ 24 ≤ 3 := r24
  have r25 : (3 : Int) ≤ ρ 25 ∧ ρ 25 ≤ 3 := r25
  have r26 : (3 : Int) ≤ ρ 26 ∧ ρ 26 ≤ 3 := r26
  have r27 : (0 : Int) ≤ ρ 27 ∧ ρ 27 ≤ 8 := r27
  have r28 : ((-1) : Int) ≤ ρ 28 ∧ ρ 28 ≤ 1999 := r28
  have r29 : (0 : Int) ≤ ρ 29 ∧ ρ 29 ≤ 1999 := r29
  have r30 : (1 : Int) ≤ ρ 30 ∧ ρ 30 ≤ 2000 := r30
  have r31 : (0 : Int) ≤ ρ 31 ∧ ρ 31 ≤ 8 := r31
  have r32 : ((-1) : Int) ≤ ρ 32 ∧ ρ 32 ≤ 1999 := r32
  have r33 : (0 : Int) ≤ ρ 33 ∧ ρ 33 ≤ 1999 := r33
  have r34 : (0 : Int) ≤ ρ 34 ∧ ρ 34 ≤ 3 := r34
  obtain ⟨f0, f1, f2, f3, f4, f5, f6, f7, f8, f9, -⟩ := hf
  have f0 : (0 : Int) ≤ -ρ 7 + ρ 2 + (-1) := f0
  have f1 : (0 : Int) ≤ ρ 30 + -ρ 19 := f1
  have f2 : (0 : Int) ≤ ρ 32 + -ρ 28 := f2
  have f3 : (0 : Int) ≤ ρ 18 + -ρ 15 + (-1) := f3
  have f4 : (0 : Int) ≤ ρ 17 + -ρ 16 + 50000 := f4
  have f5 : (0 : Int) ≤ ρ 1 + -ρ 0 + (-1) := f5
  have f6 : (0 : Int) ≤ ρ 19 + -ρ 9 := f6
  have f7 : (0 : Int) ≤ ρ 18 + -ρ 15 := f7
  have f8 : (0 : Int) ≤ ρ 17 + -ρ 5 := f8
  have f9 : (0 : Int) ≤ ρ 16 + -ρ 4 := f9
  obtain ⟨m0, m1, m2, m3, m4, m5, m6, m7, m8, m9, m10, m11, m12, m13, m14, m15, m16, m17, m18, m19, m20, m21, m22, m23, m24, m25, m26, m27, m28, m29, m30, m31, m32, m33, -⟩ := hm
  have m0 : γ 0 15 0 32 = ρ 1 := m0
  have m1 : γ 0 15 0 13 = ρ 2 := m1
  have m2 : γ 0 71 0 (ρ 0) = ρ 3 := m2
  have m3 : γ 0 15 0 72 = ρ 4 := m3
  have m4 : γ 0 15 0 77 = ρ 5 := m4
  have m5 : γ 0 15 0 90 = ρ 6 := m5
  have m6 : γ 0 69 0 (ρ 0) = ρ 7 := m6
  have m7 : γ 0 15 0 44 = ρ 8 := m7
  have m8 : γ 0 15 0 71 = ρ 9 := m8
  have m9 : γ 0 15 0 76 = ρ 10 := m9
  have m10 : γ 0 15 0 81 = ρ 11 := m10
  have m11 : γ 0 15 0 82 = ρ 12 := m11
  have m12 : γ 0 15 0 83 = ρ 13 := m12
  have m13 : γ 0 15 0 94 = ρ 14 := m13
  have m14 : γ 1 15 0 72 = ρ 16 := m14
  have m15 : γ 1 15 0 77 = ρ 17 := m15
  have m16 : γ 1 15 0 90 = ρ 18 := m16
  have m17 : γ 1 15 0 71 = ρ 19 := m17
  have m18 : γ 1 15 0 81 = ρ 9 := m18
  have m19 : γ 1 107 0 (ρ 15) = ρ 20 := m19
  have m20 : γ 0 66 0 (ρ 7) = ρ 21 := m20
  have m21 : γ 0 70 0 (4 * ρ 0) = ρ 22 := m21
  have m22 : γ 1 105 0 (4 * ρ 15) = ρ 23 := m22
  have m23 : γ 0 70 0 (4 * ρ 0 + 1) = ρ 24 := m23
  have m24 : γ 0 70 0 (4 * ρ 0 + 2) = ρ 25 := m24
  have m25 : γ 0 70 0 (4 * ρ 0 + 3) = ρ 26 := m25
  have m26 : γ 1 97 0 (ρ 19) = ρ 27 := m26
  have m27 : γ 1 100 0 (ρ 7) = ρ 28 := m27
  have m28 : γ 1 101 0 (ρ 7) = ρ 29 := m28
  have m29 : γ 6 15 0 71 = ρ 30 := m29
  have m30 : γ 6 97 0 (ρ 19) = ρ 31 := m30
  have m31 : γ 6 100 0 (ρ 7) = ρ 32 := m31
  have m32 : γ 6 101 0 (ρ 7) = ρ 33 := m32
  have m33 : γ 6 15 0 77 = ρ 34 := m33
  obtain ⟨⟨⟨⟨⟨⟨-, c1⟩, c2⟩, c3⟩, c4⟩, c5⟩, c6⟩ := hc
  have c1 : ∀ (G : Nat) (k j : Int), ¬ rMdP m51_ G j → γ 1 G k j = γ 0 G k j := c1
  have c2 : γ 2 = rUp (γ 1) 102 0 0 (ρ 23) := c2
  have c3 : γ 3 = rUp (γ 2) 102 0 1 (ρ 20) := c3
  have c4 : γ 4 = rUp (γ 3) 102 0 2 (ρ 20) := c4
  have c5 : γ 5 = rUp (γ 4) 102 0 3 (ρ 20) := c5
  have c6 : ∀ (G : Nat) (k j : Int), ¬ rMdP m40_ G j → γ 6 G k j = γ 5 G k j := c6
  obtain ⟨l0, -⟩ := hl
  have l0 : sn57 [ρ 7, ρ 0, ρ 2, ρ 19, ρ 27, ρ 28, ρ 29, ρ 10, ρ 17] (γ 5) 0 0 (γ 6) := hS57 _ _ _ _ _ l0
  show jn75 [ρ 0, ρ 1, ρ 2, ρ 3, ρ 4, ρ 5, ρ 6, ρ 7, ρ 8, ρ 9, ρ 10, ρ 11, ρ 12, ρ 13, ρ 14] (γ 0) 0 [ρ 0, ρ 1, ρ 2, ρ 3, ρ 4, ρ 5, ρ 6, ρ 7, ρ 8, ρ 9, ρ 10, ρ 11, ρ 12, ρ 13, ρ 14, ρ 15 + 1, ρ 16, ρ 34, ρ 18, ρ 30] (γ 6)
  have hD : en75 (γ 0) (0, [ρ 0, ρ 15], γ 1) = .inl (0, [ρ 0, ρ 15 + 1], γ 6) := by
    unfold en75
    refine (if_pos (show (0 : Nat) = 0 by decide)).trans ?_
    refine (zLet_eq (show _ = γ 1 from rfl)).trans ?_
    refine (zLet_eq (show _ = ρ 0 from rfl)).trans ?_
    refine (zLet_eq (show _ = ρ 15 from rfl)).trans ?_
    refine (zLet_eq m2).trans ?_
    refine (zLet_eq m6).trans ?_
    refine (zLet_eq m15).trans ?_
    refine (zLet_eq m16).trans ?_
    refine (if_neg (show ¬ (ρ 15 ≥ ρ 18) by omega)).trans ?_
    refine (if_neg (show ¬ (ρ 17 ≠ 0) by omega)).trans ?_
    refine (if_pos (show ρ 3 ≤ 2 by omega)).trans ?_
    refine (if_pos (show ρ 3 ≠ 1 by omega)).trans ?_
    refine (zLet_eq m19).trans ?_
    refine (zLet_eq m20).trans ?_
    refine (if_neg (show ¬ (0 ≥ ρ 21) by omega)).trans ?_
    refine (zLet_eq m21).trans ?_
    refine (if_pos (show ρ 22 ≠ 3 by omega)).trans ?_
    refine (zLet_eq m22).trans ?_
    refine (zLet_eq c2.symm).trans ?_
    refine (if_neg (show ¬ (1 ≥ ρ 21) by omega)).trans ?_
    refine (zLet_eq m23).trans ?_
    refine (if_neg (show ¬ (ρ 24 ≠ 3) by omega)).trans ?_
    refine (zLet_eq c3.symm).trans ?_
    refine (if_neg (show ¬ (2 ≥ ρ 21) by omega)).trans ?_
    refine (zLet_eq m24).trans ?_
    refine (if_neg (show ¬ (ρ 25 ≠ 3) by omega)).trans ?_
    refine (zLet_eq c4.symm).trans ?_
    refine (if_neg (show ¬ (3 ≥ ρ 21) by omega)).trans ?_
    refine (zLet_eq m25).trans ?_
    refine (if_neg (show ¬ (ρ 26 ≠ 3) by omega)).trans ?_
    refine (zLet_eq c5.symm).trans ?_
    refine (zLet_eq (show fn57 [ρ 7, ρ 0] (γ 5) = (0, 0, γ 6) from l0.symm)).trans ?_
    refine (zLet_eq (show _ = γ 6 from rfl)).trans ?_
    rfl
  exact zGoo_ato hJ hD
theorem vn75a0_18 {S : Nat → zSpc} (hS57 : ∀ x g o v gz, S 57 x g o v gz → sn57 x g o v gz) (hS73 : ∀ x g o v gz, S 73 x g o v gz → sn73 x g o v gz) {a : List Int} {g : rHp} : ∀ (ρ : Nat → Int) (γ : Nat → rHp), jn75 a g 0 (zAg (zNA a75_ 0) ρ) (γ 1) → zO 15 S a g q75a0_18 ρ γ → zGl (fun i vs g1 => jn75 a g i vs g1) (sn75 a g) q75a0_18 ρ γ := by
  intro ρ γ hJ h
  obtain ⟨ha, hg, hr, hf, hm, hc, hl⟩ := h
  have ha : a = [ρ 0, ρ 1, ρ 2, ρ 3, ρ 4, ρ 5, ρ 6, ρ 7, ρ 8, ρ 9, ρ 10, ρ 11, ρ 12, ρ 13, ρ 14] := ha
  subst ha
  subst hg
  have hJ : jn75 [ρ 0, ρ 1, ρ 2, ρ 3, ρ 4, ρ 5, ρ 6, ρ 7, ρ 8, ρ 9, ρ 10, ρ 11, ρ 12, ρ 13, ρ 14] (γ 0) 0 [ρ 0, ρ 1, ρ 2, ρ 3, ρ 4, ρ 5, ρ 6, ρ 7, ρ 8, ρ 9, ρ 10, ρ 11, ρ 12, ρ 13, ρ 14, ρ 15, ρ 16, ρ 17, ρ 18, ρ 19] (γ 1) := hJ
  obtain ⟨r0, r1, r2, r3, r4, r5, r6, r7, r8, r9, r10, r11, r12, r13, r14, r15, r16, r17, r18, r19, r20, r21, r22, r23, r24, r25, r26, r27, r28, r29, r30, r31, r32, r33, -⟩ := hr
  have r0 : (0 : Int) ≤ ρ 0 ∧ ρ 0 ≤ 59 := r0
  have r1 : (0 : Int) ≤ ρ 1 ∧ ρ 1 ≤ 60 := r1
  have r2 : (0 : Int) ≤ ρ 2 ∧ ρ 2 ≤ 20 := r2
  have r3 : (2 : Int) ≤ ρ 3 ∧ ρ 3 ≤ 2 := r3
  have r4 : (0 : Int) ≤ ρ 4 ∧ ρ 4 ≤ 50001 := r4
  have r5 : (0 : Int) ≤ ρ 5 ∧ ρ 5 ≤ 3 := r5
  have r6 : (0 : Int) ≤ ρ 6 ∧ ρ 6 ≤ 2000 := r6
  have r7 : (0 : Int) ≤ ρ 7 ∧ ρ 7 ≤ 19 := r7
  have r8 : (0 : Int) ≤ ρ 8 ∧ ρ 8 ≤ 61 := r8
  have r9 : (0 : Int) ≤ ρ 9 ∧ ρ 9 ≤ 2000 := r9
  have r10 : ((-2147483648) : Int) ≤ ρ 10 ∧ ρ 10 ≤ 2147483647 := r10
  have r11 : (0 : Int) ≤ ρ 11 ∧ ρ 11 ≤ 2000 := r11
  have r12 : (0 : Int) ≤ ρ 12 ∧ ρ 12 ≤ 2000 := r12
  have r13 : (0 : Int) ≤ ρ 13 ∧ ρ 13 ≤ 2000 := r13
  have r14 : (0 : Int) ≤ ρ 14 ∧ ρ 14 ≤ 50001 := r14
  have r15 : (0 : Int) ≤ ρ 15 ∧ ρ 15 ≤ 2000 := r15
  have r16 : (0 : Int) ≤ ρ 16 ∧ ρ 16 ≤ 50001 := r16
  have r17 : (0 : Int) ≤ ρ 17 ∧ ρ 17 ≤ 0 := r17
  have r18 : (0 : Int) ≤ ρ 18 ∧ ρ 18 ≤ 2000 := r18
  have r19 : (0 : Int) ≤ ρ 19 ∧ ρ 19 ≤ 2000 := r19
  have r20 : ((-2147483648) : Int) ≤ ρ 20 ∧ ρ 20 ≤ 2147483647 := r20
  have r21 : (1 : Int) ≤ ρ 21 ∧ ρ 21 ≤ 1 := r21
  have r22 : (3 : Int) ≤ ρ 22 ∧ ρ 22 ≤ 3 := r22
  have r23 : ((-2147483648) : Int) ≤ ρ 23 ∧ ρ 23 ≤ 1099511640064 := r23
  have r24 : ((-2147483648) : Int) ≤ ρ 24 ∧ ρ 24 ≤ 1099511640064 := r24
  have r25 : ((-2147483648) : Int) ≤ ρ 25 ∧ ρ 25 ≤ 1099511640064 := r25
  have r26 : (0 : Int) ≤ ρ 26 ∧ ρ 26 ≤ 8 := r26
  have r27 : ((-1) : Int) ≤ ρ 27 ∧ ρ 27 ≤ 1999 := r27
  have r28 : (0 : Int) ≤ ρ 28 ∧ ρ 28 ≤ 1999 := r28
  have r29 : (1 : Int) ≤ ρ 29 ∧ ρ 29 ≤ 2000 := r29
  have r30 : (0 : Int) ≤ ρ 30 ∧ ρ 30 ≤ 8 := r30
  have r31 : ((-1) : Int) ≤ ρ 31 ∧ ρ 31 ≤ 1999 := r31
  have r32 : (0 : Int) ≤ ρ 32 ∧ ρ 32 ≤ 1999 := r32
  have r33 : (0 : Int) ≤ ρ 33 ∧ ρ 33 ≤ 3 := r33
  obtain ⟨f0, f1, f2, f3, f4, f5, f6, f7, f8, f9, -⟩ := hf
  have f0 : (0 : Int) ≤ -ρ 7 + ρ 2 + (-1) := f0
  have f1 : (0 : Int) ≤ ρ 29 + -ρ 19 := f1
  have f2 : (0 : Int) ≤ ρ 31 + -ρ 27 := f2
  have f3 : (0 : Int) ≤ ρ 18 + -ρ 15 + (-1) := f3
  have f4 : (0 : Int) ≤ ρ 17 + -ρ 16 + 50000 := f4
  have f5 : (0 : Int) ≤ ρ 1 + -ρ 0 + (-1) := f5
  have f6 : (0 : Int) ≤ ρ 19 + -ρ 9 := f6
  have f7 : (0 : Int) ≤ ρ 18 + -ρ 15 := f7
  have f8 : (0 : Int) ≤ ρ 17 + -ρ 5 := f8
  have f9 : (0 : Int) ≤ ρ 16 + -ρ 4 := f9
  obtain ⟨m0, m1, m2, m3, m4, m5, m6, m7, m8, m9, m10, m11, m12, m13, m14, m15, m16, m17, m18, m19, m20, m21, m22, m23, m24, m25, m26, m27, m28, m29, m30, m31, m32, -⟩ := hm
  have m0 : γ 0 15 0 32 = ρ 1 := m0
  have m1 : γ 0 15 0 13 = ρ 2 := m1
  have m2 : γ 0 71 0 (ρ 0) = ρ 3 := m2
  have m3 : γ 0 15 0 72 = ρ 4 := m3
  have m4 : γ 0 15 0 77 = ρ 5 := m4
  have m5 : γ 0 15 0 90 = ρ 6 := m5
  have m6 : γ 0 69 0 (ρ 0) = ρ 7 := m6
  have m7 : γ 0 15 0 44 = ρ 8 := m7
  have m8 : γ 0 15 0 71 = ρ 9 := m8
  have m9 : γ 0 15 0 76 = ρ 10 := m9
  have m10 : γ 0 15 0 81 = ρ 11 := m10
  have m11 : γ 0 15 0 82 = ρ 12 := m11
  have m12 : γ 0 15 0 83 = ρ 13 := m12
  have m13 : γ 0 15 0 94 = ρ 14 := m13
  have m14 : γ 1 15 0 72 = ρ 16 := m14
  have m15 : γ 1 15 0 77 = ρ 17 := m15
  have m16 : γ 1 15 0 90 = ρ 18 := m16
  have m17 : γ 1 15 0 71 = ρ 19 := m17
  have m18 : γ 1 15 0 81 = ρ 9 := m18
  have m19 : γ 1 107 0 (ρ 15) = ρ 20 := m19
  have m20 : γ 0 66 0 (ρ 7) = ρ 21 := m20
  have m21 : γ 0 70 0 (4 * ρ 0) = ρ 22 := m21
  have m22 : γ 1 105 0 (4 * ρ 15 + 1) = ρ 23 := m22
  have m23 : γ 1 105 0 (4 * ρ 15 + 2) = ρ 24 := m23
  have m24 : γ 1 105 0 (4 * ρ 15 + 3) = ρ 25 := m24
  have m25 : γ 1 97 0 (ρ 19) = ρ 26 := m25
  have m26 : γ 1 100 0 (ρ 7) = ρ 27 := m26
  have m27 : γ 1 101 0 (ρ 7) = ρ 28 := m27
  have m28 : γ 6 15 0 71 = ρ 29 := m28
  have m29 : γ 6 97 0 (ρ 19) = ρ 30 := m29
  have m30 : γ 6 100 0 (ρ 7) = ρ 31 := m30
  have m31 : γ 6 101 0 (ρ 7) = ρ 32 := m31
  have m32 : γ 6 15 0 77 = ρ 33 := m32
  obtain ⟨⟨⟨⟨⟨⟨-, c1⟩, c2⟩, c3⟩, c4⟩, c5⟩, c6⟩ := hc
  have c1 : ∀ (G : Nat) (k j : Int), ¬ rMdP m51_ G j → γ 1 G k j = γ 0 G k j := c1
  have c2 : γ 2 = rUp (γ 1) 102 0 0 (ρ 20) := c2
  have c3 : γ 3 = rUp (γ 2) 102 0 1 (ρ 23) := c3
  have c4 : γ 4 = rUp (γ 3) 102 0 2 (ρ 24) := c4
  have c5 : γ 5 = rUp (γ 4) 102 0 3 (ρ 25) := c5
  have c6 : ∀ (G : Nat) (k j : Int), ¬ rMdP m40_ G j → γ 6 G k j = γ 5 G k j := c6
  obtain ⟨l0, -⟩ := hl
  have l0 : sn57 [ρ 7, ρ 0, ρ 2, ρ 19, ρ 26, ρ 27, ρ 28, ρ 10, ρ 17] (γ 5) 0 0 (γ 6) := hS57 _ _ _ _ _ l0
  show jn75 [ρ 0, ρ 1, ρ 2, ρ 3, ρ 4, ρ 5, ρ 6, ρ 7, ρ 8, ρ 9, ρ 10, ρ 11, ρ 12, ρ 13, ρ 14] (γ 0) 0 [ρ 0, ρ 1, ρ 2, ρ 3, ρ 4, ρ 5, ρ 6, ρ 7, ρ 8, ρ 9, ρ 10, ρ 11, ρ 12, ρ 13, ρ 14, ρ 15 + 1, ρ 16, ρ 33, ρ 18, ρ 29] (γ 6)
  have hD : en75 (γ 0) (0, [ρ 0, ρ 15], γ 1) = .inl (0, [ρ 0, ρ 15 + 1], γ 6) := by
    unfold en75
    refine (if_pos (show (0 : Nat) = 0 by decide)).trans ?_
    refine (zLet_eq (show _ = γ 1 from rfl)).trans ?_
    refine (zLet_eq (show _ = ρ 0 from rfl)).trans ?_
    refine (zLet_eq (show _ = ρ 15 from rfl)).trans ?_
    refine (zLet_eq m2).trans ?_
    refine (zLet_eq m6).trans ?_
    refine (zLet_eq m15).trans ?_
    refine (zLet_eq m16).trans ?_
    refine (if_neg (show ¬ (ρ 15 ≥ ρ 18) by omega)).trans ?_
    refine (if_neg (show ¬ (ρ 17 ≠ 0) by omega)).trans ?_
    refine (if_pos (show ρ 3 ≤ 2 by omega)).trans ?_
    refine (if_pos (show ρ 3 ≠ 1 by omega)).trans ?_
    refine (zLet_eq m19).trans ?_
    refine (zLet_eq m20).trans ?_
    refine (if_neg (show ¬ (0 ≥ ρ 21) by omega)).trans ?_
    refine (zLet_eq m21).trans ?_
    refine (if_neg (show ¬ (ρ 22 ≠ 3) by omega)).trans ?_
    refine (zLet_eq c2.symm).trans ?_
    refine (if_pos (show 1 ≥ ρ 21 by omega)).trans ?_
    refine (zLet_eq m22).trans ?_
    refine (zLet_eq c3.symm).trans ?_
    refine (zLet_eq m23).trans ?_
    refine (zLet_eq c4.symm).trans ?_
    refine (zLet_eq m24).trans ?_
    refine (zLet_eq c5.symm).trans ?_
    refine (zLet_eq (show fn57 [ρ 7, ρ 0] (γ 5) = (0, 0, γ 6) from l0.symm)).trans ?_
    refine (zLet_eq (show _ = γ 6 from rfl)).trans ?_
    rfl
  exact zGoo_ato hJ hD
theorem vn75a0_19 {S : Nat → zSpc} (hS57 : ∀ x g o v gz, S 57 x g o v gz → sn57 x g o v gz) (hS73 : ∀ x g o v gz, S 73 x g o v gz → sn73 x g o v gz) {a : List Int} {g : rHp} : ∀ (ρ : Nat → Int) (γ : Nat → rHp), jn75 a g 0 (zAg (zNA a75_ 0) ρ) (γ 1) → zO 15 S a g q75a0_19 ρ γ → zGl (fun i vs g1 => jn75 a g i vs g1) (sn75 a g) q75a0_19 ρ γ := by
  intro ρ γ hJ h
  obtain ⟨ha, hg, hr, hf, hm, hc, hl⟩ := h
  have ha : a = [ρ 0, ρ 1, ρ 2, ρ 3, ρ 4, ρ 5, ρ 6, ρ 7, ρ 8, ρ 9, ρ 10, ρ 11, ρ 12, ρ 13, ρ 14] := ha
  subst ha
  subst hg
  have hJ : jn75 [ρ 0, ρ 1, ρ 2, ρ 3, ρ 4, ρ 5, ρ 6, ρ 7, ρ 8, ρ 9, ρ 10, ρ 11, ρ 12, ρ 13, ρ 14] (γ 0) 0 [ρ 0, ρ 1, ρ 2, ρ 3, ρ 4, ρ 5, ρ 6, ρ 7, ρ 8, ρ 9, ρ 10, ρ 11, ρ 12, ρ 13, ρ 14, ρ 15, ρ 16, ρ 17, ρ 18, ρ 19] (γ 1) := hJ
  obtain ⟨r0, r1, r2, r3, r4, r5, r6, r7, r8, r9, r10, r11, r12, r13, r14, r15, r16, r17, r18, r19, r20, r21, r22, r23, r24, r25, r26, r27, r28, r29, r30, r31, r32, r33, r34, -⟩ := hr
  have r0 : (0 : Int) ≤ ρ 0 ∧ ρ 0 ≤ 59 := r0
  have r1 : (0 : Int) ≤ ρ 1 ∧ ρ 1 ≤ 60 := r1
  have r2 : (0 : Int) ≤ ρ 2 ∧ ρ 2 ≤ 20 := r2
  have r3 : (2 : Int) ≤ ρ 3 ∧ ρ 3 ≤ 2 := r3
  have r4 : (0 : Int) ≤ ρ 4 ∧ ρ 4 ≤ 50001 := r4
  have r5 : (0 : Int) ≤ ρ 5 ∧ ρ 5 ≤ 3 := r5
  have r6 : (0 : Int) ≤ ρ 6 ∧ ρ 6 ≤ 2000 := r6
  have r7 : (0 : Int) ≤ ρ 7 ∧ ρ 7 ≤ 19 := r7
  have r8 : (0 : Int) ≤ ρ 8 ∧ ρ 8 ≤ 61 := r8
  have r9 : (0 : Int) ≤ ρ 9 ∧ ρ 9 ≤ 2000 := r9
  have r10 : ((-2147483648) : Int) ≤ ρ 10 ∧ ρ 10 ≤ 2147483647 := r10
  have r11 : (0 : Int) ≤ ρ 11 ∧ ρ 11 ≤ 2000 := r11
  have r12 : (0 : Int) ≤ ρ 12 ∧ ρ 12 ≤ 2000 := r12
  have r13 : (0 : Int) ≤ ρ 13 ∧ ρ 13 ≤ 2000 := r13
  have r14 : (0 : Int) ≤ ρ 14 ∧ ρ 14 ≤ 50001 := r14
  have r15 : (0 : Int) ≤ ρ 15 ∧ ρ 15 ≤ 2000 := r15
  have r16 : (0 : Int) ≤ ρ 16 ∧ ρ 16 ≤ 50001 := r16
  have r17 : (0 : Int) ≤ ρ 17 ∧ ρ 17 ≤ 0 := r17
  have r18 : (0 : Int) ≤ ρ 18 ∧ ρ 18 ≤ 2000 := r18
  have r19 : (0 : Int) ≤ ρ 19 ∧ ρ 19 ≤ 2000 := r19
  have r20 : ((-2147483648) : Int) ≤ ρ 20 ∧ ρ 20 ≤ 2147483647 := r20
  have r21 : (2 : Int) ≤ ρ 21 ∧ ρ 21 ≤ 2 := r21
  have r22 : (3 : Int) ≤ ρ 22 ∧ ρ 22 ≤ 3 := r22
  have r23 : (0 : Int) ≤ ρ 23 ∧ ρ 23 ≤ 2 := r23
  have r24 : ((-2147483648) : Int) ≤ ρ 24 ∧ ρ 24 ≤ 1099511640064 := r24
  have r25 : ((-2147483648) : Int) ≤ ρ 25 ∧ ρ 25 ≤ 1099511640064 := r25
  have r26 : ((-2147483648) : Int) ≤ ρ 26 ∧ ρ 26 ≤ 1099511640064 := r26
  have r27 : (0 : Int) ≤ ρ 27 ∧ ρ 27 ≤ 8 := r27
  have r28 : ((-1) : Int) ≤ ρ 28 ∧ ρ 28 ≤ 1999 := r28
  have r29 : (0 : Int) ≤ ρ 29 ∧ ρ 29 ≤ 1999 := r29
  have r30 : (1 : Int) ≤ ρ 30 ∧ ρ 30 ≤ 2000 := r30
  have r31 : (0 : Int) ≤ ρ 31 ∧ ρ 31 ≤ 8 := r31
  have r32 : ((-1) : Int) ≤ ρ 32 ∧ ρ 32 ≤ 1999 := r32
  have r33 : (0 : Int) ≤ ρ 33 ∧ ρ 33 ≤ 1999 := r33
  have r34 : (0 : Int) ≤ ρ 34 ∧ ρ 34 ≤ 3 := r34
  obtain ⟨f0, f1, f2, f3, f4, f5, f6, f7, f8, f9, -⟩ := hf
  have f0 : (0 : Int) ≤ -ρ 7 + ρ 2 + (-1) := f0
  have f1 : (0 : Int) ≤ ρ 30 + -ρ 19 := f1
  have f2 : (0 : Int) ≤ ρ 32 + -ρ 28 := f2
  have f3 : (0 : Int) ≤ ρ 18 + -ρ 15 + (-1) := f3
  have f4 : (0 : Int) ≤ ρ 17 + -ρ 16 + 50000 := f4
  have f5 : (0 : Int) ≤ ρ 1 + -ρ 0 + (-1) := f5
  have f6 : (0 : Int) ≤ ρ 19 + -ρ 9 := f6
  have f7 : (0 : Int) ≤ ρ 18 + -ρ 15 := f7
  have f8 : (0 : Int) ≤ ρ 17 + -ρ 5 := f8
  have f9 : (0 : Int) ≤ ρ 16 + -ρ 4 := f9
  obtain ⟨m0, m1, m2, m3, m4, m5, m6, m7, m8, m9, m10, m11, m12, m13, m14, m15, m16, m17, m18, m19, m20, m21, m22, m23, m24, m25, m26, m27, m28, m29, m30, m31, m32, m33, -⟩ := hm
  have m0 : γ 0 15 0 32 = ρ 1 := m0
  have m1 : γ 0 15 0 13 = ρ 2 := m1
  have m2 : γ 0 71 0 (ρ 0) = ρ 3 := m2
  have m3 : γ 0 15 0 72 = ρ 4 := m3
  have m4 : γ 0 15 0 77 = ρ 5 := m4
  have m5 : γ 0 15 0 90 = ρ 6 := m5
  have m6 : γ 0 69 0 (ρ 0) = ρ 7 := m6
  have m7 : γ 0 15 0 44 = ρ 8 := m7
  have m8 : γ 0 15 0 71 = ρ 9 := m8
  have m9 : γ 0 15 0 76 = ρ 10 := m9
  have m10 : γ 0 15 0 81 = ρ 11 := m10
  have m11 : γ 0 15 0 82 = ρ 12 := m11
  have m12 : γ 0 15 0 83 = ρ 13 := m12
  have m13 : γ 0 15 0 94 = ρ 14 := m13
  have m14 : γ 1 15 0 72 = ρ 16 := m14
  have m15 : γ 1 15 0 77 = ρ 17 := m15
  have m16 : γ 1 15 0 90 = ρ 18 := m16
  have m17 : γ 1 15 0 71 = ρ 19 := m17
  have m18 : γ 1 15 0 81 = ρ 9 := m18
  have m19 : γ 1 107 0 (ρ 15) = ρ 20 := m19
  have m20 : γ 0 66 0 (ρ 7) = ρ 21 := m20
  have m21 : γ 0 70 0 (4 * ρ 0) = ρ 22 := m21
  have m22 : γ 0 70 0 (4 * ρ 0 + 1) = ρ 23 := m22
  have m23 : γ 1 105 0 (4 * ρ 15 + 1) = ρ 24 := m23
  have m24 : γ 1 105 0 (4 * ρ 15 + 2) = ρ 25 := m24
  have m25 : γ 1 105 0 (4 * ρ 15 + 3) = ρ 26 := m25
  have m26 : γ 1 97 0 (ρ 19) = ρ 27 := m26
  have m27 : γ 1 100 0 (ρ 7) = ρ 28 := m27
  have m28 : γ 1 101 0 (ρ 7) = ρ 29 := m28
  have m29 : γ 6 15 0 71 = ρ 30 := m29
  have m30 : γ 6 97 0 (ρ 19) = ρ 31 := m30
  have m31 : γ 6 100 0 (ρ 7) = ρ 32 := m31
  have m32 : γ 6 101 0 (ρ 7) = ρ 33 := m32
  have m33 : γ 6 15 0 77 = ρ 34 := m33
  obtain ⟨⟨⟨⟨⟨⟨-, c1⟩, c2⟩, c3⟩, c4⟩, c5⟩, c6⟩ := hc
  have c1 : ∀ (G : Nat) (k j : Int), ¬ rMdP m51_ G j → γ 1 G k j = γ 0 G k j := c1
  have c2 : γ 2 = rUp (γ 1) 102 0 0 (ρ 20) := c2
  have c3 : γ 3 = rUp (γ 2) 102 0 1 (ρ 24) := c3
  have c4 : γ 4 = rUp (γ 3) 102 0 2 (ρ 25) := c4
  have c5 : γ 5 = rUp (γ 4) 102 0 3 (ρ 26) := c5
  have c6 : ∀ (G : Nat) (k j : Int), ¬ rMdP m40_ G j → γ 6 G k j = γ 5 G k j := c6
  obtain ⟨l0, -⟩ := hl
  have l0 : sn57 [ρ 7, ρ 0, ρ 2, ρ 19, ρ 27, ρ 28, ρ 29, ρ 10, ρ 17] (γ 5) 0 0 (γ 6) := hS57 _ _ _ _ _ l0
  show jn75 [ρ 0, ρ 1, ρ 2, ρ 3, ρ 4, ρ 5, ρ 6, ρ 7, ρ 8, ρ 9, ρ 10, ρ 11, ρ 12, ρ 13, ρ 14] (γ 0) 0 [ρ 0, ρ 1, ρ 2, ρ 3, ρ 4, ρ 5, ρ 6, ρ 7, ρ 8, ρ 9, ρ 10, ρ 11, ρ 12, ρ 13, ρ 14, ρ 15 + 1, ρ 16, ρ 34, ρ 18, ρ 30] (γ 6)
  have hD : en75 (γ 0) (0, [ρ 0, ρ 15], γ 1) = .inl (0, [ρ 0, ρ 15 + 1], γ 6) := by
    unfold en75
    refine (if_pos (show (0 : Nat) = 0 by decide)).trans ?_
    refine (zLet_eq (show _ = γ 1 from rfl)).trans ?_
    refine (zLet_eq (show _ = ρ 0 from rfl)).trans ?_
    refine (zLet_eq (show _ = ρ 15 from rfl)).trans ?_
    refine (zLet_eq m2).trans ?_
    refine (zLet_eq m6).trans ?_
    refine (zLet_eq m15).trans ?_
    refine (zLet_eq m16).trans ?_
    refine (if_neg (show ¬ (ρ 15 ≥ ρ 18) by omega)).trans ?_
    refine (if_neg (show ¬ (ρ 17 ≠ 0) by omega)).trans ?_
    refine (if_pos (show ρ 3 ≤ 2 by omega)).trans ?_
    refine (if_pos (show ρ 3 ≠ 1 by omega)).trans ?_
    refine (zLet_eq m19).trans ?_
    refine (zLet_eq m20).trans ?_
    refine (if_neg (show ¬ (0 ≥ ρ 21) by omega)).trans ?_
    refine (zLet_eq m21).trans ?_
    refine (if_neg (show ¬ (ρ 22 ≠ 3) by omega)).trans ?_
    refine (zLet_eq c2.symm).trans ?_
    refine (if_neg (show ¬ (1 ≥ ρ 21) by omega)).trans ?_
    refine (zLet_eq m22).trans ?_
    refine (if_pos (show ρ 23 ≠ 3 by omega)).trans ?_
    refine (zLet_eq m23).trans ?_
    refine (zLet_eq c3.symm).trans ?_
    refine (if_pos (show 2 ≥ ρ 21 by omega)).trans ?_
    refine (zLet_eq m24).trans ?_
    refine (zLet_eq c4.symm).trans ?_
    refine (zLet_eq m25).trans ?_
    refine (zLet_eq c5.symm).trans ?_
    refine (zLet_eq (show fn57 [ρ 7, ρ 0] (γ 5) = (0, 0, γ 6) from l0.symm)).trans ?_
    refine (zLet_eq (show _ = γ 6 from rfl)).trans ?_
    rfl
  exact zGoo_ato hJ hD
theorem vn75a0_20 {S : Nat → zSpc} (hS57 : ∀ x g o v gz, S 57 x g o v gz → sn57 x g o v gz) (hS73 : ∀ x g o v gz, S 73 x g o v gz → sn73 x g o v gz) {a : List Int} {g : rHp} : ∀ (ρ : Nat → Int) (γ : Nat → rHp), jn75 a g 0 (zAg (zNA a75_ 0) ρ) (γ 1) → zO 15 S a g q75a0_20 ρ γ → zGl (fun i vs g1 => jn75 a g i vs g1) (sn75 a g) q75a0_20 ρ γ := by
  intro ρ γ hJ h
  obtain ⟨ha, hg, hr, hf, hm, hc, hl⟩ := h
  have ha : a = [ρ 0, ρ 1, ρ 2, ρ 3, ρ 4, ρ 5, ρ 6, ρ 7, ρ 8, ρ 9, ρ 10, ρ 11, ρ 12, ρ 13, ρ 14] := ha
  subst ha
  subst hg
  have hJ : jn75 [ρ 0, ρ 1, ρ 2, ρ 3, ρ 4, ρ 5, ρ 6, ρ 7, ρ 8, ρ 9, ρ 10, ρ 11, ρ 12, ρ 13, ρ 14] (γ 0) 0 [ρ 0, ρ 1, ρ 2, ρ 3, ρ 4, ρ 5, ρ 6, ρ 7, ρ 8, ρ 9, ρ 10, ρ 11, ρ 12, ρ 13, ρ 14, ρ 15, ρ 16, ρ 17, ρ 18, ρ 19] (γ 1) := hJ
  obtain ⟨r0, r1, r2, r3, r4, r5, r6, r7, r8, r9, r10, r11, r12, r13, r14, r15, r16, r17, r18, r19, r20, r21, r22, r23, r24, r25, r26, r27, r28, r29, r30, r31, r32, r33, r34, r35, -⟩ := hr
  have r0 : (0 : Int) ≤ ρ 0 ∧ ρ 0 ≤ 59 := r0
  have r1 : (0 : Int) ≤ ρ 1 ∧ ρ 1 ≤ 60 := r1
  have r2 : (0 : Int) ≤ ρ 2 ∧ ρ 2 ≤ 20 := r2
  have r3 : (2 : Int) ≤ ρ 3 ∧ ρ 3 ≤ 2 := r3
  have r4 : (0 : Int) ≤ ρ 4 ∧ ρ 4 ≤ 50001 := r4
  have r5 : (0 : Int) ≤ ρ 5 ∧ ρ 5 ≤ 3 := r5
  have r6 : (0 : Int) ≤ ρ 6 ∧ ρ 6 ≤ 2000 := r6
  have r7 : (0 : Int) ≤ ρ 7 ∧ ρ 7 ≤ 19 := r7
  have r8 : (0 : Int) ≤ ρ 8 ∧ ρ 8 ≤ 61 := r8
  have r9 : (0 : Int) ≤ ρ 9 ∧ ρ 9 ≤ 2000 := r9
  have r10 : ((-2147483648) : Int) ≤ ρ 10 ∧ ρ 10 ≤ 2147483647 := r10
  have r11 : (0 : Int) ≤ ρ 11 ∧ ρ 11 ≤ 2000 := r11
  have r12 : (0 : Int) ≤ ρ 12 ∧ ρ 12 ≤ 2000 := r12
  have r13 : (0 : Int) ≤ ρ 13 ∧ ρ 13 ≤ 2000 := r13
  have r14 : (0 : Int) ≤ ρ 14 ∧ ρ 14 ≤ 50001 := r14
  have r15 : (0 : Int) ≤ ρ 15 ∧ ρ 15 ≤ 2000 := r15
  have r16 : (0 : Int) ≤ ρ 16 ∧ ρ 16 ≤ 50001 := r16
  have r17 : (0 : Int) ≤ ρ 17 ∧ ρ 17 ≤ 0 := r17
  have r18 : (0 : Int) ≤ ρ 18 ∧ ρ 18 ≤ 2000 := r18
  have r19 : (0 : Int) ≤ ρ 19 ∧ ρ 19 ≤ 2000 := r19
  have r20 : ((-2147483648) : Int) ≤ ρ 20 ∧ ρ 20 ≤ 2147483647 := r20
  have r21 : (3 : Int) ≤ ρ 21 ∧ ρ 21 ≤ 3 := r21
  have r22 : (3 : Int) ≤ ρ 22 ∧ ρ 22 ≤ 3 := r22
  have r23 : (0 : Int) ≤ ρ 23 ∧ ρ 23 ≤ 2 := r23
  have r24 : ((-2147483648) : Int) ≤ ρ 24 ∧ ρ 24 ≤ 1099511640064 := r24
  have r25 : (0 : Int) ≤ ρ 25 ∧ ρ 25 ≤ 2 := r25
  have r26 : ((-2147483648) : Int) ≤ ρ 26 ∧ ρ 26 ≤ 1099511640064 := r26
  have r27 : ((-2147483648) : Int) ≤ ρ 27 ∧ ρ 27 ≤ 1099511640064 := r27
  have r28 : (0 : Int) ≤ ρ 28 ∧ ρ 28 ≤ 8 := r28
  have r29 : ((-1) : Int) ≤ ρ 29 ∧ ρ 29 ≤ 1999 := r29
  have r30 : (0 : Int) ≤ ρ 30 ∧ ρ 30 ≤ 1999 := r30
  have r31 : (1 : Int) ≤ ρ 31 ∧ ρ 31 ≤ 2000 := r31
  have r32 : (0 : Int) ≤ ρ 32 ∧ ρ 32 ≤ 8 := r32
  have r33 : ((-1) : Int) ≤ ρ 33 ∧ ρ 33 ≤ 1999 := r33
  have r34 : (0 : Int) ≤ ρ 34 ∧ ρ 34 ≤ 1999 := r34
  have r35 : (0 : Int) ≤ ρ 35 ∧ ρ 35 ≤ 3 := r35
  obtain ⟨f0, f1, f2, f3, f4, f5, f6, f7, f8, f9, -⟩ := hf
  have f0 : (0 : Int) ≤ -ρ 7 + ρ 2 + (-1) := f0
  have f1 : (0 : Int) ≤ ρ 31 + -ρ 19 := f1
  have f2 : (0 : Int) ≤ ρ 33 + -ρ 29 := f2
  have f3 : (0 : Int) ≤ ρ 18 + -ρ 15 + (-1) := f3
  have f4 : (0 : Int) ≤ ρ 17 + -ρ 16 + 50000 := f4
  have f5 : (0 : Int) ≤ ρ 1 + -ρ 0 + (-1) := f5
  have f6 : (0 : Int) ≤ ρ 19 + -ρ 9 := f6
  have f7 : (0 : Int) ≤ ρ 18 + -ρ 15 := f7
  have f8 : (0 : Int) ≤ ρ 17 + -ρ 5 := f8
  have f9 : (0 : Int) ≤ ρ 16 + -ρ 4 := f9
  obtain ⟨m0, m1, m2, m3, m4, m5, m6, m7, m8, m9, m10, m11, m12, m13, m14, m15, m16, m17, m18, m19, m20, m21, m22, m23, m24, m25, m26, m27, m28, m29, m30, m31, m32, m33, m34, -⟩ := hm
  have m0 : γ 0 15 0 32 = ρ 1 := m0
  have m1 : γ 0 15 0 13 = ρ 2 := m1
  have m2 : γ 0 71 0 (ρ 0) = ρ 3 := m2
  have m3 : γ 0 15 0 72 = ρ 4 := m3
  have m4 : γ 0 15 0 77 = ρ 5 := m4
  have m5 : γ 0 15 0 90 = ρ 6 := m5
  have m6 : γ 0 69 0 (ρ 0) = ρ 7 := m6
  have m7 : γ 0 15 0 44 = ρ 8 := m7
  have m8 : γ 0 15 0 71 = ρ 9 := m8
  have m9 : γ 0 15 0 76 = ρ 10 := m9
  have m10 : γ 0 15 0 81 = ρ 11 := m10
  have m11 : γ 0 15 0 82 = ρ 12 := m11
  have m12 : γ 0 15 0 83 = ρ 13 := m12
  have m13 : γ 0 15 0 94 = ρ 14 := m13
  have m14 : γ 1 15 0 72 = ρ 16 := m14
  have m15 : γ 1 15 0 77 = ρ 17 := m15
  have m16 : γ 1 15 0 90 = ρ 18 := m16
  have m17 : γ 1 15 0 71 = ρ 19 := m17
  have m18 : γ 1 15 0 81 = ρ 9 := m18
  have m19 : γ 1 107 0 (ρ 15) = ρ 20 := m19
  have m20 : γ 0 66 0 (ρ 7) = ρ 21 := m20
  have m21 : γ 0 70 0 (4 * ρ 0) = ρ 22 := m21
  have m22 : γ 0 70 0 (4 * ρ 0 + 1) = ρ 23 := m22
  have m23 : γ 1 105 0 (4 * ρ 15 + 1) = ρ 24 := m23
  have m24 : γ 0 70 0 (4 * ρ 0 + 2) = ρ 25 := m24
  have m25 : γ 1 105 0 (4 * ρ 15 + 2) = ρ 26 := m25
  have m26 : γ 1 105 0 (4 * ρ 15 + 3) = ρ 27 := m26
  have m27 : γ 1 97 0 (ρ 19) = ρ 28 := m27
  have m28 : γ 1 100 0 (ρ 7) = ρ 29 := m28
  have m29 : γ 1 101 0 (ρ 7) = ρ 30 := m29
  have m30 : γ 6 15 0 71 = ρ 31 := m30
  have m31 : γ 6 97 0 (ρ 19) = ρ 32 := m31
  have m32 : γ 6 100 0 (ρ 7) = ρ 33 := m32
  have m33 : γ 6 101 0 (ρ 7) = ρ 34 := m33
  have m34 : γ 6 15 0 77 = ρ 35 := m34
  obtain ⟨⟨⟨⟨⟨⟨-, c1⟩, c2⟩, c3⟩, c4⟩, c5⟩, c6⟩ := hc
  have c1 : ∀ (G : Nat) (k j : Int), ¬ rMdP m51_ G j → γ 1 G k j = γ 0 G k j := c1
  have c2 : γ 2 = rUp (γ 1) 102 0 0 (ρ 20) := c2
  have c3 : γ 3 = rUp (γ 2) 102 0 1 (ρ 24) := c3
  have c4 : γ 4 = rUp (γ 3) 102 0 2 (ρ 26) := c4
  have c5 : γ 5 = rUp (γ 4) 102 0 3 (ρ 27) := c5
  have c6 : ∀ (G : Nat) (k j : Int), ¬ rMdP m40_ G j → γ 6 G k j = γ 5 G k j := c6
  obtain ⟨l0, -⟩ := hl
  have l0 : sn57 [ρ 7, ρ 0, ρ 2, ρ 19, ρ 28, ρ 29, ρ 30, ρ 10, ρ 17] (γ 5) 0 0 (γ 6) := hS57 _ _ _ _ _ l0
  show jn75 [ρ 0, ρ 1, ρ 2, ρ 3, ρ 4, ρ 5, ρ 6, ρ 7, ρ 8, ρ 9, ρ 10, ρ 11, ρ 12, ρ 13, ρ 14] (γ 0) 0 [ρ 0, ρ 1, ρ 2, ρ 3, ρ 4, ρ 5, ρ 6, ρ 7, ρ 8, ρ 9, ρ 10, ρ 11, ρ 12, ρ 13, ρ 14, ρ 15 + 1, ρ 16, ρ 35, ρ 18, ρ 31] (γ 6)
  have hD : en75 (γ 0) (0, [ρ 0, ρ 15], γ 1) = .inl (0, [ρ 0, ρ 15 + 1], γ 6) := by
    unfold en75
    refine (if_pos (show (0 : Nat) = 0 by decide)).trans ?_
    refine (zLet_eq (show _ = γ 1 from rfl)).trans ?_
    refine (zLet_eq (show _ = ρ 0 from rfl)).trans ?_
    refine (zLet_eq (show _ = ρ 15 from rfl)).trans ?_
    refine (zLet_eq m2).trans ?_
    refine (zLet_eq m6).trans ?_
    refine (zLet_eq m15).trans ?_
    refine (zLet_eq m16).trans ?_
    refine (if_neg (show ¬ (ρ 15 ≥ ρ 18) by omega)).trans ?_
    refine (if_neg (show ¬ (ρ 17 ≠ 0) by omega)).trans ?_
    refine (if_pos (show ρ 3 ≤ 2 by omega)).trans ?_
    refine (if_pos (show ρ 3 ≠ 1 by omega)).trans ?_
    refine (zLet_eq m19).trans ?_
    refine (zLet_eq m20).trans ?_
    refine (if_neg (show ¬ (0 ≥ ρ 21) by omega)).trans ?_
    refine (zLet_eq m21).trans ?_
    refine (if_neg (show ¬ (ρ 22 ≠ 3) by omega)).trans ?_
    refine (zLet_eq c2.symm).trans ?_
    refine (if_neg (show ¬ (1 ≥ ρ 21) by omega)).trans ?_
    refine (zLet_eq m22).trans ?_
    refine (if_pos (show ρ 23 ≠ 3 by omega)).trans ?_
    refine (zLet_eq m23).trans ?_
    refine (zLet_eq c3.symm).trans ?_
    refine (if_neg (show ¬ (2 ≥ ρ 21) by omega)).trans ?_
    refine (zLet_eq m24).trans ?_
    refine (if_pos (show ρ 25 ≠ 3 by omega)).trans ?_
    refine (zLet_eq m25).trans ?_
    refine (zLet_eq c4.symm).trans ?_
    refine (if_pos (show 3 ≥ ρ 21 by omega)).trans ?_
    refine (zLet_eq m26).trans ?_
    refine (zLet_eq c5.symm).trans ?_
    refine (zLet_eq (show fn57 [ρ 7, ρ 0] (γ 5) = (0, 0, γ 6) from l0.symm)).trans ?_
    refine (zLet_eq (show _ = γ 6 from rfl)).trans ?_
    rfl
  exact zGoo_ato hJ hD
theorem vn75a0_21 {S : Nat → zSpc} (hS57 : ∀ x g o v gz, S 57 x g o v gz → sn57 x g o v gz) (hS73 : ∀ x g o v gz, S 73 x g o v gz → sn73 x g o v gz) {a : List Int} {g : rHp} : ∀ (ρ : Nat → Int) (γ : Nat → rHp), jn75 a g 0 (zAg (zNA a75_ 0) ρ) (γ 1) → zO 15 S a g q75a0_21 ρ γ → zGl (fun i vs g1 => jn75 a g i vs g1) (sn75 a g) q75a0_21 ρ γ := by
  intro ρ γ hJ h
  obtain ⟨ha, hg, hr, hf, hm, hc, hl⟩ := h
  have ha : a = [ρ 0, ρ 1, ρ 2, ρ 3, ρ 4, ρ 5, ρ 6, ρ 7, ρ 8, ρ 9, ρ 10, ρ 11, ρ 12, ρ 13, ρ 14] := ha
  subst ha
  subst hg
  have hJ : jn75 [ρ 0, ρ 1, ρ 2, ρ 3, ρ 4, ρ 5, ρ 6, ρ 7, ρ 8, ρ 9, ρ 10, ρ 11, ρ 12, ρ 13, ρ 14] (γ 0) 0 [ρ 0, ρ 1, ρ 2, ρ 3, ρ 4, ρ 5, ρ 6, ρ 7, ρ 8, ρ 9, ρ 10, ρ 11, ρ 12, ρ 13, ρ 14, ρ 15, ρ 16, ρ 17, ρ 18, ρ 19] (γ 1) := hJ
  obtain ⟨r0, r1, r2, r3, r4, r5, r6, r7, r8, r9, r10, r11, r12, r13, r14, r15, r16, r17, r18, r19, r20, r21, r22, r23, r24, r25, r26, r27, r28, r29, r30, r31, r32, r33, r34, r35, r36, -⟩ := hr
  have r0 : (0 : Int) ≤ ρ 0 ∧ ρ 0 ≤ 59 := r0
  have r1 : (0 : Int) ≤ ρ 1 ∧ ρ 1 ≤ 60 := r1
  have r2 : (0 : Int) ≤ ρ 2 ∧ ρ 2 ≤ 20 := r2
  have r3 : (2 : Int) ≤ ρ 3 ∧ ρ 3 ≤ 2 := r3
  have r4 : (0 : Int) ≤ ρ 4 ∧ ρ 4 ≤ 50001 := r4
  have r5 : (0 : Int) ≤ ρ 5 ∧ ρ 5 ≤ 3 := r5
  have r6 : (0 : Int) ≤ ρ 6 ∧ ρ 6 ≤ 2000 := r6
  have r7 : (0 : Int) ≤ ρ 7 ∧ ρ 7 ≤ 19 := r7
  have r8 : (0 : Int) ≤ ρ 8 ∧ ρ 8 ≤ 61 := r8
  have r9 : (0 : Int) ≤ ρ 9 ∧ ρ 9 ≤ 2000 := r9
  have r10 : ((-2147483648) : Int) ≤ ρ 10 ∧ ρ 10 ≤ 2147483647 := r10
  have r11 : (0 : Int) ≤ ρ 11 ∧ ρ 11 ≤ 2000 := r11
  have r12 : (0 : Int) ≤ ρ 12 ∧ ρ 12 ≤ 2000 := r12
  have r13 : (0 : Int) ≤ ρ 13 ∧ ρ 13 ≤ 2000 := r13
  have r14 : (0 : Int) ≤ ρ 14 ∧ ρ 14 ≤ 50001 := r14
  have r15 : (0 : Int) ≤ ρ 15 ∧ ρ 15 ≤ 2000 := r15
  have r16 : (0 : Int) ≤ ρ 16 ∧ ρ 16 ≤ 50001 := r16
  have r17 : (0 : Int) ≤ ρ 17 ∧ ρ 17 ≤ 0 := r17
  have r18 : (0 : Int) ≤ ρ 18 ∧ ρ 18 ≤ 2000 := r18
  have r19 : (0 : Int) ≤ ρ 19 ∧ ρ 19 ≤ 2000 := r19
  have r20 : ((-2147483648) : Int) ≤ ρ 20 ∧ ρ 20 ≤ 2147483647 := r20
  have r21 : (4 : Int) ≤ ρ 21 ∧ ρ 21 ≤ 4 := r21
  have r22 : (3 : Int) ≤ ρ 22 ∧ ρ 22 ≤ 3 := r22
  have r23 : (0 : Int) ≤ ρ 23 ∧ ρ 23 ≤ 2 := r23
  have r24 : ((-2147483648) : Int) ≤ ρ 24 ∧ ρ 24 ≤ 1099511640064 := r24
  have r25 : (0 : Int) ≤ ρ 25 ∧ ρ 25 ≤ 2 := r25
  have r26 : ((-2147483648) : Int) ≤ ρ 26 ∧ ρ 26 ≤ 1099511640064 := r26
  have r27 : (0 : Int) ≤ ρ 27 ∧ ρ 27 ≤ 2 := r27
  have r28 : ((-2147483648) : Int) ≤ ρ 28 ∧ ρ 28 ≤ 1099511640064 := r28
  have r29 : (0 : Int) ≤ ρ 29 ∧ ρ 29 ≤ 8 := r29
  have r30 : ((-1) : Int) ≤ ρ 30 ∧ ρ 30 ≤ 1999 := r30
  have r31 : (0 : Int) ≤ ρ 31 ∧ ρ 31 ≤ 1999 := r31
  have r32 : (1 : Int) ≤ ρ 32 ∧ ρ 32 ≤ 2000 := r32
  have r33 : (0 : Int) ≤ ρ 33 ∧ ρ 33 ≤ 8 := r33
  have r34 : ((-1) : Int) ≤ ρ 34 ∧ ρ 34 ≤ 1999 := r34
  have r35 : (0 : Int) ≤ ρ 35 ∧ ρ 35 ≤ 1999 := r35
  have r36 : (0 : Int) ≤ ρ 36 ∧ ρ 36 ≤ 3 := r36
  obtain ⟨f0, f1, f2, f3, f4, f5, f6, f7, f8, f9, -⟩ := hf
  have f0 : (0 : Int) ≤ -ρ 7 + ρ 2 + (-1) := f0
  have f1 : (0 : Int) ≤ ρ 32 + -ρ 19 := f1
  have f2 : (0 : Int) ≤ ρ 34 + -ρ 30 := f2
  have f3 : (0 : Int) ≤ ρ 18 + -ρ 15 + (-1) := f3
  have f4 : (0 : Int) ≤ ρ 17 + -ρ 16 + 50000 := f4
  have f5 : (0 : Int) ≤ ρ 1 + -ρ 0 + (-1) := f5
  have f6 : (0 : Int) ≤ ρ 19 + -ρ 9 := f6
  have f7 : (0 : Int) ≤ ρ 18 + -ρ 15 := f7
  have f8 : (0 : Int) ≤ ρ 17 + -ρ 5 := f8
  have f9 : (0 : Int) ≤ ρ 16 + -ρ 4 := f9
  obtain ⟨m0, m1, m2, m3, m4, m5, m6, m7, m8, m9, m10, m11, m12, m13, m14, m15, m16, m17, m18, m19, m20, m21, m22, m23, m24, m25, m26, m27, m28, m29, m30, m31, m32, m33, m34, m35, -⟩ := hm
  have m0 : γ 0 15 0 32 = ρ 1 := m0
  have m1 : γ 0 15 0 13 = ρ 2 := m1
  have m2 : γ 0 71 0 (ρ 0) = ρ 3 := m2
  have m3 : γ 0 15 0 72 = ρ 4 := m3
  have m4 : γ 0 15 0 77 = ρ 5 := m4
  have m5 : γ 0 15 0 90 = ρ 6 := m5
  have m6 : γ 0 69 0 (ρ 0) = ρ 7 := m6
  have m7 : γ 0 15 0 44 = ρ 8 := m7
  have m8 : γ 0 15 0 71 = ρ 9 := m8
  have m9 : γ 0 15 0 76 = ρ 10 := m9
  have m10 : γ 0 15 0 81 = ρ 11 := m10
  have m11 : γ 0 15 0 82 = ρ 12 := m11
  have m12 : γ 0 15 0 83 = ρ 13 := m12
  have m13 : γ 0 15 0 94 = ρ 14 := m13
  have m14 : γ 1 15 0 72 = ρ 16 := m14
  have m15 : γ 1 15 0 77 = ρ 17 := m15
  have m16 : γ 1 15 0 90 = ρ 18 := m16
  have m17 : γ 1 15 0 71 = ρ 19 := m17
  have m18 : γ 1 15 0 81 = ρ 9 := m18
  have m19 : γ 1 107 0 (ρ 15) = ρ 20 := m19
  have m20 : γ 0 66 0 (ρ 7) = ρ 21 := m20
  have m21 : γ 0 70 0 (4 * ρ 0) = ρ 22 := m21
  have m22 : γ 0 70 0 (4 * ρ 0 + 1) = ρ 23 := m22
  have m23 : γ 1 105 0 (4 * ρ 15 + 1) = ρ 24 := m23
  have m24 : γ 0 70 0 (4 * ρ 0 + 2) = ρ 25 := m24
  have m25 : γ 1 105 0 (4 * ρ 15 + 2) = ρ 26 := m25
  have m26 : γ 0 70 0 (4 * ρ 0 + 3) = ρ 27 := m26
  have m27 : γ 1 105 0 (4 * ρ 15 + 3) = ρ 28 := m27
  have m28 : γ 1 97 0 (ρ 19) = ρ 29 := m28
  have m29 : γ 1 100 0 (ρ 7) = ρ 30 := m29
  have m30 : γ 1 101 0 (ρ 7) = ρ 31 := m30
  have m31 : γ 6 15 0 71 = ρ 32 := m31
  have m32 : γ 6 97 0 (ρ 19) = ρ 33 := m32
  have m33 : γ 6 100 0 (ρ 7) = ρ 34 := m33
  have m34 : γ 6 101 0 (ρ 7) = ρ 35 := m34
  have m35 : γ 6 15 0 77 = ρ 36 := m35
  obtain ⟨⟨⟨⟨⟨⟨-, c1⟩, c2⟩, c3⟩, c4⟩, c5⟩, c6⟩ := hc
  have c1 : ∀ (G : Nat) (k j : Int), ¬ rMdP m51_ G j → γ 1 G k j = γ 0 G k j := c1
  have c2 : γ 2 = rUp (γ 1) 102 0 0 (ρ 20) := c2
  have c3 : γ 3 = rUp (γ 2) 102 0 1 (ρ 24) := c3
  have c4 : γ 4 = rUp (γ 3) 102 0 2 (ρ 26) := c4
  have c5 : γ 5 = rUp (γ 4) 102 0 3 (ρ 28) := c5
  have c6 : ∀ (G : Nat) (k j : Int), ¬ rMdP m40_ G j → γ 6 G k j = γ 5 G k j := c6
  obtain ⟨l0, -⟩ := hl
  have l0 : sn57 [ρ 7, ρ 0, ρ 2, ρ 19, ρ 29, ρ 30, ρ 31, ρ 10, ρ 17] (γ 5) 0 0 (γ 6) := hS57 _ _ _ _ _ l0
  show jn75 [ρ 0, ρ 1, ρ 2, ρ 3, ρ 4, ρ 5, ρ 6, ρ 7, ρ 8, ρ 9, ρ 10, ρ 11, ρ 12, ρ 13, ρ 14] (γ 0) 0 [ρ 0, ρ 1, ρ 2, ρ 3, ρ 4, ρ 5, ρ 6, ρ 7, ρ 8, ρ 9, ρ 10, ρ 11, ρ 12, ρ 13, ρ 14, ρ 15 + 1, ρ 16, ρ 36, ρ 18, ρ 32] (γ 6)
  have hD : en75 (γ 0) (0, [ρ 0, ρ 15], γ 1) = .inl (0, [ρ 0, ρ 15 + 1], γ 6) := by
    unfold en75
    refine (if_pos (show (0 : Nat) = 0 by decide)).trans ?_
    refine (zLet_eq (show _ = γ 1 from rfl)).trans ?_
    refine (zLet_eq (show _ = ρ 0 from rfl)).trans ?_
    refine (zLet_eq (show _ = ρ 15 from rfl)).trans ?_
    refine (zLet_eq m2).trans ?_
    refine (zLet_eq m6).trans ?_
    refine (zLet_eq m15).trans ?_
    refine (zLet_eq m16).trans ?_
    refine (if_neg (show ¬ (ρ 15 ≥ ρ 18) by omega)).trans ?_
    refine (if_neg (show ¬ (ρ 17 ≠ 0) by omega)).trans ?_
    refine (if_pos (show ρ 3 ≤ 2 by omega)).trans ?_
    refine (if_pos (show ρ 3 ≠ 1 by omega)).trans ?_
    refine (zLet_eq m19).trans ?_
    refine (zLet_eq m20).trans ?_
    refine (if_neg (show ¬ (0 ≥ ρ 21) by omega)).trans ?_
    refine (zLet_eq m21).trans ?_
    refine (if_neg (show ¬ (ρ 22 ≠ 3) by omega)).trans ?_
    refine (zLet_eq c2.symm).trans ?_
    refine (if_neg (show ¬ (1 ≥ ρ 21) by omega)).trans ?_
    refine (zLet_eq m22).trans ?_
    refine (if_pos (show ρ 23 ≠ 3 by omega)).trans ?_
    refine (zLet_eq m23).trans ?_
    refine (zLet_eq c3.symm).trans ?_
    refine (if_neg (show ¬ (2 ≥ ρ 21) by omega)).trans ?_
    refine (zLet_eq m24).trans ?_
    refine (if_pos (show ρ 25 ≠ 3 by omega)).trans ?_
    refine (zLet_eq m25).trans ?_
    refine (zLet_eq c4.symm).trans ?_
    refine (if_neg (show ¬ (3 ≥ ρ 21) by omega)).trans ?_
    refine (zLet_eq m26).trans ?_
    refine (if_pos (show ρ 27 ≠ 3 by omega)).trans ?_
    refine (zLet_eq m27).trans ?_
    refine (zLet_eq c5.symm).trans ?_
    refine (zLet_eq (show fn57 [ρ 7, ρ 0] (γ 5) = (0, 0, γ 6) from l0.symm)).trans ?_
    refine (zLet_eq (show _ = γ 6 from rfl)).trans ?_
    rfl
  exact zGoo_ato hJ hD
theorem vn75a0_22 {S : Nat → zSpc} (hS57 : ∀ x g o v gz, S 57 x g o v gz → sn57 x g o v gz) (hS73 : ∀ x g o v gz, S 73 x g o v gz → sn73 x g o v gz) {a : List Int} {g : rHp} : ∀ (ρ : Nat → Int) (γ : Nat → rHp), jn75 a g 0 (zAg (zNA a75_ 0) ρ) (γ 1) → zO 15 S a g q75a0_22 ρ γ → zGl (fun i vs g1 => jn75 a g i vs g1) (sn75 a g) q75a0_22 ρ γ := by
  intro ρ γ hJ h
  obtain ⟨ha, hg, hr, hf, hm, hc, hl⟩ := h
  have ha : a = [ρ 0, ρ 1, ρ 2, ρ 3, ρ 4, ρ 5, ρ 6, ρ 7, ρ 8, ρ 9, ρ 10, ρ 11, ρ 12, ρ 13, ρ 14] := ha
  subst ha
  subst hg
  have hJ : jn75 [ρ 0, ρ 1, ρ 2, ρ 3, ρ 4, ρ 5, ρ 6, ρ 7, ρ 8, ρ 9, ρ 10, ρ 11, ρ 12, ρ 13, ρ 14] (γ 0) 0 [ρ 0, ρ 1, ρ 2, ρ 3, ρ 4, ρ 5, ρ 6, ρ 7, ρ 8, ρ 9, ρ 10, ρ 11, ρ 12, ρ 13, ρ 14, ρ 15, ρ 16, ρ 17, ρ 18, ρ 19] (γ 1) := hJ
  obtain ⟨r0, r1, r2, r3, r4, r5, r6, r7, r8, r9, r10, r11, r12, r13, r14, r15, r16, r17, r18, r19, r20, r21, r22, r23, r24, r25, r26, r27, r28, r29, r30, r31, r32, r33, r34, r35, -⟩ := hr
  have r0 : (0 : Int) ≤ ρ 0 ∧ ρ 0 ≤ 59 := r0
  have r1 : (0 : Int) ≤ ρ 1 ∧ ρ 1 ≤ 60 := r1
  have r2 : (0 : Int) ≤ ρ 2 ∧ ρ 2 ≤ 20 := r2
  have r3 : (2 : Int) ≤ ρ 3 ∧ ρ 3 ≤ 2 := r3
  have r4 : (0 : Int) ≤ ρ 4 ∧ ρ 4 ≤ 50001 := r4
  have r5 : (0 : Int) ≤ ρ 5 ∧ ρ 5 ≤ 3 := r5
  have r6 : (0 : Int) ≤ ρ 6 ∧ ρ 6 ≤ 2000 := r6
  have r7 : (0 : Int) ≤ ρ 7 ∧ ρ 7 ≤ 19 := r7
  have r8 : (0 : Int) ≤ ρ 8 ∧ ρ 8 ≤ 61 := r8
  have r9 : (0 : Int) ≤ ρ 9 ∧ ρ 9 ≤ 2000 := r9
  have r10 : ((-2147483648) : Int) ≤ ρ 10 ∧ ρ 10 ≤ 2147483647 := r10
  have r11 : (0 : Int) ≤ ρ 11 ∧ ρ 11 ≤ 2000 := r11
  have r12 : (0 : Int) ≤ ρ 12 ∧ ρ 12 ≤ 2000 := r12
  have r13 : (0 : Int) ≤ ρ 13 ∧ ρ 13 ≤ 2000 := r13
  have r14 : (0 : Int) ≤ ρ 14 ∧ ρ 14 ≤ 50001 := r14
  have r15 : (0 : Int) ≤ ρ 15 ∧ ρ 15 ≤ 2000 := r15
  have r16 : (0 : Int) ≤ ρ 16 ∧ ρ 16 ≤ 50001 := r16
  have r17 : (0 : Int) ≤ ρ 17 ∧ ρ 17 ≤ 0 := r17
  have r18 : (0 : Int) ≤ ρ 18 ∧ ρ 18 ≤ 2000 := r18
  have r19 : (0 : Int) ≤ ρ 19 ∧ ρ 19 ≤ 2000 := r19
  have r20 : ((-2147483648) : Int) ≤ ρ 20 ∧ ρ 20 ≤ 2147483647 := r20
  have r21 : (4 : Int) ≤ ρ 21 ∧ ρ 21 ≤ 4 := r21
  have r22 : (3 : Int) ≤ ρ 22 ∧ ρ 22 ≤ 3 := r22
  have r23 : (0 : Int) ≤ ρ 23 ∧ ρ 23 ≤ 2 := r23
  have r24 : ((-2147483648) : Int) ≤ ρ 24 ∧ ρ 24 ≤ 1099511640064 := r24
  have r25 : (0 : Int) ≤ ρ 25 ∧ ρ 25 ≤ 2 := r25
  have r26 : ((-2147483648) : Int) ≤ ρ 26 ∧ ρ 26 ≤ 1099511640064 := r26
  have r27 : (3 : Int) ≤ ρ 27 ∧ ρ 27 ≤ 3 := r27
  have r28 : (0 : Int) ≤ ρ 28 ∧ ρ 28 ≤ 8 := r28
  have r29 : ((-1) : Int) ≤ ρ 29 ∧ ρ 29 ≤ 1999 := r29
  have r30 : (0 : Int) ≤ ρ 30 ∧ ρ 30 ≤ 1999 := r30
  have r31 : (1 : Int) ≤ ρ 31 ∧ ρ 31 ≤ 2000 := r31
  have r32 : (0 : Int) ≤ ρ 32 ∧ ρ 32 ≤ 8 := r32
  have r33 : ((-1) : Int) ≤ ρ 33 ∧ ρ 33 ≤ 1999 := r33
  have r34 : (0 : Int) ≤ ρ 34 ∧ ρ 34 ≤ 1999 := r34
  have r35 : (0 : Int) ≤ ρ 35 ∧ ρ 35 ≤ 3 := r35
  obtain ⟨f0, f1, f2, f3, f4, f5, f6, f7, f8, f9, -⟩ := hf
  have f0 : (0 : Int) ≤ -ρ 7 + ρ 2 + (-1) := f0
  have f1 : (0 : Int) ≤ ρ 31 + -ρ 19 := f1
  have f2 : (0 : Int) ≤ ρ 33 + -ρ 29 := f2
  have f3 : (0 : Int) ≤ ρ 18 + -ρ 15 + (-1) := f3
  have f4 : (0 : Int) ≤ ρ 17 + -ρ 16 + 50000 := f4
  have f5 : (0 : Int) ≤ ρ 1 + -ρ 0 + (-1) := f5
  have f6 : (0 : Int) ≤ ρ 19 + -ρ 9 := f6
  have f7 : (0 : Int) ≤ ρ 18 + -ρ 15 := f7
  have f8 : (0 : Int) ≤ ρ 17 + -ρ 5 := f8
  have f9 : (0 : Int) ≤ ρ 16 + -ρ 4 := f9
  obtain ⟨m0, m1, m2, m3, m4, m5, m6, m7, m8, m9, m10, m11, m12, m13, m14, m15, m16, m17, m18, m19, m20, m21, m22, m23, m24, m25, m26, m27, m28, m29, m30, m31, m32, m33, m34, -⟩ := hm
  have m0 : γ 0 15 0 32 = ρ 1 := m0
  have m1 : γ 0 15 0 13 = ρ 2 := m1
  have m2 : γ 0 71 0 (ρ 0) = ρ 3 := m2
  have m3 : γ 0 15 0 72 = ρ 4 := m3
  have m4 : γ 0 15 0 77 = ρ 5 := m4
  have m5 : γ 0 15 0 90 = ρ 6 := m5
  have m6 : γ 0 69 0 (ρ 0) = ρ 7 := m6
  have m7 : γ 0 15 0 44 = ρ 8 := m7
  have m8 : γ 0 15 0 71 = ρ 9 := m8
  have m9 : γ 0 15 0 76 = ρ 10 := m9
  have m10 : γ 0 15 0 81 = ρ 11 := m10
  have m11 : γ 0 15 0 82 = ρ 12 := m11
  have m12 : γ 0 15 0 83 = ρ 13 := m12
  have m13 : γ 0 15 0 94 = ρ 14 := m13
  have m14 : γ 1 15 0 72 = ρ 16 := m14
  have m15 : γ 1 15 0 77 = ρ 17 := m15
  have m16 : γ 1 15 0 90 = ρ 18 := m16
  have m17 : γ 1 15 0 71 = ρ 19 := m17
  have m18 : γ 1 15 0 81 = ρ 9 := m18
  have m19 : γ 1 107 0 (ρ 15) = ρ 20 := m19
  have m20 : γ 0 66 0 (ρ 7) = ρ 21 := m20
  have m21 : γ 0 70 0 (4 * ρ 0) = ρ 22 := m21
  have m22 : γ 0 70 0 (4 * ρ 0 + 1) = ρ 23 := m22
  have m23 : γ 1 105 0 (4 * ρ 15 + 1) = ρ 24 := m23
  have m24 : γ 0 70 0 (4 * ρ 0 + 2) = ρ 25 := m24
  have m25 : γ 1 105 0 (4 * ρ 15 + 2) = ρ 26 := m25
  have m26 : γ 0 70 0 (4 * ρ 0 + 3) = ρ 27 := m26
  have m27 : γ 1 97 0 (ρ 19) = ρ 28 := m27
  have m28 : γ 1 100 0 (ρ 7) = ρ 29 := m28
  have m29 : γ 1 101 0 (ρ 7) = ρ 30 := m29
  have m30 : γ 6 15 0 71 = ρ 31 := m30
  have m31 : γ 6 97 0 (ρ 19) = ρ 32 := m31
  have m32 : γ 6 100 0 (ρ 7) = ρ 33 := m32
  have m33 : γ 6 101 0 (ρ 7) = ρ 34 := m33
  have m34 : γ 6 15 0 77 = ρ 35 := m34
  obtain ⟨⟨⟨⟨⟨⟨-, c1⟩, c2⟩, c3⟩, c4⟩, c5⟩, c6⟩ := hc
  have c1 : ∀ (G : Nat) (k j : Int), ¬ rMdP m51_ G j → γ 1 G k j = γ 0 G k j := c1
  have c2 : γ 2 = rUp (γ 1) 102 0 0 (ρ 20) := c2
  have c3 : γ 3 = rUp (γ 2) 102 0 1 (ρ 24) := c3
  have c4 : γ 4 = rUp (γ 3) 102 0 2 (ρ 26) := c4
  have c5 : γ 5 = rUp (γ 4) 102 0 3 (ρ 20) := c5
  have c6 : ∀ (G : Nat) (k j : Int), ¬ rMdP m40_ G j → γ 6 G k j = γ 5 G k j := c6
  obtain ⟨l0, -⟩ := hl
  have l0 : sn57 [ρ 7, ρ 0, ρ 2, ρ 19, ρ 28, ρ 29, ρ 30, ρ 10, ρ 17] (γ 5) 0 0 (γ 6) := hS57 _ _ _ _ _ l0
  show jn75 [ρ 0, ρ 1, ρ 2, ρ 3, ρ 4, ρ 5, ρ 6, ρ 7, ρ 8, ρ 9, ρ 10, ρ 11, ρ 12, ρ 13, ρ 14] (γ 0) 0 [ρ 0, ρ 1, ρ 2, ρ 3, ρ 4, ρ 5, ρ 6, ρ 7, ρ 8, ρ 9, ρ 10, ρ 11, ρ 12, ρ 13, ρ 14, ρ 15 + 1, ρ 16, ρ 35, ρ 18, ρ 31] (γ 6)
  have hD : en75 (γ 0) (0, [ρ 0, ρ 15], γ 1) = .inl (0, [ρ 0, ρ 15 + 1], γ 6) := by
    unfold en75
    refine (if_pos (show (0 : Nat) = 0 by decide)).trans ?_
    refine (zLet_eq (show _ = γ 1 from rfl)).trans ?_
    refine (zLet_eq (show _ = ρ 0 from rfl)).trans ?_
    refine (zLet_eq (show _ = ρ 15 from rfl)).trans ?_
    refine (zLet_eq m2).trans ?_
    refine (zLet_eq m6).trans ?_
    refine (zLet_eq m15).trans ?_
    refine (zLet_eq m16).trans ?_
    refine (if_neg (show ¬ (ρ 15 ≥ ρ 18) by omega)).trans ?_
    refine (if_neg (show ¬ (ρ 17 ≠ 0) by omega)).trans ?_
    refine (if_pos (show ρ 3 ≤ 2 by omega)).trans ?_
    refine (if_pos (show ρ 3 ≠ 1 by omega)).trans ?_
    refine (zLet_eq m19).trans ?_
    refine (zLet_eq m20).trans ?_
    refine (if_neg (show ¬ (0 ≥ ρ 21) by omega)).trans ?_
    refine (zLet_eq m21).trans ?_
    refine (if_neg (show ¬ (ρ 22 ≠ 3) by omega)).trans ?_
    refine (zLet_eq c2.symm).trans ?_
    refine (if_neg (show ¬ (1 ≥ ρ 21) by omega)).trans ?_
    refine (zLet_eq m22).trans ?_
    refine (if_pos (show ρ 23 ≠ 3 by omega)).trans ?_
    refine (zLet_eq m23).trans ?_
    refine (zLet_eq c3.symm).trans ?_
    refine (if_neg (show ¬ (2 ≥ ρ 21) by omega)).trans ?_
    refine (zLet_eq m24).trans ?_
    refine (if_pos (show ρ 25 ≠ 3 by omega)).trans ?_
    refine (zLet_eq m25).trans ?_
    refine (zLet_eq c4.symm).trans ?_
    refine (if_neg (show ¬ (3 ≥ ρ 21) by omega)).trans ?_
    refine (zLet_eq m26).trans ?_
    refine (if_neg (show ¬ (ρ 27 ≠ 3) by omega)).trans ?_
    refine (zLet_eq c5.symm).trans ?_
    refine (zLet_eq (show fn57 [ρ 7, ρ 0] (γ 5) = (0, 0, γ 6) from l0.symm)).trans ?_
    refine (zLet_eq (show _ = γ 6 from rfl)).trans ?_
    rfl
  exact zGoo_ato hJ hD
theorem vn75a0_23 {S : Nat → zSpc} (hS57 : ∀ x g o v gz, S 57 x g o v gz → sn57 x g o v gz) (hS73 : ∀ x g o v gz, S 73 x g o v gz → sn73 x g o v gz) {a : List Int} {g : rHp} : ∀ (ρ : Nat → Int) (γ : Nat → rHp), jn75 a g 0 (zAg (zNA a75_ 0) ρ) (γ 1) → zO 15 S a g q75a0_23 ρ γ → zGl (fun i vs g1 => jn75 a g i vs g1) (sn75 a g) q75a0_23 ρ γ := by
  intro ρ γ hJ h
  obtain ⟨ha, hg, hr, hf, hm, hc, hl⟩ := h
  have ha : a = [ρ 0, ρ 1, ρ 2, ρ 3, ρ 4, ρ 5, ρ 6, ρ 7, ρ 8, ρ 9, ρ 10, ρ 11, ρ 12, ρ 13, ρ 14] := ha
  subst ha
  subst hg
  have hJ : jn75 [ρ 0, ρ 1, ρ 2, ρ 3, ρ 4, ρ 5, ρ 6, ρ 7, ρ 8, ρ 9, ρ 10, ρ 11, ρ 12, ρ 13, ρ 14] (γ 0) 0 [ρ 0, ρ 1, ρ 2, ρ 3, ρ 4, ρ 5, ρ 6, ρ 7, ρ 8, ρ 9, ρ 10, ρ 11, ρ 12, ρ 13, ρ 14, ρ 15, ρ 16, ρ 17, ρ 18, ρ 19] (γ 1) := hJ
  obtain ⟨r0, r1, r2, r3, r4, r5, r6, r7, r8, r9, r10, r11, r12, r13, r14, r15, r16, r17, r18, r19, r20, r21, r22, r23, r24, r25, r26, r27, r28, r29, r30, r31, r32, r33, r34, -⟩ := hr
  have r0 : (0 : Int) ≤ ρ 0 ∧ ρ 0 ≤ 59 := r0
  have r1 : (0 : Int) ≤ ρ 1 ∧ ρ 1 ≤ 60 := r1
  have r2 : (0 : Int) ≤ ρ 2 ∧ ρ 2 ≤ 20 := r2
  have r3 : (2 : Int) ≤ ρ 3 ∧ ρ 3 ≤ 2 := r3
  have r4 : (0 : Int) ≤ ρ 4 ∧ ρ 4 ≤ 50001 := r4
  have r5 : (0 : Int) ≤ ρ 5 ∧ ρ 5 ≤ 3 := r5
  have r6 : (0 : Int) ≤ ρ 6 ∧ ρ 6 ≤ 2000 := r6
  have r7 : (0 : Int) ≤ ρ 7 ∧ ρ 7 ≤ 19 := r7
  have r8 : (0 : Int) ≤ ρ 8 ∧ ρ 8 ≤ 61 := r8
  have r9 : (0 : Int) ≤ ρ 9 ∧ ρ 9 ≤ 2000 := r9
  have r10 : ((-2147483648) : Int) ≤ ρ 10 ∧ ρ 10 ≤ 2147483647 := r10
  have r11 : (0 : Int) ≤ ρ 11 ∧ ρ 11 ≤ 2000 := r11
  have r12 : (0 : Int) ≤ ρ 12 ∧ ρ 12 ≤ 2000 := r12
  have r13 : (0 : Int) ≤ ρ 13 ∧ ρ 13 ≤ 2000 := r13
  have r14 : (0 : Int) ≤ ρ 14 ∧ ρ 14 ≤ 50001 := r14
  have r15 : (0 : Int) ≤ ρ 15 ∧ ρ 15 ≤ 2000 := r15
  have r16 : (0 : Int) ≤ ρ 16 ∧ ρ 16 ≤ 50001 := r16
  have r17 : (0 : Int) ≤ ρ 17 ∧ ρ 17 ≤ 0 := r17
  have r18 : (0 : Int) ≤ ρ 18 ∧ ρ 18 ≤ 2000 := r18
  have r19 : (0 : Int) ≤ ρ 19 ∧ ρ 19 ≤ 2000 := r19
  have r20 : ((-2147483648) : Int) ≤ ρ 20 ∧ ρ 20 ≤ 2147483647 := r20
  have r21 : (3 : Int) ≤ ρ 21 ∧ ρ 21 ≤ 3 := r21
  have r22 : (3 : Int) ≤ ρ 22 ∧ ρ 22 ≤ 3 := r22
  have r23 : (0 : Int) ≤ ρ 23 ∧ ρ 23 ≤ 2 := r23
  have r24 : ((-2147483648) : Int) ≤ ρ 24 ∧ ρ 24 ≤ 1099511640064 := r24
  have r25 : (3 : Int) ≤ ρ 25 ∧ ρ 25 ≤ 3 := r25
  have r26 : ((-2147483648) : Int) ≤ ρ 26 ∧ ρ 26 ≤ 1099511640064 := r26
  have r27 : (0 : Int) ≤ ρ 27 ∧ ρ 27 ≤ 8 := r27
  have r28 : ((-1) : Int) ≤ ρ 28 ∧ ρ 28 ≤ 1999 := r28
  have r29 : (0 : Int) ≤ ρ 29 ∧ ρ 29 ≤ 1999 := r29
  have r30 : (1 : Int) ≤ ρ 30 ∧ ρ 30 ≤ 2000 := r30
  have r31 : (0 : Int) ≤ ρ 31 ∧ ρ 31 ≤ 8 := r31
  have r32 : ((-1) : Int) ≤ ρ 32 ∧ ρ 32 ≤ 1999 := r32
  have r33 : (0 : Int) ≤ ρ 33 ∧ ρ 33 ≤ 1999 := r33
  have r34 : (0 : Int) ≤ ρ 34 ∧ ρ 34 ≤ 3 := r34
  obtain ⟨f0, f1, f2, f3, f4, f5, f6, f7, f8, f9, -⟩ := hf
  have f0 : (0 : Int) ≤ -ρ 7 + ρ 2 + (-1) := f0
  have f1 : (0 : Int) ≤ ρ 30 + -ρ 19 := f1
  have f2 : (0 : Int) ≤ ρ 32 + -ρ 28 := f2
  have f3 : (0 : Int) ≤ ρ 18 + -ρ 15 + (-1) := f3
  have f4 : (0 : Int) ≤ ρ 17 + -ρ 16 + 50000 := f4
  have f5 : (0 : Int) ≤ ρ 1 + -ρ 0 + (-1) := f5
  have f6 : (0 : Int) ≤ ρ 19 + -ρ 9 := f6
  have f7 : (0 : Int) ≤ ρ 18 + -ρ 15 := f7
  have f8 : (0 : Int) ≤ ρ 17 + -ρ 5 := f8
  have f9 : (0 : Int) ≤ ρ 16 + -ρ 4 := f9
  obtain ⟨m0, m1, m2, m3, m4, m5, m6, m7, m8, m9, m10, m11, m12, m13, m14, m15, m16, m17, m18, m19, m20, m21, m22, m23, m24, m25, m26, m27, m28, m29, m30, m31, m32, m33, -⟩ := hm
  have m0 : γ 0 15 0 32 = ρ 1 := m0
  have m1 : γ 0 15 0 13 = ρ 2 := m1
  have m2 : γ 0 71 0 (ρ 0) = ρ 3 := m2
  have m3 : γ 0 15 0 72 = ρ 4 := m3
  have m4 : γ 0 15 0 77 = ρ 5 := m4
  have m5 : γ 0 15 0 90 = ρ 6 := m5
  have m6 : γ 0 69 0 (ρ 0) = ρ 7 := m6
  have m7 : γ 0 15 0 44 = ρ 8 := m7
  have m8 : γ 0 15 0 71 = ρ 9 := m8
  have m9 : γ 0 15 0 76 = ρ 10 := m9
  have m10 : γ 0 15 0 81 = ρ 11 := m10
  have m11 : γ 0 15 0 82 = ρ 12 := m11
  have m12 : γ 0 15 0 83 = ρ 13 := m12
  have m13 : γ 0 15 0 94 = ρ 14 := m13
  have m14 : γ 1 15 0 72 = ρ 16 := m14
  have m15 : γ 1 15 0 77 = ρ 17 := m15
  have m16 : γ 1 15 0 90 = ρ 18 := m16
  have m17 : γ 1 15 0 71 = ρ 19 := m17
  have m18 : γ 1 15 0 81 = ρ 9 := m18
  have m19 : γ 1 107 0 (ρ 15) = ρ 20 := m19
  have m20 : γ 0 66 0 (ρ 7) = ρ 21 := m20
  have m21 : γ 0 70 0 (4 * ρ 0) = ρ 22 := m21
  have m22 : γ 0 70 0 (4 * ρ 0 + 1) = ρ 23 := m22
  have m23 : γ 1 105 0 (4 * ρ 15 + 1) = ρ 24 := m23
  have m24 : γ 0 70 0 (4 * ρ 0 + 2) = ρ 25 := m24
  have m25 : γ 1 105 0 (4 * ρ 15 + 3) = ρ 26 := m25
  have m26 : γ 1 97 0 (ρ 19) = ρ 27 := m26
  have m27 : γ 1 100 0 (ρ 7) = ρ 28 := m27
  have m28 : γ 1 101 0 (ρ 7) = ρ 29 := m28
  have m29 : γ 6 15 0 71 = ρ 30 := m29
  have m30 : γ 6 97 0 (ρ 19) = ρ 31 := m30
  have m31 : γ 6 100 0 (ρ 7) = ρ 32 := m31
  have m32 : γ 6 101 0 (ρ 7) = ρ 33 := m32
  have m33 : γ 6 15 0 77 = ρ 34 := m33
  obtain ⟨⟨⟨⟨⟨⟨-, c1⟩, c2⟩, c3⟩, c4⟩, c5⟩, c6⟩ := hc
  have c1 : ∀ (G : Nat) (k j : Int), ¬ rMdP m51_ G j → γ 1 G k j = γ 0 G k j := c1
  have c2 : γ 2 = rUp (γ 1) 102 0 0 (ρ 20) := c2
  have c3 : γ 3 = rUp (γ 2) 102 0 1 (ρ 24) := c3
  have c4 : γ 4 = rUp (γ 3) 102 0 2 (ρ 20) := c4
  have c5 : γ 5 = rUp (γ 4) 102 0 3 (ρ 26) := c5
  have c6 : ∀ (G : Nat) (k j : Int), ¬ rMdP m40_ G j → γ 6 G k j = γ 5 G k j := c6
  obtain ⟨l0, -⟩ := hl
  have l0 : sn57 [ρ 7, ρ 0, ρ 2, ρ 19, ρ 27, ρ 28, ρ 29, ρ 10, ρ 17] (γ 5) 0 0 (γ 6) := hS57 _ _ _ _ _ l0
  show jn75 [ρ 0, ρ 1, ρ 2, ρ 3, ρ 4, ρ 5, ρ 6, ρ 7, ρ 8, ρ 9, ρ 10, ρ 11, ρ 12, ρ 13, ρ 14] (γ 0) 0 [ρ 0, ρ 1, ρ 2, ρ 3, ρ 4, ρ 5, ρ 6, ρ 7, ρ 8, ρ 9, ρ 10, ρ 11, ρ 12, ρ 13, ρ 14, ρ 15 + 1, ρ 16, ρ 34, ρ 18, ρ 30] (γ 6)
  have hD : en75 (γ 0) (0, [ρ 0, ρ 15], γ 1) = .inl (0, [ρ 0, ρ 15 + 1], γ 6) := by
    unfold en75
    refine (if_pos (show (0 : Nat) = 0 by decide)).trans ?_
    refine (zLet_eq (show _ = γ 1 from rfl)).trans ?_
    refine (zLet_eq (show _ = ρ 0 from rfl)).trans ?_
    refine (zLet_eq (show _ = ρ 15 from rfl)).trans ?_
    refine (zLet_eq m2).trans ?_
    refine (zLet_eq m6).trans ?_
    refine (zLet_eq m15).trans ?_
    refine (zLet_eq m16).trans ?_
    refine (if_neg (show ¬ (ρ 15 ≥ ρ 18) by omega)).trans ?_
    refine (if_neg (show ¬ (ρ 17 ≠ 0) by omega)).trans ?_
    refine (if_pos (show ρ 3 ≤ 2 by omega)).trans ?_
    refine (if_pos (show ρ 3 ≠ 1 by omega)).trans ?_
    refine (zLet_eq m19).trans ?_
    refine (zLet_eq m20).trans ?_
    refine (if_neg (show ¬ (0 ≥ ρ 21) by omega)).trans ?_
    refine (zLet_eq m21).trans ?_
    refine (if_neg (show ¬ (ρ 22 ≠ 3) by omega)).trans ?_
    refine (zLet_eq c2.symm).trans ?_
    refine (if_neg (show ¬ (1 ≥ ρ 21) by omega)).trans ?_
    refine (zLet_eq m22).trans ?_
    refine (if_pos (show ρ 23 ≠ 3 by omega)).trans ?_
    refine (zLet_eq m23).trans ?_
    refine (zLet_eq c3.symm).trans ?_
    refine (if_neg (show ¬ (2 ≥ ρ 21) by omega)).trans ?_
    refine (zLet_eq m24).trans ?_
    refine (if_neg (show ¬ (ρ 25 ≠ 3) by omega)).trans ?_
    refine (zLet_eq c4.symm).trans ?_
    refine (if_pos (show 3 ≥ ρ 21 by omega)).trans ?_
    refine (zLet_eq m25).trans ?_
    refine (zLet_eq c5.symm).trans ?_
    refine (zLet_eq (show fn57 [ρ 7, ρ 0] (γ 5) = (0, 0, γ 6) from l0.symm)).trans ?_
    refine (zLet_eq (show _ = γ 6 from rfl)).trans ?_
    rfl
  exact zGoo_ato hJ hD
theorem vn75a0_24 {S : Nat → zSpc} (hS57 : ∀ x g o v gz, S 57 x g o v gz → sn57 x g o v gz) (hS73 : ∀ x g o v gz, S 73 x g o v gz → sn73 x g o v gz) {a : List Int} {g : rHp} : ∀ (ρ : Nat → Int) (γ : Nat → rHp), jn75 a g 0 (zAg (zNA a75_ 0) ρ) (γ 1) → zO 15 S a g q75a0_24 ρ γ → zGl (fun i vs g1 => jn75 a g i vs g1) (sn75 a g) q75a0_24 ρ γ := by
  intro ρ γ hJ h
  obtain ⟨ha, hg, hr, hf, hm, hc, hl⟩ := h
  have ha : a = [ρ 0, ρ 1, ρ 2, ρ 3, ρ 4, ρ 5, ρ 6, ρ 7, ρ 8, ρ 9, ρ 10, ρ 11, ρ 12, ρ 13, ρ 14] := ha
  subst ha
  subst hg
  have hJ : jn75 [ρ 0, ρ 1, ρ 2, ρ 3, ρ 4, ρ 5, ρ 6, ρ 7, ρ 8, ρ 9, ρ 10, ρ 11, ρ 12, ρ 13, ρ 14] (γ 0) 0 [ρ 0, ρ 1, ρ 2, ρ 3, ρ 4, ρ 5, ρ 6, ρ 7, ρ 8, ρ 9, ρ 10, ρ 11, ρ 12, ρ 13, ρ 14, ρ 15, ρ 16, ρ 17, ρ 18, ρ 19] (γ 1) := hJ
  obtain ⟨r0, r1, r2, r3, r4, r5, r6, r7, r8, r9, r10, r11, r12, r13, r14, r15, r16, r17, r18, r19, r20, r21, r22, r23, r24, r25, r26, r27, r28, r29, r30, r31, r32, r33, r34, r35, -⟩ := hr
  have r0 : (0 : Int) ≤ ρ 0 ∧ ρ 0 ≤ 59 := r0
  have r1 : (0 : Int) ≤ ρ 1 ∧ ρ 1 ≤ 60 := r1
  have r2 : (0 : Int) ≤ ρ 2 ∧ ρ 2 ≤ 20 := r2
  have r3 : (2 : Int) ≤ ρ 3 ∧ ρ 3 ≤ 2 := r3
  have r4 : (0 : Int) ≤ ρ 4 ∧ ρ 4 ≤ 50001 := r4
  have r5 : (0 : Int) ≤ ρ 5 ∧ ρ 5 ≤ 3 := r5
  have r6 : (0 : Int) ≤ ρ 6 ∧ ρ 6 ≤ 2000 := r6
  have r7 : (0 : Int) ≤ ρ 7 ∧ ρ 7 ≤ 19 := r7
  have r8 : (0 : Int) ≤ ρ 8 ∧ ρ 8 ≤ 61 := r8
  have r9 : (0 : Int) ≤ ρ 9 ∧ ρ 9 ≤ 2000 := r9
  have r10 : ((-2147483648) : Int) ≤ ρ 10 ∧ ρ 10 ≤ 2147483647 := r10
  have r11 : (0 : Int) ≤ ρ 11 ∧ ρ 11 ≤ 2000 := r11
  have r12 : (0 : Int) ≤ ρ 12 ∧ ρ 12 ≤ 2000 := r12
  have r13 : (0 : Int) ≤ ρ 13 ∧ ρ 13 ≤ 2000 := r13
  have r14 : (0 : Int) ≤ ρ 14 ∧ ρ 14 ≤ 50001 := r14
  have r15 : (0 : Int) ≤ ρ 15 ∧ ρ 15 ≤ 2000 := r15
  have r16 : (0 : Int) ≤ ρ 16 ∧ ρ 16 ≤ 50001 := r16
  have r17 : (0 : Int) ≤ ρ 17 ∧ ρ 17 ≤ 0 := r17
  have r18 : (0 : Int) ≤ ρ 18 ∧ ρ 18 ≤ 2000 := r18
  have r19 : (0 : Int) ≤ ρ 19 ∧ ρ 19 ≤ 2000 := r19
  have r20 : ((-2147483648) : Int) ≤ ρ 20 ∧ ρ 20 ≤ 2147483647 := r20
  have r21 : (4 : Int) ≤ ρ 21 ∧ ρ 21 ≤ 4 := r21
  have r22 : (3 : Int) ≤ ρ 22 ∧ ρ 22 ≤ 3 := r22
  have r23 : (0 : Int) ≤ ρ 23 ∧ ρ 23 ≤ 2 := r23
  have r24 : ((-2147483648) : Int) ≤ ρ 24 ∧ ρ 24 ≤ 1099511640064 := r24
  have r25 : (3 : Int) ≤ ρ 25 ∧ ρ 25 ≤ 3 := r25
  have r26 : (0 : Int) ≤ ρ 26 ∧ ρ 26 ≤ 2 := r26
  have r27 : ((-2147483648) : Int) ≤ ρ 27 ∧ ρ 27 ≤ 1099511640064 := r27
  have r28 : (0 : Int) ≤ ρ 28 ∧ ρ 28 ≤ 8 := r28
  have r29 : ((-1) : Int) ≤ ρ 29 ∧ ρ 29 ≤ 1999 := r29
  have r30 : (0 : Int) ≤ ρ 30 ∧ ρ 30 ≤ 1999 := r30
  have r31 : (1 : Int) ≤ ρ 31 ∧ ρ 31 ≤ 2000 := r31
  have r32 : (0 : Int) ≤ ρ 32 ∧ ρ 32 ≤ 8 := r32
  have r33 : ((-1) : Int) ≤ ρ 33 ∧ ρ 33 ≤ 1999 := r33
  have r34 : (0 : Int) ≤ ρ 34 ∧ ρ 34 ≤ 1999 := r34
  have r35 : (0 : Int) ≤ ρ 35 ∧ ρ 35 ≤ 3 := r35
  obtain ⟨f0, f1, f2, f3, f4, f5, f6, f7, f8, f9, -⟩ := hf
  have f0 : (0 : Int) ≤ -ρ 7 + ρ 2 + (-1) := f0
  have f1 : (0 : Int) ≤ ρ 31 + -ρ 19 := f1
  have f2 : (0 : Int) ≤ ρ 33 + -ρ 29 := f2
  have f3 : (0 : Int) ≤ ρ 18 + -ρ 15 + (-1) := f3
  have f4 : (0 : Int) ≤ ρ 17 + -ρ 16 + 50000 := f4
  have f5 : (0 : Int) ≤ ρ 1 + -ρ 0 + (-1) := f5
  have f6 : (0 : Int) ≤ ρ 19 + -ρ 9 := f6
  have f7 : (0 : Int) ≤ ρ 18 + -ρ 15 := f7
  have f8 : (0 : Int) ≤ ρ 17 + -ρ 5 := f8
  have f9 : (0 : Int) ≤ ρ 16 + -ρ 4 := f9
  obtain ⟨m0, m1, m2, m3, m4, m5, m6, m7, m8, m9, m10, m11, m12, m13, m14, m15, m16, m17, m18, m19, m20, m21, m22, m23, m24, m25, m26, m27, m28, m29, m30, m31, m32, m33, m34, -⟩ := hm
  have m0 : γ 0 15 0 32 = ρ 1 := m0
  have m1 : γ 0 15 0 13 = ρ 2 := m1
  have m2 : γ 0 71 0 (ρ 0) = ρ 3 := m2
  have m3 : γ 0 15 0 72 = ρ 4 := m3
  have m4 : γ 0 15 0 77 = ρ 5 := m4
  have m5 : γ 0 15 0 90 = ρ 6 := m5
  have m6 : γ 0 69 0 (ρ 0) = ρ 7 := m6
  have m7 : γ 0 15 0 44 = ρ 8 := m7
  have m8 : γ 0 15 0 71 = ρ 9 := m8
  have m9 : γ 0 15 0 76 = ρ 10 := m9
  have m10 : γ 0 15 0 81 = ρ 11 := m10
  have m11 : γ 0 15 0 82 = ρ 12 := m11
  have m12 : γ 0 15 0 83 = ρ 13 := m12
  have m13 : γ 0 15 0 94 = ρ 14 := m13
  have m14 : γ 1 15 0 72 = ρ 16 := m14
  have m15 : γ 1 15 0 77 = ρ 17 := m15
  have m16 : γ 1 15 0 90 = ρ 18 := m16
  have m17 : γ 1 15 0 71 = ρ 19 := m17
  have m18 : γ 1 15 0 81 = ρ 9 := m18
  have m19 : γ 1 107 0 (ρ 15) = ρ 20 := m19
  have m20 : γ 0 66 0 (ρ 7) = ρ 21 := m20
  have m21 : γ 0 70 0 (4 * ρ 0) = ρ 22 := m21
  have m22 : γ 0 70 0 (4 * ρ 0 + 1) = ρ 23 := m22
  have m23 : γ 1 105 0 (4 * ρ 15 + 1) = ρ 24 := m23
  have m24 : γ 0 70 0 (4 * ρ 0 + 2) = ρ 25 := m24
  have m25 : γ 0 70 0 (4 * ρ 0 + 3) = ρ 26 := m25
  have m26 : γ 1 105 0 (4 * ρ 15 + 3) = ρ 27 := m26
  have m27 : γ 1 97 0 (ρ 19) = ρ 28 := m27
  have m28 : γ 1 100 0 (ρ 7) = ρ 29 := m28
  have m29 : γ 1 101 0 (ρ 7) = ρ 30 := m29
  have m30 : γ 6 15 0 71 = ρ 31 := m30
  have m31 : γ 6 97 0 (ρ 19) = ρ 32 := m31
  have m32 : γ 6 100 0 (ρ 7) = ρ 33 := m32
  have m33 : γ 6 101 0 (ρ 7) = ρ 34 := m33
  have m34 : γ 6 15 0 77 = ρ 35 := m34
  obtain ⟨⟨⟨⟨⟨⟨-, c1⟩, c2⟩, c3⟩, c4⟩, c5⟩, c6⟩ := hc
  have c1 : ∀ (G : Nat) (k j : Int), ¬ rMdP m51_ G j → γ 1 G k j = γ 0 G k j := c1
  have c2 : γ 2 = rUp (γ 1) 102 0 0 (ρ 20) := c2
  have c3 : γ 3 = rUp (γ 2) 102 0 1 (ρ 24) := c3
  have c4 : γ 4 = rUp (γ 3) 102 0 2 (ρ 20) := c4
  have c5 : γ 5 = rUp (γ 4) 102 0 3 (ρ 27) := c5
  have c6 : ∀ (G : Nat) (k j : Int), ¬ rMdP m40_ G j → γ 6 G k j = γ 5 G k j := c6
  obtain ⟨l0, -⟩ := hl
  have l0 : sn57 [ρ 7, ρ 0, ρ 2, ρ 19, ρ 28, ρ 29, ρ 30, ρ 10, ρ 17] (γ 5) 0 0 (γ 6) := hS57 _ _ _ _ _ l0
  show jn75 [ρ 0, ρ 1, ρ 2, ρ 3, ρ 4, ρ 5, ρ 6, ρ 7, ρ 8, ρ 9, ρ 10, ρ 11, ρ 12, ρ 13, ρ 14] (γ 0) 0 [ρ 0, ρ 1, ρ 2, ρ 3, ρ 4, ρ 5, ρ 6, ρ 7, ρ 8, ρ 9, ρ 10, ρ 11, ρ 12, ρ 13, ρ 14, ρ 15 + 1, ρ 16, ρ 35, ρ 18, ρ 31] (γ 6)
  have hD : en75 (γ 0) (0, [ρ 0, ρ 15], γ 1) = .inl (0, [ρ 0, ρ 15 + 1], γ 6) := by
    unfold en75
    refine (if_pos (show (0 : Nat) = 0 by decide)).trans ?_
    refine (zLet_eq (show _ = γ 1 from rfl)).trans ?_
    refine (zLet_eq (show _ = ρ 0 from rfl)).trans ?_
    refine (zLet_eq (show _ = ρ 15 from rfl)).trans ?_
    refine (zLet_eq m2).trans ?_
    refine (zLet_eq m6).trans ?_
    refine (zLet_eq m15).trans ?_
    refine (zLet_eq m16).trans ?_
    refine (if_neg (show ¬ (ρ 15 ≥ ρ 18) by omega)).trans ?_
    refine (if_neg (show ¬ (ρ 17 ≠ 0) by omega)).trans ?_
    refine (if_pos (show ρ 3 ≤ 2 by omega)).trans ?_
    refine (if_pos (show ρ 3 ≠ 1 by omega)).trans ?_
    refine (zLet_eq m19).trans ?_
    refine (zLet_eq m20).trans ?_
    refine (if_neg (show ¬ (0 ≥ ρ 21) by omega)).trans ?_
    refine (zLet_eq m21).trans ?_
    refine (if_neg (show ¬ (ρ 22 ≠ 3) by omega)).trans ?_
    refine (zLet_eq c2.symm).trans ?_
    refine (if_neg (show ¬ (1 ≥ ρ 21) by omega)).trans ?_
    refine (zLet_eq m22).trans ?_
    refine (if_pos (show ρ 23 ≠ 3 by omega)).trans ?_
    refine (zLet_eq m23).trans ?_
    refine (zLet_eq c3.symm).trans ?_
    refine (if_neg (show ¬ (2 ≥ ρ 21) by omega)).trans ?_
    refine (zLet_eq m24).trans ?_
    refine (if_neg (show ¬ (ρ 25 ≠ 3) by omega)).trans ?_
    refine (zLet_eq c4.symm).trans ?_
    refine (if_neg (show ¬ (3 ≥ ρ 21) by omega)).trans ?_
    refine (zLet_eq m25).trans ?_
    refine (if_pos (show ρ 26 ≠ 3 by omega)).trans ?_
    refine (zLet_eq m26).trans ?_
    refine (zLet_eq c5.symm).trans ?_
    refine (zLet_eq (show fn57 [ρ 7, ρ 0] (γ 5) = (0, 0, γ 6) from l0.symm)).trans ?_
    refine (zLet_eq (show _ = γ 6 from rfl)).trans ?_
    rfl
  exact zGoo_ato hJ hD
theorem vn75a0_25 {S : Nat → zSpc} (hS57 : ∀ x g o v gz, S 57 x g o v gz → sn57 x g o v gz) (hS73 : ∀ x g o v gz, S 73 x g o v gz → sn73 x g o v gz) {a : List Int} {g : rHp} : ∀ (ρ : Nat → Int) (γ : Nat → rHp), jn75 a g 0 (zAg (zNA a75_ 0) ρ) (γ 1) → zO 15 S a g q75a0_25 ρ γ → zGl (fun i vs g1 => jn75 a g i vs g1) (sn75 a g) q75a0_25 ρ γ := by
  intro ρ γ hJ h
  obtain ⟨ha, hg, hr, hf, hm, hc, hl⟩ := h
  have ha : a = [ρ 0, ρ 1, ρ 2, ρ 3, ρ 4, ρ 5, ρ 6, ρ 7, ρ 8, ρ 9, ρ 10, ρ 11, ρ 12, ρ 13, ρ 14] := ha
  subst ha
  subst hg
  have hJ : jn75 [ρ 0, ρ 1, ρ 2, ρ 3, ρ 4, ρ 5, ρ 6, ρ 7, ρ 8, ρ 9, ρ 10, ρ 11, ρ 12, ρ 13, ρ 14] (γ 0) 0 [ρ 0, ρ 1, ρ 2, ρ 3, ρ 4, ρ 5, ρ 6, ρ 7, ρ 8, ρ 9, ρ 10, ρ 11, ρ 12, ρ 13, ρ 14, ρ 15, ρ 16, ρ 17, ρ 18, ρ 19] (γ 1) := hJ
  obtain ⟨r0, r1, r2, r3, r4, r5, r6, r7, r8, r9, r10, r11, r12, r13, r14, r15, r16, r17, r18, r19, r20, r21, r22, r23, r24, r25, r26, r27, r28, r29, r30, r31, r32, r33, r34, -⟩ := hr
  have r0 : (0 : Int) ≤ ρ 0 ∧ ρ 0 ≤ 59 := r0
  have r1 : (0 : Int) ≤ ρ 1 ∧ ρ 1 ≤ 60 := r1
  have r2 : (0 : Int) ≤ ρ 2 ∧ ρ 2 ≤ 20 := r2
  have r3 : (2 : Int) ≤ ρ 3 ∧ ρ 3 ≤ 2 := r3
  have r4 : (0 : Int) ≤ ρ 4 ∧ ρ 4 ≤ 50001 := r4
  have r5 : (0 : Int) ≤ ρ 5 ∧ ρ 5 ≤ 3 := r5
  have r6 : (0 : Int) ≤ ρ 6 ∧ ρ 6 ≤ 2000 := r6
  have r7 : (0 : Int) ≤ ρ 7 ∧ ρ 7 ≤ 19 := r7
  have r8 : (0 : Int) ≤ ρ 8 ∧ ρ 8 ≤ 61 := r8
  have r9 : (0 : Int) ≤ ρ 9 ∧ ρ 9 ≤ 2000 := r9
  have r10 : ((-2147483648) : Int) ≤ ρ 10 ∧ ρ 10 ≤ 2147483647 := r10
  have r11 : (0 : Int) ≤ ρ 11 ∧ ρ 11 ≤ 2000 := r11
  have r12 : (0 : Int) ≤ ρ 12 ∧ ρ 12 ≤ 2000 := r12
  have r13 : (0 : Int) ≤ ρ 13 ∧ ρ 13 ≤ 2000 := r13
  have r14 : (0 : Int) ≤ ρ 14 ∧ ρ 14 ≤ 50001 := r14
  have r15 : (0 : Int) ≤ ρ 15 ∧ ρ 15 ≤ 2000 := r15
  have r16 : (0 : Int) ≤ ρ 16 ∧ ρ 16 ≤ 50001 := r16
  have r17 : (0 : Int) ≤ ρ 17 ∧ ρ 17 ≤ 0 := r17
  have r18 : (0 : Int) ≤ ρ 18 ∧ ρ 18 ≤ 2000 := r18
  have r19 : (0 : Int) ≤ ρ 19 ∧ ρ 19 ≤ 2000 := r19
  have r20 : ((-2147483648) : Int) ≤ ρ 20 ∧ ρ 20 ≤ 2147483647 := r20
  have r21 : (4 : Int) ≤ ρ 21 ∧ ρ 21 ≤ 4 := r21
  have r22 : (3 : Int) ≤ ρ 22 ∧ ρ 22 ≤ 3 := r22
  have r23 : (0 : Int) ≤ ρ 23 ∧ ρ 23 ≤ 2 := r23
  have r24 : ((-2147483648) : Int) ≤ ρ 24 ∧ ρ 24 ≤ 1099511640064 := r24
  have r25 : (3 : Int) ≤ ρ 25 ∧ ρ 25 ≤ 3 := r25
  have r26 : (3 : Int) ≤ ρ 26 ∧ ρ 26 ≤ 3 := r26
  have r27 : (0 : Int) ≤ ρ 27 ∧ ρ 27 ≤ 8 := r27
  have r28 : ((-1) : Int) ≤ ρ 28 ∧ ρ 28 ≤ 1999 := r28
  have r29 : (0 : Int) ≤ ρ 29 ∧ ρ 29 ≤ 1999 := r29
  have r30 : (1 : Int) ≤ ρ 30 ∧ ρ 30 ≤ 2000 := r30
  have r31 : (0 : Int) ≤ ρ 31 ∧ ρ 31 ≤ 8 := r31
  have r32 : ((-1) : Int) ≤ ρ 32 ∧ ρ 32 ≤ 1999 := r32
  have r33 : (0 : Int) ≤ ρ 33 ∧ ρ 33 ≤ 1999 := r33
  have r34 : (0 : Int) ≤ ρ 34 ∧ ρ 34 ≤ 3 := r34
  obtain ⟨f0, f1, f2, f3, f4, f5, f6, f7, f8, f9, -⟩ := hf
  have f0 : (0 : Int) ≤ -ρ 7 + ρ 2 + (-1) := f0
  have f1 : (0 : Int) ≤ ρ 30 + -ρ 19 := f1
  have f2 : (0 : Int) ≤ ρ 32 + -ρ 28 := f2
  have f3 : (0 : Int) ≤ ρ 18 + -ρ 15 + (-1) := f3
  have f4 : (0 : Int) ≤ ρ 17 + -ρ 16 + 50000 := f4
  have f5 : (0 : Int) ≤ ρ 1 + -ρ 0 + (-1) := f5
  have f6 : (0 : Int) ≤ ρ 19 + -ρ 9 := f6
  have f7 : (0 : Int) ≤ ρ 18 + -ρ 15 := f7
  have f8 : (0 : Int) ≤ ρ 17 + -ρ 5 := f8
  have f9 : (0 : Int) ≤ ρ 16 + -ρ 4 := f9
  obtain ⟨m0, m1, m2, m3, m4, m5, m6, m7, m8, m9, m10, m11, m12, m13, m14, m15, m16, m17, m18, m19, m20, m21, m22, m23, m24, m25, m26, m27, m28, m29, m30, m31, m32, m33, -⟩ := hm
  have m0 : γ 0 15 0 32 = ρ 1 := m0
  have m1 : γ 0 15 0 13 = ρ 2 := m1
  have m2 : γ 0 71 0 (ρ 0) = ρ 3 := m2
  have m3 : γ 0 15 0 72 = ρ 4 := m3
  have m4 : γ 0 15 0 77 = ρ 5 := m4
  have m5 : γ 0 15 0 90 = ρ 6 := m5
  have m6 : γ 0 69 0 (ρ 0) = ρ 7 := m6
  have m7 : γ 0 15 0 44 = ρ 8 := m7
  have m8 : γ 0 15 0 71 = ρ 9 := m8
  have m9 : γ 0 15 0 76 = ρ 10 := m9
  have m10 : γ 0 15 0 81 = ρ 11 := m10
  have m11 : γ 0 15 0 82 = ρ 12 := m11
  have m12 : γ 0 15 0 83 = ρ 13 := m12
  have m13 : γ 0 15 0 94 = ρ 14 := m13
  have m14 : γ 1 15 0 72 = ρ 16 := m14
  have m15 : γ 1 15 0 77 = ρ 17 := m15
  have m16 : γ 1 15 0 90 = ρ 18 := m16
  have m17 : γ 1 15 0 71 = ρ 19 := m17
  have m18 : γ 1 15 0 81 = ρ 9 := m18
  have m19 : γ 1 107 0 (ρ 15) = ρ 20 := m19
  have m20 : γ 0 66 0 (ρ 7) = ρ 21 := m20
  have m21 : γ 0 70 0 (4 * ρ 0) = ρ 22 := m21
  have m22 : γ 0 70 0 (4 * ρ 0 + 1) = ρ 23 := m22
  have m23 : γ 1 105 0 (4 * ρ 15 + 1) = ρ 24 := m23
  have m24 : γ 0 70 0 (4 * ρ 0 + 2) = ρ 25 := m24
  have m25 : γ 0 70 0 (4 * ρ 0 + 3) = ρ 26 := m25
  have m26 : γ 1 97 0 (ρ 19) = ρ 27 := m26
  have m27 : γ 1 100 0 (ρ 7) = ρ 28 := m27
  have m28 : γ 1 101 0 (ρ 7) = ρ 29 := m28
  have m29 : γ 6 15 0 71 = ρ 30 := m29
  have m30 : γ 6 97 0 (ρ 19) = ρ 31 := m30
  have m31 : γ 6 100 0 (ρ 7) = ρ 32 := m31
  have m32 : γ 6 101 0 (ρ 7) = ρ 33 := m32
  have m33 : γ 6 15 0 77 = ρ 34 := m33
  obtain ⟨⟨⟨⟨⟨⟨-, c1⟩, c2⟩, c3⟩, c4⟩, c5⟩, c6⟩ := hc
  have c1 : ∀ (G : Nat) (k j : Int), ¬ rMdP m51_ G j → γ 1 G k j = γ 0 G k j := c1
  have c2 : γ 2 = rUp (γ 1) 102 0 0 (ρ 20) := c2
  have c3 : γ 3 = rUp (γ 2) 102 0 1 (ρ 24) := c3
  have c4 : γ 4 = rUp (γ 3) 102 0 2 (ρ 20) := c4
  have c5 : γ 5 = rUp (γ 4) 102 0 3 (ρ 20) := c5
  have c6 : ∀ (G : Nat) (k j : Int), ¬ rMdP m40_ G j → γ 6 G k j = γ 5 G k j := c6
  obtain ⟨l0, -⟩ := hl
  have l0 : sn57 [ρ 7, ρ 0, ρ 2, ρ 19, ρ 27, ρ 28, ρ 29, ρ 10, ρ 17] (γ 5) 0 0 (γ 6) := hS57 _ _ _ _ _ l0
  show jn75 [ρ 0, ρ 1, ρ 2, ρ 3, ρ 4, ρ 5, ρ 6, ρ 7, ρ 8, ρ 9, ρ 10, ρ 11, ρ 12, ρ 13, ρ 14] (γ 0) 0 [ρ 0, ρ 1, ρ 2, ρ 3, ρ 4, ρ 5, ρ 6, ρ 7, ρ 8, ρ 9, ρ 10, ρ 11, ρ 12, ρ 13, ρ 14, ρ 15 + 1, ρ 16, ρ 34, ρ 18, ρ 30] (γ 6)
  have hD : en75 (γ 0) (0, [ρ 0, ρ 15], γ 1) = .inl (0, [ρ 0, ρ 15 + 1], γ 6) := by
    unfold en75
    refine (if_pos (show (0 : Nat) = 0 by decide)).trans ?_
    refine (zLet_eq (show _ = γ 1 from rfl)).trans ?_
    refine (zLet_eq (show _ = ρ 0 from rfl)).trans ?_
    refine (zLet_eq (show _ = ρ 15 from rfl)).trans ?_
    refine (zLet_eq m2).trans ?_
    refine (zLet_eq m6).trans ?_
    refine (zLet_eq m15).trans ?_
    refine (zLet_eq m16).trans ?_
    refine (if_neg (show ¬ (ρ 15 ≥ ρ 18) by omega)).trans ?_
    refine (if_neg (show ¬ (ρ 17 ≠ 0) by omega)).trans ?_
    refine (if_pos (show ρ 3 ≤ 2 by omega)).trans ?_
    refine (if_pos (show ρ 3 ≠ 1 by omega)).trans ?_
    refine (zLet_eq m19).trans ?_
    refine (zLet_eq m20).trans ?_
    refine (if_neg (show ¬ (0 ≥ ρ 21) by omega)).trans ?_
    refine (zLet_eq m21).trans ?_
    refine (if_neg (show ¬ (ρ 22 ≠ 3) by omega)).trans ?_
    refine (zLet_eq c2.symm).trans ?_
    refine (if_neg (show ¬ (1 ≥ ρ 21) by omega)).trans ?_
    refine (zLet_eq m22).trans ?_
    refine (if_pos (show ρ 23 ≠ 3 by omega)).trans ?_
    refine (zLet_eq m23).trans ?_
    refine (zLet_eq c3.symm).trans ?_
    refine (if_neg (show ¬ (2 ≥ ρ 21) by omega)).trans ?_
    refine (zLet_eq m24).trans ?_
    refine (if_neg (show ¬ (ρ 25 ≠ 3) by omega)).trans ?_
    refine (zLet_eq c4.symm).trans ?_
    refine (if_neg (show ¬ (3 ≥ ρ 21) by omega)).trans ?_
    refine (zLet_eq m25).trans ?_
    refine (if_neg (show ¬ (ρ 26 ≠ 3) by omega)).trans ?_
    refine (zLet_eq c5.symm).trans ?_
    refine (zLet_eq (show fn57 [ρ 7, ρ 0] (γ 5) = (0, 0, γ 6) from l0.symm)).trans ?_
    refine (zLet_eq (show _ = γ 6 from rfl)).trans ?_
    rfl
  exact zGoo_ato hJ hD
theorem vn75a0_26 {S : Nat → zSpc} (hS57 : ∀ x g o v gz, S 57 x g o v gz → sn57 x g o v gz) (hS73 : ∀ x g o v gz, S 73 x g o v gz → sn73 x g o v gz) {a : List Int} {g : rHp} : ∀ (ρ : Nat → Int) (γ : Nat → rHp), jn75 a g 0 (zAg (zNA a75_ 0) ρ) (γ 1) → zO 15 S a g q75a0_26 ρ γ → zGl (fun i vs g1 => jn75 a g i vs g1) (sn75 a g) q75a0_26 ρ γ := by
  intro ρ γ hJ h
  obtain ⟨ha, hg, hr, hf, hm, hc, hl⟩ := h
  have ha : a = [ρ 0, ρ 1, ρ 2, ρ 3, ρ 4, ρ 5, ρ 6, ρ 7, ρ 8, ρ 9, ρ 10, ρ 11, ρ 12, ρ 13, ρ 14] := ha
  subst ha
  subst hg
  have hJ : jn75 [ρ 0, ρ 1, ρ 2, ρ 3, ρ 4, ρ 5, ρ 6, ρ 7, ρ 8, ρ 9, ρ 10, ρ 11, ρ 12, ρ 13, ρ 14] (γ 0) 0 [ρ 0, ρ 1, ρ 2, ρ 3, ρ 4, ρ 5, ρ 6, ρ 7, ρ 8, ρ 9, ρ 10, ρ 11, ρ 12, ρ 13, ρ 14, ρ 15, ρ 16, ρ 17, ρ 18, ρ 19] (γ 1) := hJ
  obtain ⟨r0, r1, r2, r3, r4, r5, r6, r7, r8, r9, r10, r11, r12, r13, r14, r15, r16, r17, r18, r19, r20, r21, r22, r23, r24, r25, r26, r27, r28, r29, r30, r31, r32, r33, -⟩ := hr
  have r0 : (0 : Int) ≤ ρ 0 ∧ ρ 0 ≤ 59 := r0
  have r1 : (0 : Int) ≤ ρ 1 ∧ ρ 1 ≤ 60 := r1
  have r2 : (0 : Int) ≤ ρ 2 ∧ ρ 2 ≤ 20 := r2
  have r3 : (2 : Int) ≤ ρ 3 ∧ ρ 3 ≤ 2 := r3
  have r4 : (0 : Int) ≤ ρ 4 ∧ ρ 4 ≤ 50001 := r4
  have r5 : (0 : Int) ≤ ρ 5 ∧ ρ 5 ≤ 3 := r5
  have r6 : (0 : Int) ≤ ρ 6 ∧ ρ 6 ≤ 2000 := r6
  have r7 : (0 : Int) ≤ ρ 7 ∧ ρ 7 ≤ 19 := r7
  have r8 : (0 : Int) ≤ ρ 8 ∧ ρ 8 ≤ 61 := r8
  have r9 : (0 : Int) ≤ ρ 9 ∧ ρ 9 ≤ 2000 := r9
  have r10 : ((-2147483648) : Int) ≤ ρ 10 ∧ ρ 10 ≤ 2147483647 := r10
  have r11 : (0 : Int) ≤ ρ 11 ∧ ρ 11 ≤ 2000 := r11
  have r12 : (0 : Int) ≤ ρ 12 ∧ ρ 12 ≤ 2000 := r12
  have r13 : (0 : Int) ≤ ρ 13 ∧ ρ 13 ≤ 2000 := r13
  have r14 : (0 : Int) ≤ ρ 14 ∧ ρ 14 ≤ 50001 := r14
  have r15 : (0 : Int) ≤ ρ 15 ∧ ρ 15 ≤ 2000 := r15
  have r16 : (0 : Int) ≤ ρ 16 ∧ ρ 16 ≤ 50001 := r16
  have r17 : (0 : Int) ≤ ρ 17 ∧ ρ 17 ≤ 0 := r17
  have r18 : (0 : Int) ≤ ρ 18 ∧ ρ 18 ≤ 2000 := r18
  have r19 : (0 : Int) ≤ ρ 19 ∧ ρ 19 ≤ 2000 := r19
  have r20 : ((-2147483648) : Int) ≤ ρ 20 ∧ ρ 20 ≤ 2147483647 := r20
  have r21 : (2 : Int) ≤ ρ 21 ∧ ρ 21 ≤ 2 := r21
  have r22 : (3 : Int) ≤ ρ 22 ∧ ρ 22 ≤ 3 := r22
  have r23 : (3 : Int) ≤ ρ 23 ∧ ρ 23 ≤ 3 := r23
  have r24 : ((-2147483648) : Int) ≤ ρ 24 ∧ ρ 24 ≤ 1099511640064 := r24
  have r25 : ((-2147483648) : Int) ≤ ρ 25 ∧ ρ 25 ≤ 1099511640064 := r25
  have r26 : (0 : Int) ≤ ρ 26 ∧ ρ 26 ≤ 8 := r26
  have r27 : ((-1) : Int) ≤ ρ 27 ∧ ρ 27 ≤ 1999 := r27
  have r28 : (0 : Int) ≤ ρ 28 ∧ ρ 28 ≤ 1999 := r28
  have r29 : (1 : Int) ≤ ρ 29 ∧ ρ 29 ≤ 2000 := r29
  have r30 : (0 : Int) ≤ ρ 30 ∧ ρ 30 ≤ 8 := r30
  have r31 : ((-1) : Int) ≤ ρ 31 ∧ ρ 31 ≤ 1999 := r31
  have r32 : (0 : Int) ≤ ρ 32 ∧ ρ 32 ≤ 1999 := r32
  have r33 : (0 : Int) ≤ ρ 33 ∧ ρ 33 ≤ 3 := r33
  obtain ⟨f0, f1, f2, f3, f4, f5, f6, f7, f8, f9, -⟩ := hf
  have f0 : (0 : Int) ≤ -ρ 7 + ρ 2 + (-1) := f0
  have f1 : (0 : Int) ≤ ρ 29 + -ρ 19 := f1
  have f2 : (0 : Int) ≤ ρ 31 + -ρ 27 := f2
  have f3 : (0 : Int) ≤ ρ 18 + -ρ 15 + (-1) := f3
  have f4 : (0 : Int) ≤ ρ 17 + -ρ 16 + 50000 := f4
  have f5 : (0 : Int) ≤ ρ 1 + -ρ 0 + (-1) := f5
  have f6 : (0 : Int) ≤ ρ 19 + -ρ 9 := f6
  have f7 : (0 : Int) ≤ ρ 18 + -ρ 15 := f7
  have f8 : (0 : Int) ≤ ρ 17 + -ρ 5 := f8
  have f9 : (0 : Int) ≤ ρ 16 + -ρ 4 := f9
  obtain ⟨m0, m1, m2, m3, m4, m5, m6, m7, m8, m9, m10, m11, m12, m13, m14, m15, m16, m17, m18, m19, m20, m21, m22, m23, m24, m25, m26, m27, m28, m29, m30, m31, m32, -⟩ := hm
  have m0 : γ 0 15 0 32 = ρ 1 := m0
  have m1 : γ 0 15 0 13 = ρ 2 := m1
  have m2 : γ 0 71 0 (ρ 0) = ρ 3 := m2
  have m3 : γ 0 15 0 72 = ρ 4 := m3
  have m4 : γ 0 15 0 77 = ρ 5 := m4
  have m5 : γ 0 15 0 90 = ρ 6 := m5
  have m6 : γ 0 69 0 (ρ 0) = ρ 7 := m6
  have m7 : γ 0 15 0 44 = ρ 8 := m7
  have m8 : γ 0 15 0 71 = ρ 9 := m8
  have m9 : γ 0 15 0 76 = ρ 10 := m9
  have m10 : γ 0 15 0 81 = ρ 11 := m10
  have m11 : γ 0 15 0 82 = ρ 12 := m11
  have m12 : γ 0 15 0 83 = ρ 13 := m12
  have m13 : γ 0 15 0 94 = ρ 14 := m13
  have m14 : γ 1 15 0 72 = ρ 16 := m14
  have m15 : γ 1 15 0 77 = ρ 17 := m15
  have m16 : γ 1 15 0 90 = ρ 18 := m16
  have m17 : γ 1 15 0 71 = ρ 19 := m17
  have m18 : γ 1 15 0 81 = ρ 9 := m18
  have m19 : γ 1 107 0 (ρ 15) = ρ 20 := m19
  have m20 : γ 0 66 0 (ρ 7) = ρ 21 := m20
  have m21 : γ 0 70 0 (4 * ρ 0) = ρ 22 := m21
  have m22 : γ 0 70 0 (4 * ρ 0 + 1) = ρ 23 := m22
  have m23 : γ 1 105 0 (4 * ρ 15 + 2) = ρ 24 := m23
  have m24 : γ 1 105 0 (4 * ρ 15 + 3) = ρ 25 := m24
  have m25 : γ 1 97 0 (ρ 19) = ρ 26 := m25
  have m26 : γ 1 100 0 (ρ 7) = ρ 27 := m26
  have m27 : γ 1 101 0 (ρ 7) = ρ 28 := m27
  have m28 : γ 6 15 0 71 = ρ 29 := m28
  have m29 : γ 6 97 0 (ρ 19) = ρ 30 := m29
  have m30 : γ 6 100 0 (ρ 7) = ρ 31 := m30
  have m31 : γ 6 101 0 (ρ 7) = ρ 32 := m31
  have m32 : γ 6 15 0 77 = ρ 33 := m32
  obtain ⟨⟨⟨⟨⟨⟨-, c1⟩, c2⟩, c3⟩, c4⟩, c5⟩, c6⟩ := hc
  have c1 : ∀ (G : Nat) (k j : Int), ¬ rMdP m51_ G j → γ 1 G k j = γ 0 G k j := c1
  have c2 : γ 2 = rUp (γ 1) 102 0 0 (ρ 20) := c2
  have c3 : γ 3 = rUp (γ 2) 102 0 1 (ρ 20) := c3
  have c4 : γ 4 = rUp (γ 3) 102 0 2 (ρ 24) := c4
  have c5 : γ 5 = rUp (γ 4) 102 0 3 (ρ 25) := c5
  have c6 : ∀ (G : Nat) (k j : Int), ¬ rMdP m40_ G j → γ 6 G k j = γ 5 G k j := c6
  obtain ⟨l0, -⟩ := hl
  have l0 : sn57 [ρ 7, ρ 0, ρ 2, ρ 19, ρ 26, ρ 27, ρ 28, ρ 10, ρ 17] (γ 5) 0 0 (γ 6) := hS57 _ _ _ _ _ l0
  show jn75 [ρ 0, ρ 1, ρ 2, ρ 3, ρ 4, ρ 5, ρ 6, ρ 7, ρ 8, ρ 9, ρ 10, ρ 11, ρ 12, ρ 13, ρ 14] (γ 0) 0 [ρ 0, ρ 1, ρ 2, ρ 3, ρ 4, ρ 5, ρ 6, ρ 7, ρ 8, ρ 9, ρ 10, ρ 11, ρ 12, ρ 13, ρ 14, ρ 15 + 1, ρ 16, ρ 33, ρ 18, ρ 29] (γ 6)
  have hD : en75 (γ 0) (0, [ρ 0, ρ 15], γ 1) = .inl (0, [ρ 0, ρ 15 + 1], γ 6) := by
    unfold en75
    refine (if_pos (show (0 : Nat) = 0 by decide)).trans ?_
    refine (zLet_eq (show _ = γ 1 from rfl)).trans ?_
    refine (zLet_eq (show _ = ρ 0 from rfl)).trans ?_
    refine (zLet_eq (show _ = ρ 15 from rfl)).trans ?_
    refine (zLet_eq m2).trans ?_
    refine (zLet_eq m6).trans ?_
    refine (zLet_eq m15).trans ?_
    refine (zLet_eq m16).trans ?_
    refine (if_neg (show ¬ (ρ 15 ≥ ρ 18) by omega)).trans ?_
    refine (if_neg (show ¬ (ρ 17 ≠ 0) by omega)).trans ?_
    refine (if_pos (show ρ 3 ≤ 2 by omega)).trans ?_
    refine (if_pos (show ρ 3 ≠ 1 by omega)).trans ?_
    refine (zLet_eq m19).trans ?_
    refine (zLet_eq m20).trans ?_
    refine (if_neg (show ¬ (0 ≥ ρ 21) by omega)).trans ?_
    refine (zLet_eq m21).trans ?_
    refine (if_neg (show ¬ (ρ 22 ≠ 3) by omega)).trans ?_
    refine (zLet_eq c2.symm).trans ?_
    refine (if_neg (show ¬ (1 ≥ ρ 21) by omega)).trans ?_
    refine (zLet_eq m22).trans ?_
    refine (if_neg (show ¬ (ρ 23 ≠ 3) by omega)).trans ?_
    refine (zLet_eq c3.symm).trans ?_
    refine (if_pos (show 2 ≥ ρ 21 by omega)).trans ?_
    refine (zLet_eq m23).trans ?_
    refine (zLet_eq c4.symm).trans ?_
    refine (zLet_eq m24).trans ?_
    refine (zLet_eq c5.symm).trans ?_
    refine (zLet_eq (show fn57 [ρ 7, ρ 0] (γ 5) = (0, 0, γ 6) from l0.symm)).trans ?_
    refine (zLet_eq (show _ = γ 6 from rfl)).trans ?_
    rfl
  exact zGoo_ato hJ hD
theorem vn75a0_27 {S : Nat → zSpc} (hS57 : ∀ x g o v gz, S 57 x g o v gz → sn57 x g o v gz) (hS73 : ∀ x g o v gz, S 73 x g o v gz → sn73 x g o v gz) {a : List Int} {g : rHp} : ∀ (ρ : Nat → Int) (γ : Nat → rHp), jn75 a g 0 (zAg (zNA a75_ 0) ρ) (γ 1) → zO 15 S a g q75a0_27 ρ γ → zGl (fun i vs g1 => jn75 a g i vs g1) (sn75 a g) q75a0_27 ρ γ := by
  intro ρ γ hJ h
  obtain ⟨ha, hg, hr, hf, hm, hc, hl⟩ := h
  have ha : a = [ρ 0, ρ 1, ρ 2, ρ 3, ρ 4, ρ 5, ρ 6, ρ 7, ρ 8, ρ 9, ρ 10, ρ 11, ρ 12, ρ 13, ρ 14] := ha
  subst ha
  subst hg
  have hJ : jn75 [ρ 0, ρ 1, ρ 2, ρ 3, ρ 4, ρ 5, ρ 6, ρ 7, ρ 8, ρ 9, ρ 10, ρ 11, ρ 12, ρ 13, ρ 14] (γ 0) 0 [ρ 0, ρ 1, ρ 2, ρ 3, ρ 4, ρ 5, ρ 6, ρ 7, ρ 8, ρ 9, ρ 10, ρ 11, ρ 12, ρ 13, ρ 14, ρ 15, ρ 16, ρ 17, ρ 18, ρ 19] (γ 1) := hJ
  obtain ⟨r0, r1, r2, r3, r4, r5, r6, r7, r8, r9, r10, r11, r12, r13, r14, r15, r16, r17, r18, r19, r20, r21, r22, r23, r24, r25, r26, r27, r28, r29, r30, r31, r32, r33, r34, -⟩ := hr
  have r0 : (0 : Int) ≤ ρ 0 ∧ ρ 0 ≤ 59 := r0
  have r1 : (0 : Int) ≤ ρ 1 ∧ ρ 1 ≤ 60 := r1
  have r2 : (0 : Int) ≤ ρ 2 ∧ ρ 2 ≤ 20 := r2
  have r3 : (2 : Int) ≤ ρ 3 ∧ ρ 3 ≤ 2 := r3
  have r4 : (0 : Int) ≤ ρ 4 ∧ ρ 4 ≤ 50001 := r4
  have r5 : (0 : Int) ≤ ρ 5 ∧ ρ 5 ≤ 3 := r5
  have r6 : (0 : Int) ≤ ρ 6 ∧ ρ 6 ≤ 2000 := r6
  have r7 : (0 : Int) ≤ ρ 7 ∧ ρ 7 ≤ 19 := r7
  have r8 : (0 : Int) ≤ ρ 8 ∧ ρ 8 ≤ 61 := r8
  have r9 : (0 : Int) ≤ ρ 9 ∧ ρ 9 ≤ 2000 := r9
  have r10 : ((-2147483648) : Int) ≤ ρ 10 ∧ ρ 10 ≤ 2147483647 := r10
  have r11 : (0 : Int) ≤ ρ 11 ∧ ρ 11 ≤ 2000 := r11
  have r12 : (0 : Int) ≤ ρ 12 ∧ ρ 12 ≤ 2000 := r12
  have r13 : (0 : Int) ≤ ρ 13 ∧ ρ 13 ≤ 2000 := r13
  have r14 : (0 : Int) ≤ ρ 14 ∧ ρ 14 ≤ 50001 := r14
  have r15 : (0 : Int) ≤ ρ 15 ∧ ρ 15 ≤ 2000 := r15
  have r16 : (0 : Int) ≤ ρ 16 ∧ ρ 16 ≤ 50001 := r16
  have r17 : (0 : Int) ≤ ρ 17 ∧ ρ 17 ≤ 0 := r17
  have r18 : (0 : Int) ≤ ρ 18 ∧ ρ 18 ≤ 2000 := r18
  have r19 : (0 : Int) ≤ ρ 19 ∧ ρ 19 ≤ 2000 := r19
  have r20 : ((-2147483648) : Int) ≤ ρ 20 ∧ ρ 20 ≤ 2147483647 := r20
  have r21 : (3 : Int) ≤ ρ 21 ∧ ρ 21 ≤ 3 := r21
  have r22 : (3 : Int) ≤ ρ 22 ∧ ρ 22 ≤ 3 := r22
  have r23 : (3 : Int) ≤ ρ 23 ∧ ρ 23 ≤ 3 := r23
  have r24 : (0 : Int) ≤ ρ 24 ∧ ρ 24 ≤ 2 := r24
  have r25 : ((-2147483648) : Int) ≤ ρ 25 ∧ ρ 25 ≤ 1099511640064 := r25
  have r26 : ((-2147483648) : Int) ≤ ρ 26 ∧ ρ 26 ≤ 1099511640064 := r26
  have r27 : (0 : Int) ≤ ρ 27 ∧ ρ 27 ≤ 8 := r27
  have r28 : ((-1) : Int) ≤ ρ 28 ∧ ρ 28 ≤ 1999 := r28
  have r29 : (0 : Int) ≤ ρ 29 ∧ ρ 29 ≤ 1999 := r29
  have r30 : (1 : Int) ≤ ρ 30 ∧ ρ 30 ≤ 2000 := r30
  have r31 : (0 : Int) ≤ ρ 31 ∧ ρ 31 ≤ 8 := r31
  have r32 : ((-1) : Int) ≤ ρ 32 ∧ ρ 32 ≤ 1999 := r32
  have r33 : (0 : Int) ≤ ρ 33 ∧ ρ 33 ≤ 1999 := r33
  have r34 : (0 : Int) ≤ ρ 34 ∧ ρ 34 ≤ 3 := r34
  obtain ⟨f0, f1, f2, f3, f4, f5, f6, f7, f8, f9, -⟩ := hf
  have f0 : (0 : Int) ≤ -ρ 7 + ρ 2 + (-1) := f0
  have f1 : (0 : Int) ≤ ρ 30 + -ρ 19 := f1
  have f2 : (0 : Int) ≤ ρ 32 + -ρ 28 := f2
  have f3 : (0 : Int) ≤ ρ 18 + -ρ 15 + (-1) := f3
  have f4 : (0 : Int) ≤ ρ 17 + -ρ 16 + 50000 := f4
  have f5 : (0 : Int) ≤ ρ 1 + -ρ 0 + (-1) := f5
  have f6 : (0 : Int) ≤ ρ 19 + -ρ 9 := f6
  have f7 : (0 : Int) ≤ ρ 18 + -ρ 15 := f7
  have f8 : (0 : Int) ≤ ρ 17 + -ρ 5 := f8
  have f9 : (0 : Int) ≤ ρ 16 + -ρ 4 := f9
  obtain ⟨m0, m1, m2, m3, m4, m5, m6, m7, m8, m9, m10, m11, m12, m13, m14, m15, m16, m17, m18, m19, m20, m21, m22, m23, m24, m25, m26, m27, m28, m29, m30, m31, m32, m33, -⟩ := hm
  have m0 : γ 0 15 0 32 = ρ 1 := m0
  have m1 : γ 0 15 0 13 = ρ 2 := m1
  have m2 : γ 0 71 0 (ρ 0) = ρ 3 := m2
  have m3 : γ 0 15 0 72 = ρ 4 := m3
  have m4 : γ 0 15 0 77 = ρ 5 := m4
  have m5 : γ 0 15 0 90 = ρ 6 := m5
  have m6 : γ 0 69 0 (ρ 0) = ρ 7 := m6
  have m7 : γ 0 15 0 44 = ρ 8 := m7
  have m8 : γ 0 15 0 71 = ρ 9 := m8
  have m9 : γ 0 15 0 76 = ρ 10 := m9
  have m10 : γ 0 15 0 81 = ρ 11 := m10
  have m11 : γ 0 15 0 82 = ρ 12 := m11
  have m12 : γ 0 15 0 83 = ρ 13 := m12
  have m13 : γ 0 15 0 94 = ρ 14 := m13
  have m14 : γ 1 15 0 72 = ρ 16 := m14
  have m15 : γ 1 15 0 77 = ρ 17 := m15
  have m16 : γ 1 15 0 90 = ρ 18 := m16
  have m17 : γ 1 15 0 71 = ρ 19 := m17
  have m18 : γ 1 15 0 81 = ρ 9 := m18
  have m19 : γ 1 107 0 (ρ 15) = ρ 20 := m19
  have m20 : γ 0 66 0 (ρ 7) = ρ 21 := m20
  have m21 : γ 0 70 0 (4 * ρ 0) = ρ 22 := m21
  have m22 : γ 0 70 0 (4 * ρ 0 + 1) = ρ 23 := m22
  have m23 : γ 0 70 0 (4 * ρ 0 + 2) = ρ 24 := m23
  have m24 : γ 1 105 0 (4 * ρ 15 + 2) = ρ 25 := m24
  have m25 : γ 1 105 0 (4 * ρ 15 + 3) = ρ 26 := m25
  have m26 : γ 1 97 0 (ρ 19) = ρ 27 := m26
  have m27 : γ 1 100 0 (ρ 7) = ρ 28 := m27
  have m28 : γ 1 101 0 (ρ 7) = ρ 29 := m28
  have m29 : γ 6 15 0 71 = ρ 30 := m29
  have m30 : γ 6 97 0 (ρ 19) = ρ 31 := m30
  have m31 : γ 6 100 0 (ρ 7) = ρ 32 := m31
  have m32 : γ 6 101 0 (ρ 7) = ρ 33 := m32
  have m33 : γ 6 15 0 77 = ρ 34 := m33
  obtain ⟨⟨⟨⟨⟨⟨-, c1⟩, c2⟩, c3⟩, c4⟩, c5⟩, c6⟩ := hc
  have c1 : ∀ (G : Nat) (k j : Int), ¬ rMdP m51_ G j → γ 1 G k j = γ 0 G k j := c1
  have c2 : γ 2 = rUp (γ 1) 102 0 0 (ρ 20) := c2
  have c3 : γ 3 = rUp (γ 2) 102 0 1 (ρ 20) := c3
  have c4 : γ 4 = rUp (γ 3) 102 0 2 (ρ 25) := c4
  have c5 : γ 5 = rUp (γ 4) 102 0 3 (ρ 26) := c5
  have c6 : ∀ (G : Nat) (k j : Int), ¬ rMdP m40_ G j → γ 6 G k j = γ 5 G k j := c6
  obtain ⟨l0, -⟩ := hl
  have l0 : sn57 [ρ 7, ρ 0, ρ 2, ρ 19, ρ 27, ρ 28, ρ 29, ρ 10, ρ 17] (γ 5) 0 0 (γ 6) := hS57 _ _ _ _ _ l0
  show jn75 [ρ 0, ρ 1, ρ 2, ρ 3, ρ 4, ρ 5, ρ 6, ρ 7, ρ 8, ρ 9, ρ 10, ρ 11, ρ 12, ρ 13, ρ 14] (γ 0) 0 [ρ 0, ρ 1, ρ 2, ρ 3, ρ 4, ρ 5, ρ 6, ρ 7, ρ 8, ρ 9, ρ 10, ρ 11, ρ 12, ρ 13, ρ 14, ρ 15 + 1, ρ 16, ρ 34, ρ 18, ρ 30] (γ 6)
  have hD : en75 (γ 0) (0, [ρ 0, ρ 15], γ 1) = .inl (0, [ρ 0, ρ 15 + 1], γ 6) := by
    unfold en75
    refine (if_pos (show (0 : Nat) = 0 by decide)).trans ?_
    refine (zLet_eq (show _ = γ 1 from rfl)).trans ?_
    refine (zLet_eq (show _ = ρ 0 from rfl)).trans ?_
    refine (zLet_eq (show _ = ρ 15 from rfl)).trans ?_
    refine (zLet_eq m2).trans ?_
    refine (zLet_eq m6).trans ?_
    refine (zLet_eq m15).trans ?_
    refine (zLet_eq m16).trans ?_
    refine (if_neg (show ¬ (ρ 15 ≥ ρ 18) by omega)).trans ?_
    refine (if_neg (show ¬ (ρ 17 ≠ 0) by omega)).trans ?_
    refine (if_pos (show ρ 3 ≤ 2 by omega)).trans ?_
    refine (if_pos (show ρ 3 ≠ 1 by omega)).trans ?_
    refine (zLet_eq m19).trans ?_
    refine (zLet_eq m20).trans ?_
    refine (if_neg (show ¬ (0 ≥ ρ 21) by omega)).trans ?_
    refine (zLet_eq m21).trans ?_
    refine (if_neg (show ¬ (ρ 22 ≠ 3) by omega)).trans ?_
    refine (zLet_eq c2.symm).trans ?_
    refine (if_neg (show ¬ (1 ≥ ρ 21) by omega)).trans ?_
    refine (zLet_eq m22).trans ?_
    refine (if_neg (show ¬ (ρ 23 ≠ 3) by omega)).trans ?_
    refine (zLet_eq c3.symm).trans ?_
    refine (if_neg (show ¬ (2 ≥ ρ 21) by omega)).trans ?_
    refine (zLet_eq m23).trans ?_
    refine (if_pos (show ρ 24 ≠ 3 by omega)).trans ?_
    refine (zLet_eq m24).trans ?_
    refine (zLet_eq c4.symm).trans ?_
    refine (if_pos (show 3 ≥ ρ 21 by omega)).trans ?_
    refine (zLet_eq m25).trans ?_
    refine (zLet_eq c5.symm).trans ?_
    refine (zLet_eq (show fn57 [ρ 7, ρ 0] (γ 5) = (0, 0, γ 6) from l0.symm)).trans ?_
    refine (zLet_eq (show _ = γ 6 from rfl)).trans ?_
    rfl
  exact zGoo_ato hJ hD
theorem vn75a0_28 {S : Nat → zSpc} (hS57 : ∀ x g o v gz, S 57 x g o v gz → sn57 x g o v gz) (hS73 : ∀ x g o v gz, S 73 x g o v gz → sn73 x g o v gz) {a : List Int} {g : rHp} : ∀ (ρ : Nat → Int) (γ : Nat → rHp), jn75 a g 0 (zAg (zNA a75_ 0) ρ) (γ 1) → zO 15 S a g q75a0_28 ρ γ → zGl (fun i vs g1 => jn75 a g i vs g1) (sn75 a g) q75a0_28 ρ γ := by
  intro ρ γ hJ h
  obtain ⟨ha, hg, hr, hf, hm, hc, hl⟩ := h
  have ha : a = [ρ 0, ρ 1, ρ 2, ρ 3, ρ 4, ρ 5, ρ 6, ρ 7, ρ 8, ρ 9, ρ 10, ρ 11, ρ 12, ρ 13, ρ 14] := ha
  subst ha
  subst hg
  have hJ : jn75 [ρ 0, ρ 1, ρ 2, ρ 3, ρ 4, ρ 5, ρ 6, ρ 7, ρ 8, ρ 9, ρ 10, ρ 11, ρ 12, ρ 13, ρ 14] (γ 0) 0 [ρ 0, ρ 1, ρ 2, ρ 3, ρ 4, ρ 5, ρ 6, ρ 7, ρ 8, ρ 9, ρ 10, ρ 11, ρ 12, ρ 13, ρ 14, ρ 15, ρ 16, ρ 17, ρ 18, ρ 19] (γ 1) := hJ
  obtain ⟨r0, r1, r2, r3, r4, r5, r6, r7, r8, r9, r10, r11, r12, r13, r14, r15, r16, r17, r18, r19, r20, r21, r22, r23, r24, r25, r26, r27, r28, r29, r30, r31, r32, r33, r34, r35, -⟩ := hr
  have r0 : (0 : Int) ≤ ρ 0 ∧ ρ 0 ≤ 59 := r0
  have r1 : (0 : Int) ≤ ρ 1 ∧ ρ 1 ≤ 60 := r1
  have r2 : (0 : Int) ≤ ρ 2 ∧ ρ 2 ≤ 20 := r2
  have r3 : (2 : Int) ≤ ρ 3 ∧ ρ 3 ≤ 2 := r3
  have r4 : (0 : Int) ≤ ρ 4 ∧ ρ 4 ≤ 50001 := r4
  have r5 : (0 : Int) ≤ ρ 5 ∧ ρ 5 ≤ 3 := r5
  have r6 : (0 : Int) ≤ ρ 6 ∧ ρ 6 ≤ 2000 := r6
  have r7 : (0 : Int) ≤ ρ 7 ∧ ρ 7 ≤ 19 := r7
  have r8 : (0 : Int) ≤ ρ 8 ∧ ρ 8 ≤ 61 := r8
  have r9 : (0 : Int) ≤ ρ 9 ∧ ρ 9 ≤ 2000 := r9
  have r10 : ((-2147483648) : Int) ≤ ρ 10 ∧ ρ 10 ≤ 2147483647 := r10
  have r11 : (0 : Int) ≤ ρ 11 ∧ ρ 11 ≤ 2000 := r11
  have r12 : (0 : Int) ≤ ρ 12 ∧ ρ 12 ≤ 2000 := r12
  have r13 : (0 : Int) ≤ ρ 13 ∧ ρ 13 ≤ 2000 := r13
  have r14 : (0 : Int) ≤ ρ 14 ∧ ρ 14 ≤ 50001 := r14
  have r15 : (0 : Int) ≤ ρ 15 ∧ ρ 15 ≤ 2000 := r15
  have r16 : (0 : Int) ≤ ρ 16 ∧ ρ 16 ≤ 50001 := r16
  have r17 : (0 : Int) ≤ ρ 17 ∧ ρ 17 ≤ 0 := r17
  have r18 : (0 : Int) ≤ ρ 18 ∧ ρ 18 ≤ 2000 := r18
  have r19 : (0 : Int) ≤ ρ 19 ∧ ρ 19 ≤ 2000 := r19
  have r20 : ((-2147483648) : Int) ≤ ρ 20 ∧ ρ 20 ≤ 2147483647 := r20
  have r21 : (4 : Int) ≤ ρ 21 ∧ ρ 21 ≤ 4 := r21
  have r22 : (3 : Int) ≤ ρ 22 ∧ ρ 22 ≤ 3 := r22
  have r23 : (3 : Int) ≤ ρ 23 ∧ ρ 23 ≤ 3 := r23
  have r24 : (0 : Int) ≤ ρ 24 ∧ ρ 24 ≤ 2 := r24
  have r25 : ((-2147483648) : Int) ≤ ρ 25 ∧ ρ 25 ≤ 1099511640064 := r25
  have r26 : (0 : Int) ≤ ρ 26 ∧ ρ 26 ≤ 2 := r26
  have r27 : ((-2147483648) : Int) ≤ ρ 27 ∧ ρ 27 ≤ 1099511640064 := r27
  have r28 : (0 : Int) ≤ ρ 28 ∧ ρ 28 ≤ 8 := r28
  have r29 : ((-1) : Int) ≤ ρ 29 ∧ ρ 29 ≤ 1999 := r29
  have r30 : (0 : Int) ≤ ρ 30 ∧ ρ 30 ≤ 1999 := r30
  have r31 : (1 : Int) ≤ ρ 31 ∧ ρ 31 ≤ 2000 := r31
  have r32 : (0 : Int) ≤ ρ 32 ∧ ρ 32 ≤ 8 := r32
  have r33 : ((-1) : Int) ≤ ρ 33 ∧ ρ 33 ≤ 1999 := r33
  have r34 : (0 : Int) ≤ ρ 34 ∧ ρ 34 ≤ 1999 := r34
  have r35 : (0 : Int) ≤ ρ 35 ∧ ρ 35 ≤ 3 := r35
  obtain ⟨f0, f1, f2, f3, f4, f5, f6, f7, f8, f9, -⟩ := hf
  have f0 : (0 : Int) ≤ -ρ 7 + ρ 2 + (-1) := f0
  have f1 : (0 : Int) ≤ ρ 31 + -ρ 19 := f1
  have f2 : (0 : Int) ≤ ρ 33 + -ρ 29 := f2
  have f3 : (0 : Int) ≤ ρ 18 + -ρ 15 + (-1) := f3
  have f4 : (0 : Int) ≤ ρ 17 + -ρ 16 + 50000 := f4
  have f5 : (0 : Int) ≤ ρ 1 + -ρ 0 + (-1) := f5
  have f6 : (0 : Int) ≤ ρ 19 + -ρ 9 := f6
  have f7 : (0 : Int) ≤ ρ 18 + -ρ 15 := f7
  have f8 : (0 : Int) ≤ ρ 17 + -ρ 5 := f8
  have f9 : (0 : Int) ≤ ρ 16 + -ρ 4 := f9
  obtain ⟨m0, m1, m2, m3, m4, m5, m6, m7, m8, m9, m10, m11, m12, m13, m14, m15, m16, m17, m18, m19, m20, m21, m22, m23, m24, m25, m26, m27, m28, m29, m30, m31, m32, m33, m34, -⟩ := hm
  have m0 : γ 0 15 0 32 = ρ 1 := m0
  have m1 : γ 0 15 0 13 = ρ 2 := m1
  have m2 : γ 0 71 0 (ρ 0) = ρ 3 := m2
  have m3 : γ 0 15 0 72 = ρ 4 := m3
  have m4 : γ 0 15 0 77 = ρ 5 := m4
  have m5 : γ 0 15 0 90 = ρ 6 := m5
  have m6 : γ 0 69 0 (ρ 0) = ρ 7 := m6
  have m7 : γ 0 15 0 44 = ρ 8 := m7
  have m8 : γ 0 15 0 71 = ρ 9 := m8
  have m9 : γ 0 15 0 76 = ρ 10 := m9
  have m10 : γ 0 15 0 81 = ρ 11 := m10
  have m11 : γ 0 15 0 82 = ρ 12 := m11
  have m12 : γ 0 15 0 83 = ρ 13 := m12
  have m13 : γ 0 15 0 94 = ρ 14 := m13
  have m14 : γ 1 15 0 72 = ρ 16 := m14
  have m15 : γ 1 15 0 77 = ρ 17 := m15
  have m16 : γ 1 15 0 90 = ρ 18 := m16
  have m17 : γ 1 15 0 71 = ρ 19 := m17
  have m18 : γ 1 15 0 81 = ρ 9 := m18
  have m19 : γ 1 107 0 (ρ 15) = ρ 20 := m19
  have m20 : γ 0 66 0 (ρ 7) = ρ 21 := m20
  have m21 : γ 0 70 0 (4 * ρ 0) = ρ 22 := m21
  have m22 : γ 0 70 0 (4 * ρ 0 + 1) = ρ 23 := m22
  have m23 : γ 0 70 0 (4 * ρ 0 + 2) = ρ 24 := m23
  have m24 : γ 1 105 0 (4 * ρ 15 + 2) = ρ 25 := m24
  have m25 : γ 0 70 0 (4 * ρ 0 + 3) = ρ 26 := m25
  have m26 : γ 1 105 0 (4 * ρ 15 + 3) = ρ 27 := m26
  have m27 : γ 1 97 0 (ρ 19) = ρ 28 := m27
  have m28 : γ 1 100 0 (ρ 7) = ρ 29 := m28
  have m29 : γ 1 101 0 (ρ 7) = ρ 30 := m29
  have m30 : γ 6 15 0 71 = ρ 31 := m30
  have m31 : γ 6 97 0 (ρ 19) = ρ 32 := m31
  have m32 : γ 6 100 0 (ρ 7) = ρ 33 := m32
  have m33 : γ 6 101 0 (ρ 7) = ρ 34 := m33
  have m34 : γ 6 15 0 77 = ρ 35 := m34
  obtain ⟨⟨⟨⟨⟨⟨-, c1⟩, c2⟩, c3⟩, c4⟩, c5⟩, c6⟩ := hc
  have c1 : ∀ (G : Nat) (k j : Int), ¬ rMdP m51_ G j → γ 1 G k j = γ 0 G k j := c1
  have c2 : γ 2 = rUp (γ 1) 102 0 0 (ρ 20) := c2
  have c3 : γ 3 = rUp (γ 2) 102 0 1 (ρ 20) := c3
  have c4 : γ 4 = rUp (γ 3) 102 0 2 (ρ 25) := c4
  have c5 : γ 5 = rUp (γ 4) 102 0 3 (ρ 27) := c5
  have c6 : ∀ (G : Nat) (k j : Int), ¬ rMdP m40_ G j → γ 6 G k j = γ 5 G k j := c6
  obtain ⟨l0, -⟩ := hl
  have l0 : sn57 [ρ 7, ρ 0, ρ 2, ρ 19, ρ 28, ρ 29, ρ 30, ρ 10, ρ 17] (γ 5) 0 0 (γ 6) := hS57 _ _ _ _ _ l0
  show jn75 [ρ 0, ρ 1, ρ 2, ρ 3, ρ 4, ρ 5, ρ 6, ρ 7, ρ 8, ρ 9, ρ 10, ρ 11, ρ 12, ρ 13, ρ 14] (γ 0) 0 [ρ 0, ρ 1, ρ 2, ρ 3, ρ 4, ρ 5, ρ 6, ρ 7, ρ 8, ρ 9, ρ 10, ρ 11, ρ 12, ρ 13, ρ 14, ρ 15 + 1, ρ 16, ρ 35, ρ 18, ρ 31] (γ 6)
  have hD : en75 (γ 0) (0, [ρ 0, ρ 15], γ 1) = .inl (0, [ρ 0, ρ 15 + 1], γ 6) := by
    unfold en75
    refine (if_pos (show (0 : Nat) = 0 by decide)).trans ?_
    refine (zLet_eq (show _ = γ 1 from rfl)).trans ?_
    refine (zLet_eq (show _ = ρ 0 from rfl)).trans ?_
    refine (zLet_eq (show _ = ρ 15 from rfl)).trans ?_
    refine (zLet_eq m2).trans ?_
    refine (zLet_eq m6).trans ?_
    refine (zLet_eq m15).trans ?_
    refine (zLet_eq m16).trans ?_
    refine (if_neg (show ¬ (ρ 15 ≥ ρ 18) by omega)).trans ?_
    refine (if_neg (show ¬ (ρ 17 ≠ 0) by omega)).trans ?_
    refine (if_pos (show ρ 3 ≤ 2 by omega)).trans ?_
    refine (if_pos (show ρ 3 ≠ 1 by omega)).trans ?_
    refine (zLet_eq m19).trans ?_
    refine (zLet_eq m20).trans ?_
    refine (if_neg (show ¬ (0 ≥ ρ 21) by omega)).trans ?_
    refine (zLet_eq m21).trans ?_
    refine (if_neg (show ¬ (ρ 22 ≠ 3) by omega)).trans ?_
    refine (zLet_eq c2.symm).trans ?_
    refine (if_neg (show ¬ (1 ≥ ρ 21) by omega)).trans ?_
    refine (zLet_eq m22).trans ?_
    refine (if_neg (show ¬ (ρ 23 ≠ 3) by omega)).trans ?_
    refine (zLet_eq c3.symm).trans ?_
    refine (if_neg (show ¬ (2 ≥ ρ 21) by omega)).trans ?_
    refine (zLet_eq m23).trans ?_
    refine (if_pos (show ρ 24 ≠ 3 by omega)).trans ?_
    refine (zLet_eq m24).trans ?_
    refine (zLet_eq c4.symm).trans ?_
    refine (if_neg (show ¬ (3 ≥ ρ 21) by omega)).trans ?_
    refine (zLet_eq m25).trans ?_
    refine (if_pos (show ρ 26 ≠ 3 by omega)).trans ?_
    refine (zLet_eq m26).trans ?_
    refine (zLet_eq c5.symm).trans ?_
    refine (zLet_eq (show fn57 [ρ 7, ρ 0] (γ 5) = (0, 0, γ 6) from l0.symm)).trans ?_
    refine (zLet_eq (show _ = γ 6 from rfl)).trans ?_
    rfl
  exact zGoo_ato hJ hD
theorem vn75a0_29 {S : Nat → zSpc} (hS57 : ∀ x g o v gz, S 57 x g o v gz → sn57 x g o v gz) (hS73 : ∀ x g o v gz, S 73 x g o v gz → sn73 x g o v gz) {a : List Int} {g : rHp} : ∀ (ρ : Nat → Int) (γ : Nat → rHp), jn75 a g 0 (zAg (zNA a75_ 0) ρ) (γ 1) → zO 15 S a g q75a0_29 ρ γ → zGl (fun i vs g1 => jn75 a g i vs g1) (sn75 a g) q75a0_29 ρ γ := by
  intro ρ γ hJ h
  obtain ⟨ha, hg, hr, hf, hm, hc, hl⟩ := h
  have ha : a = [ρ 0, ρ 1, ρ 2, ρ 3, ρ 4, ρ 5, ρ 6, ρ 7, ρ 8, ρ 9, ρ 10, ρ 11, ρ 12, ρ 13, ρ 14] := ha
  subst ha
  subst hg
  have hJ : jn75 [ρ 0, ρ 1, ρ 2, ρ 3, ρ 4, ρ 5, ρ 6, ρ 7, ρ 8, ρ 9, ρ 10, ρ 11, ρ 12, ρ 13, ρ 14] (γ 0) 0 [ρ 0, ρ 1, ρ 2, ρ 3, ρ 4, ρ 5, ρ 6, ρ 7, ρ 8, ρ 9, ρ 10, ρ 11, ρ 12, ρ 13, ρ 14, ρ 15, ρ 16, ρ 17, ρ 18, ρ 19] (γ 1) := hJ
  obtain ⟨r0, r1, r2, r3, r4, r5, r6, r7, r8, r9, r10, r11, r12, r13, r14, r15, r16, r17, r18, r19, r20, r21, r22, r23, r24, r25, r26, r27, r28, r29, r30, r31, r32, r33, r34, -⟩ := hr
  have r0 : (0 : Int) ≤ ρ 0 ∧ ρ 0 ≤ 59 := r0
  have r1 : (0 : Int) ≤ ρ 1 ∧ ρ 1 ≤ 60 := r1
  have r2 : (0 : Int) ≤ ρ 2 ∧ ρ 2 ≤ 20 := r2
  have r3 : (2 : Int) ≤ ρ 3 ∧ ρ 3 ≤ 2 := r3
  have r4 : (0 : Int) ≤ ρ 4 ∧ ρ 4 ≤ 50001 := r4
  have r5 : (0 : Int) ≤ ρ 5 ∧ ρ 5 ≤ 3 := r5
  have r6 : (0 : Int) ≤ ρ 6 ∧ ρ 6 ≤ 2000 := r6
  have r7 : (0 : Int) ≤ ρ 7 ∧ ρ 7 ≤ 19 := r7
  have r8 : (0 : Int) ≤ ρ 8 ∧ ρ 8 ≤ 61 := r8
  have r9 : (0 : Int) ≤ ρ 9 ∧ ρ 9 ≤ 2000 := r9
  have r10 : ((-2147483648) : Int) ≤ ρ 10 ∧ ρ 10 ≤ 2147483647 := r10
  have r11 : (0 : Int) ≤ ρ 11 ∧ ρ 11 ≤ 2000 := r11
  have r12 : (0 : Int) ≤ ρ 12 ∧ ρ 12 ≤ 2000 := r12
  have r13 : (0 : Int) ≤ ρ 13 ∧ ρ 13 ≤ 2000 := r13
  have r14 : (0 : Int) ≤ ρ 14 ∧ ρ 14 ≤ 50001 := r14
  have r15 : (0 : Int) ≤ ρ 15 ∧ ρ 15 ≤ 2000 := r15
  have r16 : (0 : Int) ≤ ρ 16 ∧ ρ 16 ≤ 50001 := r16
  have r17 : (0 : Int) ≤ ρ 17 ∧ ρ 17 ≤ 0 := r17
  have r18 : (0 : Int) ≤ ρ 18 ∧ ρ 18 ≤ 2000 := r18
  have r19 : (0 : Int) ≤ ρ 19 ∧ ρ 19 ≤ 2000 := r19
  have r20 : ((-2147483648) : Int) ≤ ρ 20 ∧ ρ 20 ≤ 2147483647 := r20
  have r21 : (4 : Int) ≤ ρ 21 ∧ ρ 21 ≤ 4 := r21
  have r22 : (3 : Int) ≤ ρ 22 ∧ ρ 22 ≤ 3 := r22
  have r23 : (3 : Int) ≤ ρ 23 ∧ ρ 23 ≤ 3 := r23
  have r24 : (0 : Int) ≤ ρ 24 ∧ ρ 24 ≤ 2 := r24
  have r25 : ((-2147483648) : Int) ≤ ρ 25 ∧ ρ 25 ≤ 1099511640064 := r25
  have r26 : (3 : Int) ≤ ρ 26 ∧ ρ 26 ≤ 3 := r26
  have r27 : (0 : Int) ≤ ρ 27 ∧ ρ 27 ≤ 8 := r27
  have r28 : ((-1) : Int) ≤ ρ 28 ∧ ρ 28 ≤ 1999 := r28
  have r29 : (0 : Int) ≤ ρ 29 ∧ ρ 29 ≤ 1999 := r29
  have r30 : (1 : Int) ≤ ρ 30 ∧ ρ 30 ≤ 2000 := r30
  have r31 : (0 : Int) ≤ ρ 31 ∧ ρ 31 ≤ 8 := r31
  have r32 : ((-1) : Int) ≤ ρ 32 ∧ ρ 32 ≤ 1999 := r32
  have r33 : (0 : Int) ≤ ρ 33 ∧ ρ 33 ≤ 1999 := r33
  have r34 : (0 : Int) ≤ ρ 34 ∧ ρ 34 ≤ 3 := r34
  obtain ⟨f0, f1, f2, f3, f4, f5, f6, f7, f8, f9, -⟩ := hf
  have f0 : (0 : Int) ≤ -ρ 7 + ρ 2 + (-1) := f0
  have f1 : (0 : Int) ≤ ρ 30 + -ρ 19 := f1
  have f2 : (0 : Int) ≤ ρ 32 + -ρ 28 := f2
  have f3 : (0 : Int) ≤ ρ 18 + -ρ 15 + (-1) := f3
  have f4 : (0 : Int) ≤ ρ 17 + -ρ 16 + 50000 := f4
  have f5 : (0 : Int) ≤ ρ 1 + -ρ 0 + (-1) := f5
  have f6 : (0 : Int) ≤ ρ 19 + -ρ 9 := f6
  have f7 : (0 : Int) ≤ ρ 18 + -ρ 15 := f7
  have f8 : (0 : Int) ≤ ρ 17 + -ρ 5 := f8
  have f9 : (0 : Int) ≤ ρ 16 + -ρ 4 := f9
  obtain ⟨m0, m1, m2, m3, m4, m5, m6, m7, m8, m9, m10, m11, m12, m13, m14, m15, m16, m17, m18, m19, m20, m21, m22, m23, m24, m25, m26, m27, m28, m29, m30, m31, m32, m33, -⟩ := hm
  have m0 : γ 0 15 0 32 = ρ 1 := m0
  have m1 : γ 0 15 0 13 = ρ 2 := m1
  have m2 : γ 0 71 0 (ρ 0) = ρ 3 := m2
  have m3 : γ 0 15 0 72 = ρ 4 := m3
  have m4 : γ 0 15 0 77 = ρ 5 := m4
  have m5 : γ 0 15 0 90 = ρ 6 := m5
  have m6 : γ 0 69 0 (ρ 0) = ρ 7 := m6
  have m7 : γ 0 15 0 44 = ρ 8 := m7
  have m8 : γ 0 15 0 71 = ρ 9 := m8
  have m9 : γ 0 15 0 76 = ρ 10 := m9
  have m10 : γ 0 15 0 81 = ρ 11 := m10
  have m11 : γ 0 15 0 82 = ρ 12 := m11
  have m12 : γ 0 15 0 83 = ρ 13 := m12
  have m13 : γ 0 15 0 94 = ρ 14 := m13
  have m14 : γ 1 15 0 72 = ρ 16 := m14
  have m15 : γ 1 15 0 77 = ρ 17 := m15
  have m16 : γ 1 15 0 90 = ρ 18 := m16
  have m17 : γ 1 15 0 71 = ρ 19 := m17
  have m18 : γ 1 15 0 81 = ρ 9 := m18
  have m19 : γ 1 107 0 (ρ 15) = ρ 20 := m19
  have m20 : γ 0 66 0 (ρ 7) = ρ 21 := m20
  have m21 : γ 0 70 0 (4 * ρ 0) = ρ 22 := m21
  have m22 : γ 0 70 0 (4 * ρ 0 + 1) = ρ 23 := m22
  have m23 : γ 0 70 0 (4 * ρ 0 + 2) = ρ 24 := m23
  have m24 : γ 1 105 0 (4 * ρ 15 + 2) = ρ 25 := m24
  have m25 : γ 0 70 0 (4 * ρ 0 + 3) = ρ 26 := m25
  have m26 : γ 1 97 0 (ρ 19) = ρ 27 := m26
  have m27 : γ 1 100 0 (ρ 7) = ρ 28 := m27
  have m28 : γ 1 101 0 (ρ 7) = ρ 29 := m28
  have m29 : γ 6 15 0 71 = ρ 30 := m29
  have m30 : γ 6 97 0 (ρ 19) = ρ 31 := m30
  have m31 : γ 6 100 0 (ρ 7) = ρ 32 := m31
  have m32 : γ 6 101 0 (ρ 7) = ρ 33 := m32
  have m33 : γ 6 15 0 77 = ρ 34 := m33
  obtain ⟨⟨⟨⟨⟨⟨-, c1⟩, c2⟩, c3⟩, c4⟩, c5⟩, c6⟩ := hc
  have c1 : ∀ (G : Nat) (k j : Int), ¬ rMdP m51_ G j → γ 1 G k j = γ 0 G k j := c1
  have c2 : γ 2 = rUp (γ 1) 102 0 0 (ρ 20) := c2
  have c3 : γ 3 = rUp (γ 2) 102 0 1 (ρ 20) := c3
  have c4 : γ 4 = rUp (γ 3) 102 0 2 (ρ 25) := c4
  have c5 : γ 5 = rUp (γ 4) 102 0 3 (ρ 20) := c5
  have c6 : ∀ (G : Nat) (k j : Int), ¬ rMdP m40_ G j → γ 6 G k j = γ 5 G k j := c6
  obtain ⟨l0, -⟩ := hl
  have l0 : sn57 [ρ 7, ρ 0, ρ 2, ρ 19, ρ 27, ρ 28, ρ 29, ρ 10, ρ 17] (γ 5) 0 0 (γ 6) := hS57 _ _ _ _ _ l0
  show jn75 [ρ 0, ρ 1, ρ 2, ρ 3, ρ 4, ρ 5, ρ 6, ρ 7, ρ 8, ρ 9, ρ 10, ρ 11, ρ 12, ρ 13, ρ 14] (γ 0) 0 [ρ 0, ρ 1, ρ 2, ρ 3, ρ 4, ρ 5, ρ 6, ρ 7, ρ 8, ρ 9, ρ 10, ρ 11, ρ 12, ρ 13, ρ 14, ρ 15 + 1, ρ 16, ρ 34, ρ 18, ρ 30] (γ 6)
  have hD : en75 (γ 0) (0, [ρ 0, ρ 15], γ 1) = .inl (0, [ρ 0, ρ 15 + 1], γ 6) := by
    unfold en75
    refine (if_pos (show (0 : Nat) = 0 by decide)).trans ?_
    refine (zLet_eq (show _ = γ 1 from rfl)).trans ?_
    refine (zLet_eq (show _ = ρ 0 from rfl)).trans ?_
    refine (zLet_eq (show _ = ρ 15 from rfl)).trans ?_
    refine (zLet_eq m2).trans ?_
    refine (zLet_eq m6).trans ?_
    refine (zLet_eq m15).trans ?_
    refine (zLet_eq m16).trans ?_
    refine (if_neg (show ¬ (ρ 15 ≥ ρ 18) by omega)).trans ?_
    refine (if_neg (show ¬ (ρ 17 ≠ 0) by omega)).trans ?_
    refine (if_pos (show ρ 3 ≤ 2 by omega)).trans ?_
    refine (if_pos (show ρ 3 ≠ 1 by omega)).trans ?_
    refine (zLet_eq m19).trans ?_
    refine (zLet_eq m20).trans ?_
    refine (if_neg (show ¬ (0 ≥ ρ 21) by omega)).trans ?_
    refine (zLet_eq m21).trans ?_
    refine (if_neg (show ¬ (ρ 22 ≠ 3) by omega)).trans ?_
    refine (zLet_eq c2.symm).trans ?_
    refine (if_neg (show ¬ (1 ≥ ρ 21) by omega)).trans ?_
    refine (zLet_eq m22).trans ?_
    refine (if_neg (show ¬ (ρ 23 ≠ 3) by omega)).trans ?_
    refine (zLet_eq c3.symm).trans ?_
    refine (if_neg (show ¬ (2 ≥ ρ 21) by omega)).trans ?_
    refine (zLet_eq m23).trans ?_
    refine (if_pos (show ρ 24 ≠ 3 by omega)).trans ?_
    refine (zLet_eq m24).trans ?_
    refine (zLet_eq c4.symm).trans ?_
    refine (if_neg (show ¬ (3 ≥ ρ 21) by omega)).trans ?_
    refine (zLet_eq m25).trans ?_
    refine (if_neg (show ¬ (ρ 26 ≠ 3) by omega)).trans ?_
    refine (zLet_eq c5.symm).trans ?_
    refine (zLet_eq (show fn57 [ρ 7, ρ 0] (γ 5) = (0, 0, γ 6) from l0.symm)).trans ?_
    refine (zLet_eq (show _ = γ 6 from rfl)).trans ?_
    rfl
  exact zGoo_ato hJ hD
theorem vn75a0_30 {S : Nat → zSpc} (hS57 : ∀ x g o v gz, S 57 x g o v gz → sn57 x g o v gz) (hS73 : ∀ x g o v gz, S 73 x g o v gz → sn73 x g o v gz) {a : List Int} {g : rHp} : ∀ (ρ : Nat → Int) (γ : Nat → rHp), jn75 a g 0 (zAg (zNA a75_ 0) ρ) (γ 1) → zO 15 S a g q75a0_30 ρ γ → zGl (fun i vs g1 => jn75 a g i vs g1) (sn75 a g) q75a0_30 ρ γ := by
  intro ρ γ hJ h
  obtain ⟨ha, hg, hr, hf, hm, hc, hl⟩ := h
  have ha : a = [ρ 0, ρ 1, ρ 2, ρ 3, ρ 4, ρ 5, ρ 6, ρ 7, ρ 8, ρ 9, ρ 10, ρ 11, ρ 12, ρ 13, ρ 14] := ha
  subst ha
  subst hg
  have hJ : jn75 [ρ 0, ρ 1, ρ 2, ρ 3, ρ 4, ρ 5, ρ 6, ρ 7, ρ 8, ρ 9, ρ 10, ρ 11, ρ 12, ρ 13, ρ 14] (γ 0) 0 [ρ 0, ρ 1, ρ 2, ρ 3, ρ 4, ρ 5, ρ 6, ρ 7, ρ 8, ρ 9, ρ 10, ρ 11, ρ 12, ρ 13, ρ 14, ρ 15, ρ 16, ρ 17, ρ 18, ρ 19] (γ 1) := hJ
  obtain ⟨r0, r1, r2, r3, r4, r5, r6, r7, r8, r9, r10, r11, r12, r13, r14, r15, r16, r17, r18, r19, r20, r21, r22, r23, r24, r25, r26, r27, r28, r29, r30, r31, r32, r33, -⟩ := hr
  have r0 : (0 : Int) ≤ ρ 0 ∧ ρ 0 ≤ 59 := r0
  have r1 : (0 : Int) ≤ ρ 1 ∧ ρ 1 ≤ 60 := r1
  have r2 : (0 : Int) ≤ ρ 2 ∧ ρ 2 ≤ 20 := r2
  have r3 : (2 : Int) ≤ ρ 3 ∧ ρ 3 ≤ 2 := r3
  have r4 : (0 : Int) ≤ ρ 4 ∧ ρ 4 ≤ 50001 := r4
  have r5 : (0 : Int) ≤ ρ 5 ∧ ρ 5 ≤ 3 := r5
  have r6 : (0 : Int) ≤ ρ 6 ∧ ρ 6 ≤ 2000 := r6
  have r7 : (0 : Int) ≤ ρ 7 ∧ ρ 7 ≤ 19 := r7
  have r8 : (0 : Int) ≤ ρ 8 ∧ ρ 8 ≤ 61 := r8
  have r9 : (0 : Int) ≤ ρ 9 ∧ ρ 9 ≤ 2000 := r9
  have r10 : ((-2147483648) : Int) ≤ ρ 10 ∧ ρ 10 ≤ 2147483647 := r10
  have r11 : (0 : Int) ≤ ρ 11 ∧ ρ 11 ≤ 2000 := r11
  have r12 : (0 : Int) ≤ ρ 12 ∧ ρ 12 ≤ 2000 := r12
  have r13 : (0 : Int) ≤ ρ 13 ∧ ρ 13 ≤ 2000 := r13
  have r14 : (0 : Int) ≤ ρ 14 ∧ ρ 14 ≤ 50001 := r14
  have r15 : (0 : Int) ≤ ρ 15 ∧ ρ 15 ≤ 2000 := r15
  have r16 : (0 : Int) ≤ ρ 16 ∧ ρ 16 ≤ 50001 := r16
  have r17 : (0 : Int) ≤ ρ 17 ∧ ρ 17 ≤ 0 := r17
  have r18 : (0 : Int) ≤ ρ 18 ∧ ρ 18 ≤ 2000 := r18
  have r19 : (0 : Int) ≤ ρ 19 ∧ ρ 19 ≤ 2000 := r19
  have r20 : ((-2147483648) : Int) ≤ ρ 20 ∧ ρ 20 ≤ 2147483647 := r20
  have r21 : (3 : Int) ≤ ρ 21 ∧ ρ 21 ≤ 3 := r21
  have r22 : (3 : Int) ≤ ρ 22 ∧ ρ 22 ≤ 3 := r22
  have r23 : (3 : Int) ≤ ρ 23 ∧ ρ 23 ≤ 3 := r23
  have r24 : (3 : Int) ≤ ρ 24 ∧ ρ 24 ≤ 3 := r24
  have r25 : ((-2147483648) : Int) ≤ ρ 25 ∧ ρ 25 ≤ 1099511640064 := r25
  have r26 : (0 : Int) ≤ ρ 26 ∧ ρ 26 ≤ 8 := r26
  have r27 : ((-1) : Int) ≤ ρ 27 ∧ ρ 27 ≤ 1999 := r27
  have r28 : (0 : Int) ≤ ρ 28 ∧ ρ 28 ≤ 1999 := r28
  have r29 : (1 : Int) ≤ ρ 29 ∧ ρ 29 ≤ 2000 := r29
  have r30 : (0 : Int) ≤ ρ 30 ∧ ρ 30 ≤ 8 := r30
  have r31 : ((-1) : Int) ≤ ρ 31 ∧ ρ 31 ≤ 1999 := r31
  have r32 : (0 : Int) ≤ ρ 32 ∧ ρ 32 ≤ 1999 := r32
  have r33 : (0 : Int) ≤ ρ 33 ∧ ρ 33 ≤ 3 := r33
  obtain ⟨f0, f1, f2, f3, f4, f5, f6, f7, f8, f9, -⟩ := hf
  have f0 : (0 : Int) ≤ -ρ 7 + ρ 2 + (-1) := f0
  have f1 : (0 : Int) ≤ ρ 29 + -ρ 19 := f1
  have f2 : (0 : Int) ≤ ρ 31 + -ρ 27 := f2
  have f3 : (0 : Int) ≤ ρ 18 + -ρ 15 + (-1) := f3
  have f4 : (0 : Int) ≤ ρ 17 + -ρ 16 + 50000 := f4
  have f5 : (0 : Int) ≤ ρ 1 + -ρ 0 + (-1) := f5
  have f6 : (0 : Int) ≤ ρ 19 + -ρ 9 := f6
  have f7 : (0 : Int) ≤ ρ 18 + -ρ 15 := f7
  have f8 : (0 : Int) ≤ ρ 17 + -ρ 5 := f8
  have f9 : (0 : Int) ≤ ρ 16 + -ρ 4 := f9
  obtain ⟨m0, m1, m2, m3, m4, m5, m6, m7, m8, m9, m10, m11, m12, m13, m14, m15, m16, m17, m18, m19, m20, m21, m22, m23, m24, m25, m26, m27, m28, m29, m30, m31, m32, -⟩ := hm
  have m0 : γ 0 15 0 32 = ρ 1 := m0
  have m1 : γ 0 15 0 13 = ρ 2 := m1
  have m2 : γ 0 71 0 (ρ 0) = ρ 3 := m2
  have m3 : γ 0 15 0 72 = ρ 4 := m3
  have m4 : γ 0 15 0 77 = ρ 5 := m4
  have m5 : γ 0 15 0 90 = ρ 6 := m5
  have m6 : γ 0 69 0 (ρ 0) = ρ 7 := m6
  have m7 : γ 0 15 0 44 = ρ 8 := m7
  have m8 : γ 0 15 0 71 = ρ 9 := m8
  have m9 : γ 0 15 0 76 = ρ 10 := m9
  have m10 : γ 0 15 0 81 = ρ 11 := m10
  have m11 : γ 0 15 0 82 = ρ 12 := m11
  have m12 : γ 0 15 0 83 = ρ 13 := m12
  have m13 : γ 0 15 0 94 = ρ 14 := m13
  have m14 : γ 1 15 0 72 = ρ 16 := m14
  have m15 : γ 1 15 0 77 = ρ 17 := m15
  have m16 : γ 1 15 0 90 = ρ 18 := m16
  have m17 : γ 1 15 0 71 = ρ 19 := m17
  have m18 : γ 1 15 0 81 = ρ 9 := m18
  have m19 : γ 1 107 0 (ρ 15) = ρ 20 := m19
  have m20 : γ 0 66 0 (ρ 7) = ρ 21 := m20
  have m21 : γ 0 70 0 (4 * ρ 0) = ρ 22 := m21
  have m22 : γ 0 70 0 (4 * ρ 0 + 1) = ρ 23 := m22
  have m23 : γ 0 70 0 (4 * ρ 0 + 2) = ρ 24 := m23
  have m24 : γ 1 105 0 (4 * ρ 15 + 3) = ρ 25 := m24
  have m25 : γ 1 97 0 (ρ 19) = ρ 26 := m25
  have m26 : γ 1 100 0 (ρ 7) = ρ 27 := m26
  have m27 : γ 1 101 0 (ρ 7) = ρ 28 := m27
  have m28 : γ 6 15 0 71 = ρ 29 := m28
  have m29 : γ 6 97 0 (ρ 19) = ρ 30 := m29
  have m30 : γ 6 100 0 (ρ 7) = ρ 31 := m30
  have m31 : γ 6 101 0 (ρ 7) = ρ 32 := m31
  have m32 : γ 6 15 0 77 = ρ 33 := m32
  obtain ⟨⟨⟨⟨⟨⟨-, c1⟩, c2⟩, c3⟩, c4⟩, c5⟩, c6⟩ := hc
  have c1 : ∀ (G : Nat) (k j : Int), ¬ rMdP m51_ G j → γ 1 G k j = γ 0 G k j := c1
  have c2 : γ 2 = rUp (γ 1) 102 0 0 (ρ 20) := c2
  have c3 : γ 3 = rUp (γ 2) 102 0 1 (ρ 20) := c3
  have c4 : γ 4 = rUp (γ 3) 102 0 2 (ρ 20) := c4
  have c5 : γ 5 = rUp (γ 4) 102 0 3 (ρ 25) := c5
  have c6 : ∀ (G : Nat) (k j : Int), ¬ rMdP m40_ G j → γ 6 G k j = γ 5 G k j := c6
  obtain ⟨l0, -⟩ := hl
  have l0 : sn57 [ρ 7, ρ 0, ρ 2, ρ 19, ρ 26, ρ 27, ρ 28, ρ 10, ρ 17] (γ 5) 0 0 (γ 6) := hS57 _ _ _ _ _ l0
  show jn75 [ρ 0, ρ 1, ρ 2, ρ 3, ρ 4, ρ 5, ρ 6, ρ 7, ρ 8, ρ 9, ρ 10, ρ 11, ρ 12, ρ 13, ρ 14] (γ 0) 0 [ρ 0, ρ 1, ρ 2, ρ 3, ρ 4, ρ 5, ρ 6, ρ 7, ρ 8, ρ 9, ρ 10, ρ 11, ρ 12, ρ 13, ρ 14, ρ 15 + 1, ρ 16, ρ 33, ρ 18, ρ 29] (γ 6)
  have hD : en75 (γ 0) (0, [ρ 0, ρ 15], γ 1) = .inl (0, [ρ 0, ρ 15 + 1], γ 6) := by
    unfold en75
    refine (if_pos (show (0 : Nat) = 0 by decide)).trans ?_
    refine (zLet_eq (show _ = γ 1 from rfl)).trans ?_
    refine (zLet_eq (show _ = ρ 0 from rfl)).trans ?_
    refine (zLet_eq (show _ = ρ 15 from rfl)).trans ?_
    refine (zLet_eq m2).trans ?_
    refine (zLet_eq m6).trans ?_
    refine (zLet_eq m15).trans ?_
    refine (zLet_eq m16).trans ?_
    refine (if_neg (show ¬ (ρ 15 ≥ ρ 18) by omega)).trans ?_
    refine (if_neg (show ¬ (ρ 17 ≠ 0) by omega)).trans ?_
    refine (if_pos (show ρ 3 ≤ 2 by omega)).trans ?_
    refine (if_pos (show ρ 3 ≠ 1 by omega)).trans ?_
    refine (zLet_eq m19).trans ?_
    refine (zLet_eq m20).trans ?_
    refine (if_neg (show ¬ (0 ≥ ρ 21) by omega)).trans ?_
    refine (zLet_eq m21).trans ?_
    refine (if_neg (show ¬ (ρ 22 ≠ 3) by omega)).trans ?_
    refine (zLet_eq c2.symm).trans ?_
    refine (if_neg (show ¬ (1 ≥ ρ 21) by omega)).trans ?_
    refine (zLet_eq m22).trans ?_
    refine (if_neg (show ¬ (ρ 23 ≠ 3) by omega)).trans ?_
    refine (zLet_eq c3.symm).trans ?_
    refine (if_neg (show ¬ (2 ≥ ρ 21) by omega)).trans ?_
    refine (zLet_eq m23).trans ?_
    refine (if_neg (show ¬ (ρ 24 ≠ 3) by omega)).trans ?_
    refine (zLet_eq c4.symm).trans ?_
    refine (if_pos (show 3 ≥ ρ 21 by omega)).trans ?_
    refine (zLet_eq m24).trans ?_
    refine (zLet_eq c5.symm).trans ?_
    refine (zLet_eq (show fn57 [ρ 7, ρ 0] (γ 5) = (0, 0, γ 6) from l0.symm)).trans ?_
    refine (zLet_eq (show _ = γ 6 from rfl)).trans ?_
    rfl
  exact zGoo_ato hJ hD
theorem vn75a0_31 {S : Nat → zSpc} (hS57 : ∀ x g o v gz, S 57 x g o v gz → sn57 x g o v gz) (hS73 : ∀ x g o v gz, S 73 x g o v gz → sn73 x g o v gz) {a : List Int} {g : rHp} : ∀ (ρ : Nat → Int) (γ : Nat → rHp), jn75 a g 0 (zAg (zNA a75_ 0) ρ) (γ 1) → zO 15 S a g q75a0_31 ρ γ → zGl (fun i vs g1 => jn75 a g i vs g1) (sn75 a g) q75a0_31 ρ γ := by
  intro ρ γ hJ h
  obtain ⟨ha, hg, hr, hf, hm, hc, hl⟩ := h
  have ha : a = [ρ 0, ρ 1, ρ 2, ρ 3, ρ 4, ρ 5, ρ 6, ρ 7, ρ 8, ρ 9, ρ 10, ρ 11, ρ 12, ρ 13, ρ 14] := ha
  subst ha
  subst hg
  have hJ : jn75 [ρ 0, ρ 1, ρ 2, ρ 3, ρ 4, ρ 5, ρ 6, ρ 7, ρ 8, ρ 9, ρ 10, ρ 11, ρ 12, ρ 13, ρ 14] (γ 0) 0 [ρ 0, ρ 1, ρ 2, ρ 3, ρ 4, ρ 5, ρ 6, ρ 7, ρ 8, ρ 9, ρ 10, ρ 11, ρ 12, ρ 13, ρ 14, ρ 15, ρ 16, ρ 17, ρ 18, ρ 19] (γ 1) := hJ
  obtain ⟨r0, r1, r2, r3, r4, r5, r6, r7, r8, r9, r10, r11, r12, r13, r14, r15, r16, r17, r18, r19, r20, r21, r22, r23, r24, r25, r26, r27, r28, r29, r30, r31, r32, r33, r34, -⟩ := hr
  have r0 : (0 : Int) ≤ ρ 0 ∧ ρ 0 ≤ 59 := r0
  have r1 : (0 : Int) ≤ ρ 1 ∧ ρ 1 ≤ 60 := r1
  have r2 : (0 : Int) ≤ ρ 2 ∧ ρ 2 ≤ 20 := r2
  have r3 : (2 : Int) ≤ ρ 3 ∧ ρ 3 ≤ 2 := r3
  have r4 : (0 : Int) ≤ ρ 4 ∧ ρ 4 ≤ 50001 := r4
  have r5 : (0 : Int) ≤ ρ 5 ∧ ρ 5 ≤ 3 := r5
  have r6 : (0 : Int) ≤ ρ 6 ∧ ρ 6 ≤ 2000 := r6
  have r7 : (0 : Int) ≤ ρ 7 ∧ ρ 7 ≤ 19 := r7
  have r8 : (0 : Int) ≤ ρ 8 ∧ ρ 8 ≤ 61 := r8
  have r9 : (0 : Int) ≤ ρ 9 ∧ ρ 9 ≤ 2000 := r9
  have r10 : ((-2147483648) : Int) ≤ ρ 10 ∧ ρ 10 ≤ 2147483647 := r10
  have r11 : (0 : Int) ≤ ρ 11 ∧ ρ 11 ≤ 2000 := r11
  have r12 : (0 : Int) ≤ ρ 12 ∧ ρ 12 ≤ 2000 := r12
  have r13 : (0 : Int) ≤ ρ 13 ∧ ρ 13 ≤ 2000 := r13
  have r14 : (0 : Int) ≤ ρ 14 ∧ ρ 14 ≤ 50001 := r14
  have r15 : (0 : Int) ≤ ρ 15 ∧ ρ 15 ≤ 2000 := r15
  have r16 : (0 : Int) ≤ ρ 16 ∧ ρ 16 ≤ 50001 := r16
  have r17 : (0 : Int) ≤ ρ 17 ∧ ρ 17 ≤ 0 := r17
  have r18 : (0 : Int) ≤ ρ 18 ∧ ρ 18 ≤ 2000 := r18
  have r19 : (0 : Int) ≤ ρ 19 ∧ ρ 19 ≤ 2000 := r19
  have r20 : ((-2147483648) : Int) ≤ ρ 20 ∧ ρ 20 ≤ 2147483647 := r20
  have r21 : (4 : Int) ≤ ρ 21 ∧ ρ 21 ≤ 4 := r21
  have r22 : (3 : Int) ≤ ρ 22 ∧ ρ 22 ≤ 3 := r22
  have r23 : (3 : Int) ≤ ρ 23 ∧ ρ 23 ≤ 3 := r23
  have r24 : (3 : Int) ≤ ρ 24 ∧ ρ 24 ≤ 3 := r24
  have r25 : (0 : Int) ≤ ρ 25 ∧ ρ 25 ≤ 2 := r25
  have r26 : ((-2147483648) : Int) ≤ ρ 26 ∧ ρ 26 ≤ 1099511640064 := r26
  have r27 : (0 : Int) ≤ ρ 27 ∧ ρ 27 ≤ 8 := r27
  have r28 : ((-1) : Int) ≤ ρ 28 ∧ ρ 28 ≤ 1999 := r28
  have r29 : (0 : Int) ≤ ρ 29 ∧ ρ 29 ≤ 1999 := r29
  have r30 : (1 : Int) ≤ ρ 30 ∧ ρ 30 ≤ 2000 := r30
  have r31 : (0 : Int) ≤ ρ 31 ∧ ρ 31 ≤ 8 := r31
  have r32 : ((-1) : Int) ≤ ρ 32 ∧ ρ 32 ≤ 1999 := r32
  have r33 : (0 : Int) ≤ ρ 33 ∧ ρ 33 ≤ 1999 := r33
  have r34 : (0 : Int) ≤ ρ 34 ∧ ρ 34 ≤ 3 := r34
  obtain ⟨f0, f1, f2, f3, f4, f5, f6, f7, f8, f9, -⟩ := hf
  have f0 : (0 : Int) ≤ -ρ 7 + ρ 2 + (-1) := f0
  have f1 : (0 : Int) ≤ ρ 30 + -ρ 19 := f1
  have f2 : (0 : Int) ≤ ρ 32 + -ρ 28 := f2
  have f3 : (0 : Int) ≤ ρ 18 + -ρ 15 + (-1) := f3
  have f4 : (0 : Int) ≤ ρ 17 + -ρ 16 + 50000 := f4
  have f5 : (0 : Int) ≤ ρ 1 + -ρ 0 + (-1) := f5
  have f6 : (0 : Int) ≤ ρ 19 + -ρ 9 := f6
  have f7 : (0 : Int) ≤ ρ 18 + -ρ 15 := f7
  have f8 : (0 : Int) ≤ ρ 17 + -ρ 5 := f8
  have f9 : (0 : Int) ≤ ρ 16 + -ρ 4 := f9
  obtain ⟨m0, m1, m2, m3, m4, m5, m6, m7, m8, m9, m10, m11, m12, m13, m14, m15, m16, m17, m18, m19, m20, m21, m22, m23, m24, m25, m26, m27, m28, m29, m30, m31, m32, m33, -⟩ := hm
  have m0 : γ 0 15 0 32 = ρ 1 := m0
  have m1 : γ 0 15 0 13 = ρ 2 := m1
  have m2 : γ 0 71 0 (ρ 0) = ρ 3 := m2
  have m3 : γ 0 15 0 72 = ρ 4 := m3
  have m4 : γ 0 15 0 77 = ρ 5 := m4
  have m5 : γ 0 15 0 90 = ρ 6 := m5
  have m6 : γ 0 69 0 (ρ 0) = ρ 7 := m6
  have m7 : γ 0 15 0 44 = ρ 8 := m7
  have m8 : γ 0 15 0 71 = ρ 9 := m8
  have m9 : γ 0 15 0 76 = ρ 10 := m9
  have m10 : γ 0 15 0 81 = ρ 11 := m10
  have m11 : γ 0 15 0 82 = ρ 12 := m11
  have m12 : γ 0 15 0 83 = ρ 13 := m12
  have m13 : γ 0 15 0 94 = ρ 14 := m13
  have m14 : γ 1 15 0 72 = ρ 16 := m14
  have m15 : γ 1 15 0 77 = ρ 17 := m15
  have m16 : γ 1 15 0 90 = ρ 18 := m16
  have m17 : γ 1 15 0 71 = ρ 19 := m17
  have m18 : γ 1 15 0 81 = ρ 9 := m18
  have m19 : γ 1 107 0 (ρ 15) = ρ 20 := m19
  have m20 : γ 0 66 0 (ρ 7) = ρ 21 := m20
  have m21 : γ 0 70 0 (4 * ρ 0) = ρ 22 := m21
  have m22 : γ 0 70 0 (4 * ρ 0 + 1) = ρ 23 := m22
  have m23 : γ 0 70 0 (4 * ρ 0 + 2) = ρ 24 := m23
  have m24 : γ 0 70 0 (4 * ρ 0 + 3) = ρ 25 := m24
  have m25 : γ 1 105 0 (4 * ρ 15 + 3) = ρ 26 := m25
  have m26 : γ 1 97 0 (ρ 19) = ρ 27 := m26
  have m27 : γ 1 100 0 (ρ 7) = ρ 28 := m27
  have m28 : γ 1 101 0 (ρ 7) = ρ 29 := m28
  have m29 : γ 6 15 0 71 = ρ 30 := m29
  have m30 : γ 6 97 0 (ρ 19) = ρ 31 := m30
  have m31 : γ 6 100 0 (ρ 7) = ρ 32 := m31
  have m32 : γ 6 101 0 (ρ 7) = ρ 33 := m32
  have m33 : γ 6 15 0 77 = ρ 34 := m33
  obtain ⟨⟨⟨⟨⟨⟨-, c1⟩, c2⟩, c3⟩, c4⟩, c5⟩, c6⟩ := hc
  have c1 : ∀ (G : Nat) (k j : Int), ¬ rMdP m51_ G j → γ 1 G k j = γ 0 G k j := c1
  have c2 : γ 2 = rUp (γ 1) 102 0 0 (ρ 20) := c2
  have c3 : γ 3 = rUp (γ 2) 102 0 1 (ρ 20) := c3
  have c4 : γ 4 = rUp (γ 3) 102 0 2 (ρ 20) := c4
  have c5 : γ 5 = rUp (γ 4) 102 0 3 (ρ 26) := c5
  have c6 : ∀ (G : Nat) (k j : Int), ¬ rMdP m40_ G j → γ 6 G k j = γ 5 G k j := c6
  obtain ⟨l0, -⟩ := hl
  have l0 : sn57 [ρ 7, ρ 0, ρ 2, ρ 19, ρ 27, ρ 28, ρ 29, ρ 10, ρ 17] (γ 5) 0 0 (γ 6) := hS57 _ _ _ _ _ l0
  show jn75 [ρ 0, ρ 1, ρ 2, ρ 3, ρ 4, ρ 5, ρ 6, ρ 7, ρ 8, ρ 9, ρ 10, ρ 11, ρ 12, ρ 13, ρ 14] (γ 0) 0 [ρ 0, ρ 1, ρ 2, ρ 3, ρ 4, ρ 5, ρ 6, ρ 7, ρ 8, ρ 9, ρ 10, ρ 11, ρ 12, ρ 13, ρ 14, ρ 15 + 1, ρ 16, ρ 34, ρ 18, ρ 30] (γ 6)
  have hD : en75 (γ 0) (0, [ρ 0, ρ 15], γ 1) = .inl (0, [ρ 0, ρ 15 + 1], γ 6) := by
    unfold en75
    refine (if_pos (show (0 : Nat) = 0 by decide)).trans ?_
    refine (zLet_eq (show _ = γ 1 from rfl)).trans ?_
    refine (zLet_eq (show _ = ρ 0 from rfl)).trans ?_
    refine (zLet_eq (show _ = ρ 15 from rfl)).trans ?_
    refine (zLet_eq m2).trans ?_
    refine (zLet_eq m6).trans ?_
    refine (zLet_eq m15).trans ?_
    refine (zLet_eq m16).trans ?_
    refine (if_neg (show ¬ (ρ 15 ≥ ρ 18) by omega)).trans ?_
    refine (if_neg (show ¬ (ρ 17 ≠ 0) by omega)).trans ?_
    refine (if_pos (show ρ 3 ≤ 2 by omega)).trans ?_
    refine (if_pos (show ρ 3 ≠ 1 by omega)).trans ?_
    refine (zLet_eq m19).trans ?_
    refine (zLet_eq m20).trans ?_
    refine (if_neg (show ¬ (0 ≥ ρ 21) by omega)).trans ?_
    refine (zLet_eq m21).trans ?_
    refine (if_neg (show ¬ (ρ 22 ≠ 3) by omega)).trans ?_
    refine (zLet_eq c2.symm).trans ?_
    refine (if_neg (show ¬ (1 ≥ ρ 21) by omega)).trans ?_
    refine (zLet_eq m22).trans ?_
    refine (if_neg (show ¬ (ρ 23 ≠ 3) by omega)).trans ?_
    refine (zLet_eq c3.symm).trans ?_
    refine (if_neg (show ¬ (2 ≥ ρ 21) by omega)).trans ?_
    refine (zLet_eq m23).trans ?_
    refine (if_neg (show ¬ (ρ 24 ≠ 3) by omega)).trans ?_
    refine (zLet_eq c4.symm).trans ?_
    refine (if_neg (show ¬ (3 ≥ ρ 21) by omega)).trans ?_
    refine (zLet_eq m24).trans ?_
    refine (if_pos (show ρ 25 ≠ 3 by omega)).trans ?_
    refine (zLet_eq m25).trans ?_
    refine (zLet_eq c5.symm).trans ?_
    refine (zLet_eq (show fn57 [ρ 7, ρ 0] (γ 5) = (0, 0, γ 6) from l0.symm)).trans ?_
    refine (zLet_eq (show _ = γ 6 from rfl)).trans ?_
    rfl
  exact zGoo_ato hJ hD
theorem vn75a0_32 {S : Nat → zSpc} (hS57 : ∀ x g o v gz, S 57 x g o v gz → sn57 x g o v gz) (hS73 : ∀ x g o v gz, S 73 x g o v gz → sn73 x g o v gz) {a : List Int} {g : rHp} : ∀ (ρ : Nat → Int) (γ : Nat → rHp), jn75 a g 0 (zAg (zNA a75_ 0) ρ) (γ 1) → zO 15 S a g q75a0_32 ρ γ → zGl (fun i vs g1 => jn75 a g i vs g1) (sn75 a g) q75a0_32 ρ γ := by
  intro ρ γ hJ h
  obtain ⟨ha, hg, hr, hf, hm, hc, hl⟩ := h
  have ha : a = [ρ 0, ρ 1, ρ 2, ρ 3, ρ 4, ρ 5, ρ 6, ρ 7, ρ 8, ρ 9, ρ 10, ρ 11, ρ 12, ρ 13, ρ 14] := ha
  subst ha
  subst hg
  have hJ : jn75 [ρ 0, ρ 1, ρ 2, ρ 3, ρ 4, ρ 5, ρ 6, ρ 7, ρ 8, ρ 9, ρ 10, ρ 11, ρ 12, ρ 13, ρ 14] (γ 0) 0 [ρ 0, ρ 1, ρ 2, ρ 3, ρ 4, ρ 5, ρ 6, ρ 7, ρ 8, ρ 9, ρ 10, ρ 11, ρ 12, ρ 13, ρ 14, ρ 15, ρ 16, ρ 17, ρ 18, ρ 19] (γ 1) := hJ
  obtain ⟨r0, r1, r2, r3, r4, r5, r6, r7, r8, r9, r10, r11, r12, r13, r14, r15, r16, r17, r18, r19, r20, r21, r22, r23, r24, r25, r26, r27, r28, r29, r30, r31, r32, r33, -⟩ := hr
  have r0 : (0 : Int) ≤ ρ 0 ∧ ρ 0 ≤ 59 := r0
  have r1 : (0 : Int) ≤ ρ 1 ∧ ρ 1 ≤ 60 := r1
  have r2 : (0 : Int) ≤ ρ 2 ∧ ρ 2 ≤ 20 := r2
  have r3 : (2 : Int) ≤ ρ 3 ∧ ρ 3 ≤ 2 := r3
  have r4 : (0 : Int) ≤ ρ 4 ∧ ρ 4 ≤ 50001 := r4
  have r5 : (0 : Int) ≤ ρ 5 ∧ ρ 5 ≤ 3 := r5
  have r6 : (0 : Int) ≤ ρ 6 ∧ ρ 6 ≤ 2000 := r6
  have r7 : (0 : Int) ≤ ρ 7 ∧ ρ 7 ≤ 19 := r7
  have r8 : (0 : Int) ≤ ρ 8 ∧ ρ 8 ≤ 61 := r8
  have r9 : (0 : Int) ≤ ρ 9 ∧ ρ 9 ≤ 2000 := r9
  have r10 : ((-2147483648) : Int) ≤ ρ 10 ∧ ρ 10 ≤ 2147483647 := r10
  have r11 : (0 : Int) ≤ ρ 11 ∧ ρ 11 ≤ 2000 := r11
  have r12 : (0 : Int) ≤ ρ 12 ∧ ρ 12 ≤ 2000 := r12
  have r13 : (0 : Int) ≤ ρ 13 ∧ ρ 13 ≤ 2000 := r13
  have r14 : (0 : Int) ≤ ρ 14 ∧ ρ 14 ≤ 50001 := r14
  have r15 : (0 : Int) ≤ ρ 15 ∧ ρ 15 ≤ 2000 := r15
  have r16 : (0 : Int) ≤ ρ 16 ∧ ρ 16 ≤ 50001 := r16
  have r17 : (0 : Int) ≤ ρ 17 ∧ ρ 17 ≤ 0 := r17
  have r18 : (0 : Int) ≤ ρ 18 ∧ ρ 18 ≤ 2000 := r18
  have r19 : (0 : Int) ≤ ρ 19 ∧ ρ 19 ≤ 2000 := r19
  have r20 : ((-2147483648) : Int) ≤ ρ 20 ∧ ρ 20 ≤ 2147483647 := r20
  have r21 : (4 : Int) ≤ ρ 21 ∧ ρ 21 ≤ 4 := r21
  have r22 : (3 : Int) ≤ ρ 22 ∧ ρ 22 ≤ 3 := r22
  have r23 : (3 : Int) ≤ ρ 23 ∧ ρ 23 ≤ 3 := r23
  have r24 : (3 : Int) ≤ ρ 24 ∧ ρ 24 ≤ 3 := r24
  have r25 : (3 : Int) ≤ ρ 25 ∧ ρ 25 ≤ 3 := r25
  have r26 : (0 : Int) ≤ ρ 26 ∧ ρ 26 ≤ 8 := r26
  have r27 : ((-1) : Int) ≤ ρ 27 ∧ ρ 27 ≤ 1999 := r27
  have r28 : (0 : Int) ≤ ρ 28 ∧ ρ 28 ≤ 1999 := r28
  have r29 : (1 : Int) ≤ ρ 29 ∧ ρ 29 ≤ 2000 := r29
  have r30 : (0 : Int) ≤ ρ 30 ∧ ρ 30 ≤ 8 := r30
  have r31 : ((-1) : Int) ≤ ρ 31 ∧ ρ 31 ≤ 1999 := r31
  have r32 : (0 : Int) ≤ ρ 32 ∧ ρ 32 ≤ 1999 := r32
  have r33 : (0 : Int) ≤ ρ 33 ∧ ρ 33 ≤ 3 := r33
  obtain ⟨f0, f1, f2, f3, f4, f5, f6, f7, f8, f9, -⟩ := hf
  have f0 : (0 : Int) ≤ -ρ 7 + ρ 2 + (-1) := f0
  have f1 : (0 : Int) ≤ ρ 29 + -ρ 19 := f1
  have f2 : (0 : Int) ≤ ρ 31 + -ρ 27 := f2
  have f3 : (0 : Int) ≤ ρ 18 + -ρ 15 + (-1) := f3
  have f4 : (0 : Int) ≤ ρ 17 + -ρ 16 + 50000 := f4
  have f5 : (0 : Int) ≤ ρ 1 + -ρ 0 + (-1) := f5
  have f6 : (0 : Int) ≤ ρ 19 + -ρ 9 := f6
  have f7 : (0 : Int) ≤ ρ 18 + -ρ 15 := f7
  have f8 : (0 : Int) ≤ ρ 17 + -ρ 5 := f8
  have f9 : (0 : Int) ≤ ρ 16 + -ρ 4 := f9
  obtain ⟨m0, m1, m2, m3, m4, m5, m6, m7, m8, m9, m10, m11, m12, m13, m14, m15, m16, m17, m18, m19, m20, m21, m22, m23, m24, m25, m26, m27, m28, m29, m30, m31, m32, -⟩ := hm
  have m0 : γ 0 15 0 32 = ρ 1 := m0
  have m1 : γ 0 15 0 13 = ρ 2 := m1
  have m2 : γ 0 71 0 (ρ 0) = ρ 3 := m2
  have m3 : γ 0 15 0 72 = ρ 4 := m3
  have m4 : γ 0 15 0 77 = ρ 5 := m4
  have m5 : γ 0 15 0 90 = ρ 6 := m5
  have m6 : γ 0 69 0 (ρ 0) = ρ 7 := m6
  have m7 : γ 0 15 0 44 = ρ 8 := m7
  have m8 : γ 0 15 0 71 = ρ 9 := m8
  have m9 : γ 0 15 0 76 = ρ 10 := m9
  have m10 : γ 0 15 0 81 = ρ 11 := m10
  have m11 : γ 0 15 0 82 = ρ 12 := m11
  have m12 : γ 0 15 0 83 = ρ 13 := m12
  have m13 : γ 0 15 0 94 = ρ 14 := m13
  have m14 : γ 1 15 0 72 = ρ 16 := m14
  have m15 : γ 1 15 0 77 = ρ 17 := m15
  have m16 : γ 1 15 0 90 = ρ 18 := m16
  have m17 : γ 1 15 0 71 = ρ 19 := m17
  have m18 : γ 1 15 0 81 = ρ 9 := m18
  have m19 : γ 1 107 0 (ρ 15) = ρ 20 := m19
  have m20 : γ 0 66 0 (ρ 7) = ρ 21 := m20
  have m21 : γ 0 70 0 (4 * ρ 0) = ρ 22 := m21
  have m22 : γ 0 70 0 (4 * ρ 0 + 1) = ρ 23 := m22
  have m23 : γ 0 70 0 (4 * ρ 0 + 2) = ρ 24 := m23
  have m24 : γ 0 70 0 (4 * ρ 0 + 3) = ρ 25 := m24
  have m25 : γ 1 97 0 (ρ 19) = ρ 26 := m25
  have m26 : γ 1 100 0 (ρ 7) = ρ 27 := m26
  have m27 : γ 1 101 0 (ρ 7) = ρ 28 := m27
  have m28 : γ 6 15 0 71 = ρ 29 := m28
  have m29 : γ 6 97 0 (ρ 19) = ρ 30 := m29
  have m30 : γ 6 100 0 (ρ 7) = ρ 31 := m30
  have m31 : γ 6 101 0 (ρ 7) = ρ 32 := m31
  have m32 : γ 6 15 0 77 = ρ 33 := m32
  obtain ⟨⟨⟨⟨⟨⟨-, c1⟩, c2⟩, c3⟩, c4⟩, c5⟩, c6⟩ := hc
  have c1 : ∀ (G : Nat) (k j : Int), ¬ rMdP m51_ G j → γ 1 G k j = γ 0 G k j := c1
  have c2 : γ 2 = rUp (γ 1) 102 0 0 (ρ 20) := c2
  have c3 : γ 3 = rUp (γ 2) 102 0 1 (ρ 20) := c3
  have c4 : γ 4 = rUp (γ 3) 102 0 2 (ρ 20) := c4
  have c5 : γ 5 = rUp (γ 4) 102 0 3 (ρ 20) := c5
  have c6 : ∀ (G : Nat) (k j : Int), ¬ rMdP m40_ G j → γ 6 G k j = γ 5 G k j := c6
  obtain ⟨l0, -⟩ := hl
  have l0 : sn57 [ρ 7, ρ 0, ρ 2, ρ 19, ρ 26, ρ 27, ρ 28, ρ 10, ρ 17] (γ 5) 0 0 (γ 6) := hS57 _ _ _ _ _ l0
  show jn75 [ρ 0, ρ 1, ρ 2, ρ 3, ρ 4, ρ 5, ρ 6, ρ 7, ρ 8, ρ 9, ρ 10, ρ 11, ρ 12, ρ 13, ρ 14] (γ 0) 0 [ρ 0, ρ 1, ρ 2, ρ 3, ρ 4, ρ 5, ρ 6, ρ 7, ρ 8, ρ 9, ρ 10, ρ 11, ρ 12, ρ 13, ρ 14, ρ 15 + 1, ρ 16, ρ 33, ρ 18, ρ 29] (γ 6)
  have hD : en75 (γ 0) (0, [ρ 0, ρ 15], γ 1) = .inl (0, [ρ 0, ρ 15 + 1], γ 6) := by
    unfold en75
    refine (if_pos (show (0 : Nat) = 0 by decide)).trans ?_
    refine (zLet_eq (show _ = γ 1 from rfl)).trans ?_
    refine (zLet_eq (show _ = ρ 0 from rfl)).trans ?_
    refine (zLet_eq (show _ = ρ 15 from rfl)).trans ?_
    refine (zLet_eq m2).trans ?_
    refine (zLet_eq m6).trans ?_
    refine (zLet_eq m15).trans ?_
    refine (zLet_eq m16).trans ?_
    refine (if_neg (show ¬ (ρ 15 ≥ ρ 18) by omega)).trans ?_
    refine (if_neg (show ¬ (ρ 17 ≠ 0) by omega)).trans ?_
    refine (if_pos (show ρ 3 ≤ 2 by omega)).trans ?_
    refine (if_pos (show ρ 3 ≠ 1 by omega)).trans ?_
    refine (zLet_eq m19).trans ?_
    refine (zLet_eq m20).trans ?_
    refine (if_neg (show ¬ (0 ≥ ρ 21) by omega)).trans ?_
    refine (zLet_eq m21).trans ?_
    refine (if_neg (show ¬ (ρ 22 ≠ 3) by omega)).trans ?_
    refine (zLet_eq c2.symm).trans ?_
    refine (if_neg (show ¬ (1 ≥ ρ 21) by omega)).trans ?_
    refine (zLet_eq m22).trans ?_
    refine (if_neg (show ¬ (ρ 23 ≠ 3) by omega)).trans ?_
    refine (zLet_eq c3.symm).trans ?_
    refine (if_neg (show ¬ (2 ≥ ρ 21) by omega)).trans ?_
    refine (zLet_eq m23).trans ?_
    refine (if_neg (show ¬ (ρ 24 ≠ 3) by omega)).trans ?_
    refine (zLet_eq c4.symm).trans ?_
    refine (if_neg (show ¬ (3 ≥ ρ 21) by omega)).trans ?_
    refine (zLet_eq m24).trans ?_
    refine (if_neg (show ¬ (ρ 25 ≠ 3) by omega)).trans ?_
    refine (zLet_eq c5.symm).trans ?_
    refine (zLet_eq (show fn57 [ρ 7, ρ 0] (γ 5) = (0, 0, γ 6) from l0.symm)).trans ?_
    refine (zLet_eq (show _ = γ 6 from rfl)).trans ?_
    rfl
  exact zGoo_ato hJ hD
theorem vn75a0_33 {S : Nat → zSpc} (hS57 : ∀ x g o v gz, S 57 x g o v gz → sn57 x g o v gz) (hS73 : ∀ x g o v gz, S 73 x g o v gz → sn73 x g o v gz) {a : List Int} {g : rHp} : ∀ (ρ : Nat → Int) (γ : Nat → rHp), jn75 a g 0 (zAg (zNA a75_ 0) ρ) (γ 1) → zO 15 S a g q75a0_33 ρ γ → zGl (fun i vs g1 => jn75 a g i vs g1) (sn75 a g) q75a0_33 ρ γ := by
  intro ρ γ hJ h
  obtain ⟨ha, hg, hr, hf, hm, hc, hl⟩ := h
  have ha : a = [ρ 0, ρ 1, ρ 2, ρ 3, ρ 4, ρ 5, ρ 6, ρ 7, ρ 8, ρ 9, ρ 10, ρ 11, ρ 12, ρ 13, ρ 14] := ha
  subst ha
  subst hg
  have hJ : jn75 [ρ 0, ρ 1, ρ 2, ρ 3, ρ 4, ρ 5, ρ 6, ρ 7, ρ 8, ρ 9, ρ 10, ρ 11, ρ 12, ρ 13, ρ 14] (γ 0) 0 [ρ 0, ρ 1, ρ 2, ρ 3, ρ 4, ρ 5, ρ 6, ρ 7, ρ 8, ρ 9, ρ 10, ρ 11, ρ 12, ρ 13, ρ 14, ρ 15, ρ 16, ρ 17, ρ 18, ρ 19] (γ 1) := hJ
  obtain ⟨r0, r1, r2, r3, r4, r5, r6, r7, r8, r9, r10, r11, r12, r13, r14, r15, r16, r17, r18, r19, r20, r21, r22, r23, r24, r25, r26, r27, r28, r29, r30, r31, r32, r33, -⟩ := hr
  have r0 : (0 : Int) ≤ ρ 0 ∧ ρ 0 ≤ 59 := r0
  have r1 : (0 : Int) ≤ ρ 1 ∧ ρ 1 ≤ 60 := r1
  have r2 : (0 : Int) ≤ ρ 2 ∧ ρ 2 ≤ 20 := r2
  have r3 : (1 : Int) ≤ ρ 3 ∧ ρ 3 ≤ 1 := r3
  have r4 : (0 : Int) ≤ ρ 4 ∧ ρ 4 ≤ 50001 := r4
  have r5 : (0 : Int) ≤ ρ 5 ∧ ρ 5 ≤ 3 := r5
  have r6 : (0 : Int) ≤ ρ 6 ∧ ρ 6 ≤ 2000 := r6
  have r7 : (0 : Int) ≤ ρ 7 ∧ ρ 7 ≤ 19 := r7
  have r8 : (0 : Int) ≤ ρ 8 ∧ ρ 8 ≤ 61 := r8
  have r9 : (0 : Int) ≤ ρ 9 ∧ ρ 9 ≤ 2000 := r9
  have r10 : ((-2147483648) : Int) ≤ ρ 10 ∧ ρ 10 ≤ 2147483647 := r10
  have r11 : (0 : Int) ≤ ρ 11 ∧ ρ 11 ≤ 2000 := r11
  have r12 : (0 : Int) ≤ ρ 12 ∧ ρ 12 ≤ 2000 := r12
  have r13 : (0 : Int) ≤ ρ 13 ∧ ρ 13 ≤ 2000 := r13
  have r14 : (0 : Int) ≤ ρ 14 ∧ ρ 14 ≤ 50001 := r14
  have r15 : (0 : Int) ≤ ρ 15 ∧ ρ 15 ≤ 2000 := r15
  have r16 : (0 : Int) ≤ ρ 16 ∧ ρ 16 ≤ 50001 := r16
  have r17 : (0 : Int) ≤ ρ 17 ∧ ρ 17 ≤ 0 := r17
  have r18 : (0 : Int) ≤ ρ 18 ∧ ρ 18 ≤ 2000 := r18
  have r19 : (0 : Int) ≤ ρ 19 ∧ ρ 19 ≤ 2000 := r19
  have r20 : ((-2147483648) : Int) ≤ ρ 20 ∧ ρ 20 ≤ 2147483647 := r20
  have r21 : (0 : Int) ≤ ρ 21 ∧ ρ 21 ≤ 0 := r21
  have r22 : ((-2147483648) : Int) ≤ ρ 22 ∧ ρ 22 ≤ 1099511640064 := r22
  have r23 : ((-2147483648) : Int) ≤ ρ 23 ∧ ρ 23 ≤ 1099511640064 := r23
  have r24 : ((-2147483648) : Int) ≤ ρ 24 ∧ ρ 24 ≤ 1099511640064 := r24
  have r25 : ((-2147483648) : Int) ≤ ρ 25 ∧ ρ 25 ≤ 1099511640064 := r25
  have r26 : (0 : Int) ≤ ρ 26 ∧ ρ 26 ≤ 8 := r26
  have r27 : ((-1) : Int) ≤ ρ 27 ∧ ρ 27 ≤ 1999 := r27
  have r28 : (0 : Int) ≤ ρ 28 ∧ ρ 28 ≤ 1999 := r28
  have r29 : (1 : Int) ≤ ρ 29 ∧ ρ 29 ≤ 2000 := r29
  have r30 : (0 : Int) ≤ ρ 30 ∧ ρ 30 ≤ 8 := r30
  have r31 : ((-1) : Int) ≤ ρ 31 ∧ ρ 31 ≤ 1999 := r31
  have r32 : (0 : Int) ≤ ρ 32 ∧ ρ 32 ≤ 1999 := r32
  have r33 : (0 : Int) ≤ ρ 33 ∧ ρ 33 ≤ 3 := r33
  obtain ⟨f0, f1, f2, f3, f4, f5, f6, f7, f8, f9, -⟩ := hf
  have f0 : (0 : Int) ≤ -ρ 7 + ρ 2 + (-1) := f0
  have f1 : (0 : Int) ≤ ρ 29 + -ρ 19 := f1
  have f2 : (0 : Int) ≤ ρ 31 + -ρ 27 := f2
  have f3 : (0 : Int) ≤ ρ 18 + -ρ 15 + (-1) := f3
  have f4 : (0 : Int) ≤ ρ 17 + -ρ 16 + 50000 := f4
  have f5 : (0 : Int) ≤ ρ 1 + -ρ 0 + (-1) := f5
  have f6 : (0 : Int) ≤ ρ 19 + -ρ 9 := f6
  have f7 : (0 : Int) ≤ ρ 18 + -ρ 15 := f7
  have f8 : (0 : Int) ≤ ρ 17 + -ρ 5 := f8
  have f9 : (0 : Int) ≤ ρ 16 + -ρ 4 := f9
  obtain ⟨m0, m1, m2, m3, m4, m5, m6, m7, m8, m9, m10, m11, m12, m13, m14, m15, m16, m17, m18, m19, m20, m21, m22, m23, m24, m25, m26, m27, m28, m29, m30, m31, m32, -⟩ := hm
  have m0 : γ 0 15 0 32 = ρ 1 := m0
  have m1 : γ 0 15 0 13 = ρ 2 := m1
  have m2 : γ 0 71 0 (ρ 0) = ρ 3 := m2
  have m3 : γ 0 15 0 72 = ρ 4 := m3
  have m4 : γ 0 15 0 77 = ρ 5 := m4
  have m5 : γ 0 15 0 90 = ρ 6 := m5
  have m6 : γ 0 69 0 (ρ 0) = ρ 7 := m6
  have m7 : γ 0 15 0 44 = ρ 8 := m7
  have m8 : γ 0 15 0 71 = ρ 9 := m8
  have m9 : γ 0 15 0 76 = ρ 10 := m9
  have m10 : γ 0 15 0 81 = ρ 11 := m10
  have m11 : γ 0 15 0 82 = ρ 12 := m11
  have m12 : γ 0 15 0 83 = ρ 13 := m12
  have m13 : γ 0 15 0 94 = ρ 14 := m13
  have m14 : γ 1 15 0 72 = ρ 16 := m14
  have m15 : γ 1 15 0 77 = ρ 17 := m15
  have m16 : γ 1 15 0 90 = ρ 18 := m16
  have m17 : γ 1 15 0 71 = ρ 19 := m17
  have m18 : γ 1 15 0 81 = ρ 9 := m18
  have m19 : γ 1 106 0 (ρ 15) = ρ 20 := m19
  have m20 : γ 0 66 0 (ρ 7) = ρ 21 := m20
  have m21 : γ 1 105 0 (4 * ρ 15) = ρ 22 := m21
  have m22 : γ 1 105 0 (4 * ρ 15 + 1) = ρ 23 := m22
  have m23 : γ 1 105 0 (4 * ρ 15 + 2) = ρ 24 := m23
  have m24 : γ 1 105 0 (4 * ρ 15 + 3) = ρ 25 := m24
  have m25 : γ 1 97 0 (ρ 19) = ρ 26 := m25
  have m26 : γ 1 100 0 (ρ 7) = ρ 27 := m26
  have m27 : γ 1 101 0 (ρ 7) = ρ 28 := m27
  have m28 : γ 6 15 0 71 = ρ 29 := m28
  have m29 : γ 6 97 0 (ρ 19) = ρ 30 := m29
  have m30 : γ 6 100 0 (ρ 7) = ρ 31 := m30
  have m31 : γ 6 101 0 (ρ 7) = ρ 32 := m31
  have m32 : γ 6 15 0 77 = ρ 33 := m32
  obtain ⟨⟨⟨⟨⟨⟨-, c1⟩, c2⟩, c3⟩, c4⟩, c5⟩, c6⟩ := hc
  have c1 : ∀ (G : Nat) (k j : Int), ¬ rMdP m51_ G j → γ 1 G k j = γ 0 G k j := c1
  have c2 : γ 2 = rUp (γ 1) 102 0 0 (ρ 22) := c2
  have c3 : γ 3 = rUp (γ 2) 102 0 1 (ρ 23) := c3
  have c4 : γ 4 = rUp (γ 3) 102 0 2 (ρ 24) := c4
  have c5 : γ 5 = rUp (γ 4) 102 0 3 (ρ 25) := c5
  have c6 : ∀ (G : Nat) (k j : Int), ¬ rMdP m40_ G j → γ 6 G k j = γ 5 G k j := c6
  obtain ⟨l0, -⟩ := hl
  have l0 : sn57 [ρ 7, ρ 0, ρ 2, ρ 19, ρ 26, ρ 27, ρ 28, ρ 10, ρ 17] (γ 5) 0 0 (γ 6) := hS57 _ _ _ _ _ l0
  show jn75 [ρ 0, ρ 1, ρ 2, ρ 3, ρ 4, ρ 5, ρ 6, ρ 7, ρ 8, ρ 9, ρ 10, ρ 11, ρ 12, ρ 13, ρ 14] (γ 0) 0 [ρ 0, ρ 1, ρ 2, ρ 3, ρ 4, ρ 5, ρ 6, ρ 7, ρ 8, ρ 9, ρ 10, ρ 11, ρ 12, ρ 13, ρ 14, ρ 15 + 1, ρ 16, ρ 33, ρ 18, ρ 29] (γ 6)
  have hD : en75 (γ 0) (0, [ρ 0, ρ 15], γ 1) = .inl (0, [ρ 0, ρ 15 + 1], γ 6) := by
    unfold en75
    refine (if_pos (show (0 : Nat) = 0 by decide)).trans ?_
    refine (zLet_eq (show _ = γ 1 from rfl)).trans ?_
    refine (zLet_eq (show _ = ρ 0 from rfl)).trans ?_
    refine (zLet_eq (show _ = ρ 15 from rfl)).trans ?_
    refine (zLet_eq m2).trans ?_
    refine (zLet_eq m6).trans ?_
    refine (zLet_eq m15).trans ?_
    refine (zLet_eq m16).trans ?_
    refine (if_neg (show ¬ (ρ 15 ≥ ρ 18) by omega)).trans ?_
    refine (if_neg (show ¬ (ρ 17 ≠ 0) by omega)).trans ?_
    refine (if_pos (show ρ 3 ≤ 2 by omega)).trans ?_
    refine (if_neg (show ¬ (ρ 3 ≠ 1) by omega)).trans ?_
    refine (zLet_eq m19).trans ?_
    refine (zLet_eq m20).trans ?_
    refine (if_pos (show 0 ≥ ρ 21 by omega)).trans ?_
    refine (zLet_eq m21).trans ?_
    refine (zLet_eq c2.symm).trans ?_
    refine (zLet_eq m22).trans ?_
    refine (zLet_eq c3.symm).trans ?_
    refine (zLet_eq m23).trans ?_
    refine (zLet_eq c4.symm).trans ?_
    refine (zLet_eq m24).trans ?_
    refine (zLet_eq c5.symm).trans ?_
    refine (zLet_eq (show fn57 [ρ 7, ρ 0] (γ 5) = (0, 0, γ 6) from l0.symm)).trans ?_
    refine (zLet_eq (show _ = γ 6 from rfl)).trans ?_
    rfl
  exact zGoo_ato hJ hD
theorem vn75a0_34 {S : Nat → zSpc} (hS57 : ∀ x g o v gz, S 57 x g o v gz → sn57 x g o v gz) (hS73 : ∀ x g o v gz, S 73 x g o v gz → sn73 x g o v gz) {a : List Int} {g : rHp} : ∀ (ρ : Nat → Int) (γ : Nat → rHp), jn75 a g 0 (zAg (zNA a75_ 0) ρ) (γ 1) → zO 15 S a g q75a0_34 ρ γ → zGl (fun i vs g1 => jn75 a g i vs g1) (sn75 a g) q75a0_34 ρ γ := by
  intro ρ γ hJ h
  obtain ⟨ha, hg, hr, hf, hm, hc, hl⟩ := h
  have ha : a = [ρ 0, ρ 1, ρ 2, ρ 3, ρ 4, ρ 5, ρ 6, ρ 7, ρ 8, ρ 9, ρ 10, ρ 11, ρ 12, ρ 13, ρ 14] := ha
  subst ha
  subst hg
  have hJ : jn75 [ρ 0, ρ 1, ρ 2, ρ 3, ρ 4, ρ 5, ρ 6, ρ 7, ρ 8, ρ 9, ρ 10, ρ 11, ρ 12, ρ 13, ρ 14] (γ 0) 0 [ρ 0, ρ 1, ρ 2, ρ 3, ρ 4, ρ 5, ρ 6, ρ 7, ρ 8, ρ 9, ρ 10, ρ 11, ρ 12, ρ 13, ρ 14, ρ 15, ρ 16, ρ 17, ρ 18, ρ 19] (γ 1) := hJ
  obtain ⟨r0, r1, r2, r3, r4, r5, r6, r7, r8, r9, r10, r11, r12, r13, r14, r15, r16, r17, r18, r19, r20, r21, r22, r23, r24, r25, r26, r27, r28, r29, r30, r31, r32, r33, r34, -⟩ := hr
  have r0 : (0 : Int) ≤ ρ 0 ∧ ρ 0 ≤ 59 := r0
  have r1 : (0 : Int) ≤ ρ 1 ∧ ρ 1 ≤ 60 := r1
  have r2 : (0 : Int) ≤ ρ 2 ∧ ρ 2 ≤ 20 := r2
  have r3 : (1 : Int) ≤ ρ 3 ∧ ρ 3 ≤ 1 := r3
  have r4 : (0 : Int) ≤ ρ 4 ∧ ρ 4 ≤ 50001 := r4
  have r5 : (0 : Int) ≤ ρ 5 ∧ ρ 5 ≤ 3 := r5
  have r6 : (0 : Int) ≤ ρ 6 ∧ ρ 6 ≤ 2000 := r6
  have r7 : (0 : Int) ≤ ρ 7 ∧ ρ 7 ≤ 19 := r7
  have r8 : (0 : Int) ≤ ρ 8 ∧ ρ 8 ≤ 61 := r8
  have r9 : (0 : Int) ≤ ρ 9 ∧ ρ 9 ≤ 2000 := r9
  have r10 : ((-2147483648) : Int) ≤ ρ 10 ∧ ρ 10 ≤ 2147483647 := r10
  have r11 : (0 : Int) ≤ ρ 11 ∧ ρ 11 ≤ 2000 := r11
  have r12 : (0 : Int) ≤ ρ 12 ∧ ρ 12 ≤ 2000 := r12
  have r13 : (0 : Int) ≤ ρ 13 ∧ ρ 13 ≤ 2000 := r13
  have r14 : (0 : Int) ≤ ρ 14 ∧ ρ 14 ≤ 50001 := r14
  have r15 : (0 : Int) ≤ ρ 15 ∧ ρ 15 ≤ 2000 := r15
  have r16 : (0 : Int) ≤ ρ 16 ∧ ρ 16 ≤ 50001 := r16
  have r17 : (0 : Int) ≤ ρ 17 ∧ ρ 17 ≤ 0 := r17
  have r18 : (0 : Int) ≤ ρ 18 ∧ ρ 18 ≤ 2000 := r18
  have r19 : (0 : Int) ≤ ρ 19 ∧ ρ 19 ≤ 2000 := r19
  have r20 : ((-2147483648) : Int) ≤ ρ 20 ∧ ρ 20 ≤ 2147483647 := r20
  have r21 : (1 : Int) ≤ ρ 21 ∧ ρ 21 ≤ 1 := r21
  have r22 : (0 : Int) ≤ ρ 22 ∧ ρ 22 ≤ 2 := r22
  have r23 : ((-2147483648) : Int) ≤ ρ 23 ∧ ρ 23 ≤ 1099511640064 := r23
  have r24 : ((-2147483648) : Int) ≤ ρ 24 ∧ ρ 24 ≤ 1099511640064 := r24
  have r25 : ((-2147483648) : Int) ≤ ρ 25 ∧ ρ 25 ≤ 1099511640064 := r25
  have r26 : ((-2147483648) : Int) ≤ ρ 26 ∧ ρ 26 ≤ 1099511640064 := r26
  have r27 : (0 : Int) ≤ ρ 27 ∧ ρ 27 ≤ 8 := r27
  have r28 : ((-1) : Int) ≤ ρ 28 ∧ ρ 28 ≤ 1999 := r28
  have r29 : (0 : Int) ≤ ρ 29 ∧ ρ 29 ≤ 1999 := r29
  have r30 : (1 : Int) ≤ ρ 30 ∧ ρ 30 ≤ 2000 := r30
  have r31 : (0 : Int) ≤ ρ 31 ∧ ρ 31 ≤ 8 := r31
  have r32 : ((-1) : Int) ≤ ρ 32 ∧ ρ 32 ≤ 1999 := r32
  have r33 : (0 : Int) ≤ ρ 33 ∧ ρ 33 ≤ 1999 := r33
  have r34 : (0 : Int) ≤ ρ 34 ∧ ρ 34 ≤ 3 := r34
  obtain ⟨f0, f1, f2, f3, f4, f5, f6, f7, f8, f9, -⟩ := hf
  have f0 : (0 : Int) ≤ -ρ 7 + ρ 2 + (-1) := f0
  have f1 : (0 : Int) ≤ ρ 30 + -ρ 19 := f1
  have f2 : (0 : Int) ≤ ρ 32 + -ρ 28 := f2
  have f3 : (0 : Int) ≤ ρ 18 + -ρ 15 + (-1) := f3
  have f4 : (0 : Int) ≤ ρ 17 + -ρ 16 + 50000 := f4
  have f5 : (0 : Int) ≤ ρ 1 + -ρ 0 + (-1) := f5
  have f6 : (0 : Int) ≤ ρ 19 + -ρ 9 := f6
  have f7 : (0 : Int) ≤ ρ 18 + -ρ 15 := f7
  have f8 : (0 : Int) ≤ ρ 17 + -ρ 5 := f8
  have f9 : (0 : Int) ≤ ρ 16 + -ρ 4 := f9
  obtain ⟨m0, m1, m2, m3, m4, m5, m6, m7, m8, m9, m10, m11, m12, m13, m14, m15, m16, m17, m18, m19, m20, m21, m22, m23, m24, m25, m26, m27, m28, m29, m30, m31, m32, m33, -⟩ := hm
  have m0 : γ 0 15 0 32 = ρ 1 := m0
  have m1 : γ 0 15 0 13 = ρ 2 := m1
  have m2 : γ 0 71 0 (ρ 0) = ρ 3 := m2
  have m3 : γ 0 15 0 72 = ρ 4 := m3
  have m4 : γ 0 15 0 77 = ρ 5 := m4
  have m5 : γ 0 15 0 90 = ρ 6 := m5
  have m6 : γ 0 69 0 (ρ 0) = ρ 7 := m6
  have m7 : γ 0 15 0 44 = ρ 8 := m7
  have m8 : γ 0 15 0 71 = ρ 9 := m8
  have m9 : γ 0 15 0 76 = ρ 10 := m9
  have m10 : γ 0 15 0 81 = ρ 11 := m10
  have m11 : γ 0 15 0 82 = ρ 12 := m11
  have m12 : γ 0 15 0 83 = ρ 13 := m12
  have m13 : γ 0 15 0 94 = ρ 14 := m13
  have m14 : γ 1 15 0 72 = ρ 16 := m14
  have m15 : γ 1 15 0 77 = ρ 17 := m15
  have m16 : γ 1 15 0 90 = ρ 18 := m16
  have m17 : γ 1 15 0 71 = ρ 19 := m17
  have m18 : γ 1 15 0 81 = ρ 9 := m18
  have m19 : γ 1 106 0 (ρ 15) = ρ 20 := m19
  have m20 : γ 0 66 0 (ρ 7) = ρ 21 := m20
  have m21 : γ 0 70 0 (4 * ρ 0) = ρ 22 := m21
  have m22 : γ 1 105 0 (4 * ρ 15) = ρ 23 := m22
  have m23 : γ 1 105 0 (4 * ρ 15 + 1) = ρ 24 := m23
  have m24 : γ 1 105 0 (4 * ρ 15 + 2) = ρ 25 := m24
  have m25 : γ 1 105 0 (4 * ρ 15 + 3) = ρ 26 := m25
  have m26 : γ 1 97 0 (ρ 19) = ρ 27 := m26
  have m27 : γ 1 100 0 (ρ 7) = ρ 28 := m27
  have m28 : γ 1 101 0 (ρ 7) = ρ 29 := m28
  have m29 : γ 6 15 0 71 = ρ 30 := m29
  have m30 : γ 6 97 0 (ρ 19) = ρ 31 := m30
  have m31 : γ 6 100 0 (ρ 7) = ρ 32 := m31
  have m32 : γ 6 101 0 (ρ 7) = ρ 33 := m32
  have m33 : γ 6 15 0 77 = ρ 34 := m33
  obtain ⟨⟨⟨⟨⟨⟨-, c1⟩, c2⟩, c3⟩, c4⟩, c5⟩, c6⟩ := hc
  have c1 : ∀ (G : Nat) (k j : Int), ¬ rMdP m51_ G j → γ 1 G k j = γ 0 G k j := c1
  have c2 : γ 2 = rUp (γ 1) 102 0 0 (ρ 23) := c2
  have c3 : γ 3 = rUp (γ 2) 102 0 1 (ρ 24) := c3
  have c4 : γ 4 = rUp (γ 3) 102 0 2 (ρ 25) := c4
  have c5 : γ 5 = rUp (γ 4) 102 0 3 (ρ 26) := c5
  have c6 : ∀ (G : Nat) (k j : Int), ¬ rMdP m40_ G j → γ 6 G k j = γ 5 G k j := c6
  obtain ⟨l0, -⟩ := hl
  have l0 : sn57 [ρ 7, ρ 0, ρ 2, ρ 19, ρ 27, ρ 28, ρ 29, ρ 10, ρ 17] (γ 5) 0 0 (γ 6) := hS57 _ _ _ _ _ l0
  show jn75 [ρ 0, ρ 1, ρ 2, ρ 3, ρ 4, ρ 5, ρ 6, ρ 7, ρ 8, ρ 9, ρ 10, ρ 11, ρ 12, ρ 13, ρ 14] (γ 0) 0 [ρ 0, ρ 1, ρ 2, ρ 3, ρ 4, ρ 5, ρ 6, ρ 7, ρ 8, ρ 9, ρ 10, ρ 11, ρ 12, ρ 13, ρ 14, ρ 15 + 1, ρ 16, ρ 34, ρ 18, ρ 30] (γ 6)
  have hD : en75 (γ 0) (0, [ρ 0, ρ 15], γ 1) = .inl (0, [ρ 0, ρ 15 + 1], γ 6) := by
    unfold en75
    refine (if_pos (show (0 : Nat) = 0 by decide)).trans ?_
    refine (zLet_eq (show _ = γ 1 from rfl)).trans ?_
    refine (zLet_eq (show _ = ρ 0 from rfl)).trans ?_
    refine (zLet_eq (show _ = ρ 15 from rfl)).trans ?_
    refine (zLet_eq m2).trans ?_
    refine (zLet_eq m6).trans ?_
    refine (zLet_eq m15).trans ?_
    refine (zLet_eq m16).trans ?_
    refine (if_neg (show ¬ (ρ 15 ≥ ρ 18) by omega)).trans ?_
    refine (if_neg (show ¬ (ρ 17 ≠ 0) by omega)).trans ?_
    refine (if_pos (show ρ 3 ≤ 2 by omega)).trans ?_
    refine (if_neg (show ¬ (ρ 3 ≠ 1) by omega)).trans ?_
    refine (zLet_eq m19).trans ?_
    refine (zLet_eq m20).trans ?_
    refine (if_neg (show ¬ (0 ≥ ρ 21) by omega)).trans ?_
    refine (zLet_eq m21).trans ?_
    refine (if_pos (show ρ 22 ≠ 3 by omega)).trans ?_
    refine (zLet_eq m22).trans ?_
    refine (zLet_eq c2.symm).trans ?_
    refine (if_pos (show 1 ≥ ρ 21 by omega)).trans ?_
    refine (zLet_eq m23).trans ?_
    refine (zLet_eq c3.symm).trans ?_
    refine (zLet_eq m24).trans ?_
    refine (zLet_eq c4.symm).trans ?_
    refine (zLet_eq m25).trans ?_
    refine (zLet_eq c5.symm).trans ?_
    refine (zLet_eq (show fn57 [ρ 7, ρ 0] (γ 5) = (0, 0, γ 6) from l0.symm)).trans ?_
    refine (zLet_eq (show _ = γ 6 from rfl)).trans ?_
    rfl
  exact zGoo_ato hJ hD
theorem vn75a0_35 {S : Nat → zSpc} (hS57 : ∀ x g o v gz, S 57 x g o v gz → sn57 x g o v gz) (hS73 : ∀ x g o v gz, S 73 x g o v gz → sn73 x g o v gz) {a : List Int} {g : rHp} : ∀ (ρ : Nat → Int) (γ : Nat → rHp), jn75 a g 0 (zAg (zNA a75_ 0) ρ) (γ 1) → zO 15 S a g q75a0_35 ρ γ → zGl (fun i vs g1 => jn75 a g i vs g1) (sn75 a g) q75a0_35 ρ γ := by
  intro ρ γ hJ h
  obtain ⟨ha, hg, hr, hf, hm, hc, hl⟩ := h
  have ha : a = [ρ 0, ρ 1, ρ 2, ρ 3, ρ 4, ρ 5, ρ 6, ρ 7, ρ 8, ρ 9, ρ 10, ρ 11, ρ 12, ρ 13, ρ 14] := ha
  subst ha
  subst hg
  have hJ : jn75 [ρ 0, ρ 1, ρ 2, ρ 3, ρ 4, ρ 5, ρ 6, ρ 7, ρ 8, ρ 9, ρ 10, ρ 11, ρ 12, ρ 13, ρ 14] (γ 0) 0 [ρ 0, ρ 1, ρ 2, ρ 3, ρ 4, ρ 5, ρ 6, ρ 7, ρ 8, ρ 9, ρ 10, ρ 11, ρ 12, ρ 13, ρ 14, ρ 15, ρ 16, ρ 17, ρ 18, ρ 19] (γ 1) := hJ
  obtain ⟨r0, r1, r2, r3, r4, r5, r6, r7, r8, r9, r10, r11, r12, r13, r14, r15, r16, r17, r18, r19, r20, r21, r22, r23, r24, r25, r26, r27, r28, r29, r30, r31, r32, r33, r34, r35, -⟩ := hr
  have r0 : (0 : Int) ≤ ρ 0 ∧ ρ 0 ≤ 59 := r0
  have r1 : (0 : Int) ≤ ρ 1 ∧ ρ 1 ≤ 60 := r1
  have r2 : (0 : Int) ≤ ρ 2 ∧ ρ 2 ≤ 20 := r2
  have r3 : (1 : Int) ≤ ρ 3 ∧ ρ 3 ≤ 1 := r3
  have r4 : (0 : Int) ≤ ρ 4 ∧ ρ 4 ≤ 50001 := r4
  have r5 : (0 : Int) ≤ ρ 5 ∧ ρ 5 ≤ 3 := r5
  have r6 : (0 : Int) ≤ ρ 6 ∧ ρ 6 ≤ 2000 := r6
  have r7 : (0 : Int) ≤ ρ 7 ∧ ρ 7 ≤ 19 := r7
  have r8 : (0 : Int) ≤ ρ 8 ∧ ρ 8 ≤ 61 := r8
  have r9 : (0 : Int) ≤ ρ 9 ∧ ρ 9 ≤ 2000 := r9
  have r10 : ((-2147483648) : Int) ≤ ρ 10 ∧ ρ 10 ≤ 2147483647 := r10
  have r11 : (0 : Int) ≤ ρ 11 ∧ ρ 11 ≤ 2000 := r11
  have r12 : (0 : Int) ≤ ρ 12 ∧ ρ 12 ≤ 2000 := r12
  have r13 : (0 : Int) ≤ ρ 13 ∧ ρ 13 ≤ 2000 := r13
  have r14 : (0 : Int) ≤ ρ 14 ∧ ρ 14 ≤ 50001 := r14
  have r15 : (0 : Int) ≤ ρ 15 ∧ ρ 15 ≤ 2000 := r15
  have r16 : (0 : Int) ≤ ρ 16 ∧ ρ 16 ≤ 50001 := r16
  have r17 : (0 : Int) ≤ ρ 17 ∧ ρ 17 ≤ 0 := r17
  have r18 : (0 : Int) ≤ ρ 18 ∧ ρ 18 ≤ 2000 := r18
  have r19 : (0 : Int) ≤ ρ 19 ∧ ρ 19 ≤ 2000 := r19
  have r20 : ((-2147483648) : Int) ≤ ρ 20 ∧ ρ 20 ≤ 2147483647 := r20
  have r21 : (2 : Int) ≤ ρ 21 ∧ ρ 21 ≤ 2 := r21
  have r22 : (0 : Int) ≤ ρ 22 ∧ ρ 22 ≤ 2 := r22
  have r23 : ((-2147483648) : Int) ≤ ρ 23 ∧ ρ 23 ≤ 1099511640064 := r23
  have r24 : (0 : Int) ≤ ρ 24 ∧ ρ 24 ≤ 2 := r24
  have r25 : ((-2147483648) : Int) ≤ ρ 25 ∧ ρ 25 ≤ 1099511640064 := r25
  have r26 : ((-2147483648) : Int) ≤ ρ 26 ∧ ρ 26 ≤ 1099511640064 := r26
  have r27 : ((-2147483648) : Int) ≤ ρ 27 ∧ ρ 27 ≤ 1099511640064 := r27
  have r28 : (0 : Int) ≤ ρ 28 ∧ ρ 28 ≤ 8 := r28
  have r29 : ((-1) : Int) ≤ ρ 29 ∧ ρ 29 ≤ 1999 := r29
  have r30 : (0 : Int) ≤ ρ 30 ∧ ρ 30 ≤ 1999 := r30
  have r31 : (1 : Int) ≤ ρ 31 ∧ ρ 31 ≤ 2000 := r31
  have r32 : (0 : Int) ≤ ρ 32 ∧ ρ 32 ≤ 8 := r32
  have r33 : ((-1) : Int) ≤ ρ 33 ∧ ρ 33 ≤ 1999 := r33
  have r34 : (0 : Int) ≤ ρ 34 ∧ ρ 34 ≤ 1999 := r34
  have r35 : (0 : Int) ≤ ρ 35 ∧ ρ 35 ≤ 3 := r35
  obtain ⟨f0, f1, f2, f3, f4, f5, f6, f7, f8, f9, -⟩ := hf
  have f0 : (0 : Int) ≤ -ρ 7 + ρ 2 + (-1) := f0
  have f1 : (0 : Int) ≤ ρ 31 + -ρ 19 := f1
  have f2 : (0 : Int) ≤ ρ 33 + -ρ 29 := f2
  have f3 : (0 : Int) ≤ ρ 18 + -ρ 15 + (-1) := f3
  have f4 : (0 : Int) ≤ ρ 17 + -ρ 16 + 50000 := f4
  have f5 : (0 : Int) ≤ ρ 1 + -ρ 0 + (-1) := f5
  have f6 : (0 : Int) ≤ ρ 19 + -ρ 9 := f6
  have f7 : (0 : Int) ≤ ρ 18 + -ρ 15 := f7
  have f8 : (0 : Int) ≤ ρ 17 + -ρ 5 := f8
  have f9 : (0 : Int) ≤ ρ 16 + -ρ 4 := f9
  obtain ⟨m0, m1, m2, m3, m4, m5, m6, m7, m8, m9, m10, m11, m12, m13, m14, m15, m16, m17, m18, m19, m20, m21, m22, m23, m24, m25, m26, m27, m28, m29, m30, m31, m32, m33, m34, -⟩ := hm
  have m0 : γ 0 15 0 32 = ρ 1 := m0
  have m1 : γ 0 15 0 13 = ρ 2 := m1
  have m2 : γ 0 71 0 (ρ 0) = ρ 3 := m2
  have m3 : γ 0 15 0 72 = ρ 4 := m3
  have m4 : γ 0 15 0 77 = ρ 5 := m4
  have m5 : γ 0 15 0 90 = ρ 6 := m5
  have m6 : γ 0 69 0 (ρ 0) = ρ 7 := m6
  have m7 : γ 0 15 0 44 = ρ 8 := m7
  have m8 : γ 0 15 0 71 = ρ 9 := m8
  have m9 : γ 0 15 0 76 = ρ 10 := m9
  have m10 : γ 0 15 0 81 = ρ 11 := m10
  have m11 : γ 0 15 0 82 = ρ 12 := m11
  have m12 : γ 0 15 0 83 = ρ 13 := m12
  have m13 : γ 0 15 0 94 = ρ 14 := m13
  have m14 : γ 1 15 0 72 = ρ 16 := m14
  have m15 : γ 1 15 0 77 = ρ 17 := m15
  have m16 : γ 1 15 0 90 = ρ 18 := m16
  have m17 : γ 1 15 0 71 = ρ 19 := m17
  have m18 : γ 1 15 0 81 = ρ 9 := m18
  have m19 : γ 1 106 0 (ρ 15) = ρ 20 := m19
  have m20 : γ 0 66 0 (ρ 7) = ρ 21 := m20
  have m21 : γ 0 70 0 (4 * ρ 0) = ρ 22 := m21
  have m22 : γ 1 105 0 (4 * ρ 15) = ρ 23 := m22
  have m23 : γ 0 70 0 (4 * ρ 0 + 1) = ρ 24 := m23
  have m24 : γ 1 105 0 (4 * ρ 15 + 1) = ρ 25 := m24
  have m25 : γ 1 105 0 (4 * ρ 15 + 2) = ρ 26 := m25
  have m26 : γ 1 105 0 (4 * ρ 15 + 3) = ρ 27 := m26
  have m27 : γ 1 97 0 (ρ 19) = ρ 28 := m27
  have m28 : γ 1 100 0 (ρ 7) = ρ 29 := m28
  have m29 : γ 1 101 0 (ρ 7) = ρ 30 := m29
  have m30 : γ 6 15 0 71 = ρ 31 := m30
  have m31 : γ 6 97 0 (ρ 19) = ρ 32 := m31
  have m32 : γ 6 100 0 (ρ 7) = ρ 33 := m32
  have m33 : γ 6 101 0 (ρ 7) = ρ 34 := m33
  have m34 : γ 6 15 0 77 = ρ 35 := m34
  obtain ⟨⟨⟨⟨⟨⟨-, c1⟩, c2⟩, c3⟩, c4⟩, c5⟩, c6⟩ := hc
  have c1 : ∀ (G : Nat) (k j : Int), ¬ rMdP m51_ G j → γ 1 G k j = γ 0 G k j := c1
  have c2 : γ 2 = rUp (γ 1) 102 0 0 (ρ 23) := c2
  have c3 : γ 3 = rUp (γ 2) 102 0 1 (ρ 25) := c3
  have c4 : γ 4 = rUp (γ 3) 102 0 2 (ρ 26) := c4
  have c5 : γ 5 = rUp (γ 4) 102 0 3 (ρ 27) := c5
  have c6 : ∀ (G : Nat) (k j : Int), ¬ rMdP m40_ G j → γ 6 G k j = γ 5 G k j := c6
  obtain ⟨l0, -⟩ := hl
  have l0 : sn57 [ρ 7, ρ 0, ρ 2, ρ 19, ρ 28, ρ 29, ρ 30, ρ 10, ρ 17] (γ 5) 0 0 (γ 6) := hS57 _ _ _ _ _ l0
  show jn75 [ρ 0, ρ 1, ρ 2, ρ 3, ρ 4, ρ 5, ρ 6, ρ 7, ρ 8, ρ 9, ρ 10, ρ 11, ρ 12, ρ 13, ρ 14] (γ 0) 0 [ρ 0, ρ 1, ρ 2, ρ 3, ρ 4, ρ 5, ρ 6, ρ 7, ρ 8, ρ 9, ρ 10, ρ 11, ρ 12, ρ 13, ρ 14, ρ 15 + 1, ρ 16, ρ 35, ρ 18, ρ 31] (γ 6)
  have hD : en75 (γ 0) (0, [ρ 0, ρ 15], γ 1) = .inl (0, [ρ 0, ρ 15 + 1], γ 6) := by
    unfold en75
    refine (if_pos (show (0 : Nat) = 0 by decide)).trans ?_
    refine (zLet_eq (show _ = γ 1 from rfl)).trans ?_
    refine (zLet_eq (show _ = ρ 0 from rfl)).trans ?_
    refine (zLet_eq (show _ = ρ 15 from rfl)).trans ?_
    refine (zLet_eq m2).trans ?_
    refine (zLet_eq m6).trans ?_
    refine (zLet_eq m15).trans ?_
    refine (zLet_eq m16).trans ?_
    refine (if_neg (show ¬ (ρ 15 ≥ ρ 18) by omega)).trans ?_
    refine (if_neg (show ¬ (ρ 17 ≠ 0) by omega)).trans ?_
    refine (if_pos (show ρ 3 ≤ 2 by omega)).trans ?_
    refine (if_neg (show ¬ (ρ 3 ≠ 1) by omega)).trans ?_
    refine (zLet_eq m19).trans ?_
    refine (zLet_eq m20).trans ?_
    refine (if_neg (show ¬ (0 ≥ ρ 21) by omega)).trans ?_
    refine (zLet_eq m21).trans ?_
    refine (if_pos (show ρ 22 ≠ 3 by omega)).trans ?_
    refine (zLet_eq m22).trans ?_
    refine (zLet_eq c2.symm).trans ?_
    refine (if_neg (show ¬ (1 ≥ ρ 21) by omega)).trans ?_
    refine (zLet_eq m23).trans ?_
    refine (if_pos (show ρ 24 ≠ 3 by omega)).trans ?_
    refine (zLet_eq m24).trans ?_
    refine (zLet_eq c3.symm).trans ?_
    refine (if_pos (show 2 ≥ ρ 21 by omega)).trans ?_
    refine (zLet_eq m25).trans ?_
    refine (zLet_eq c4.symm).trans ?_
    refine (zLet_eq m26).trans ?_
    refine (zLet_eq c5.symm).trans ?_
    refine (zLet_eq (show fn57 [ρ 7, ρ 0] (γ 5) = (0, 0, γ 6) from l0.symm)).trans ?_
    refine (zLet_eq (show _ = γ 6 from rfl)).trans ?_
    rfl
  exact zGoo_ato hJ hD
theorem vn75a0_36 {S : Nat → zSpc} (hS57 : ∀ x g o v gz, S 57 x g o v gz → sn57 x g o v gz) (hS73 : ∀ x g o v gz, S 73 x g o v gz → sn73 x g o v gz) {a : List Int} {g : rHp} : ∀ (ρ : Nat → Int) (γ : Nat → rHp), jn75 a g 0 (zAg (zNA a75_ 0) ρ) (γ 1) → zO 15 S a g q75a0_36 ρ γ → zGl (fun i vs g1 => jn75 a g i vs g1) (sn75 a g) q75a0_36 ρ γ := by
  intro ρ γ hJ h
  obtain ⟨ha, hg, hr, hf, hm, hc, hl⟩ := h
  have ha : a = [ρ 0, ρ 1, ρ 2, ρ 3, ρ 4, ρ 5, ρ 6, ρ 7, ρ 8, ρ 9, ρ 10, ρ 11, ρ 12, ρ 13, ρ 14] := ha
  subst ha
  subst hg
  have hJ : jn75 [ρ 0, ρ 1, ρ 2, ρ 3, ρ 4, ρ 5, ρ 6, ρ 7, ρ 8, ρ 9, ρ 10, ρ 11, ρ 12, ρ 13, ρ 14] (γ 0) 0 [ρ 0, ρ 1, ρ 2, ρ 3, ρ 4, ρ 5, ρ 6, ρ 7, ρ 8, ρ 9, ρ 10, ρ 11, ρ 12, ρ 13, ρ 14, ρ 15, ρ 16, ρ 17, ρ 18, ρ 19] (γ 1) := hJ
  obtain ⟨r0, r1, r2, r3, r4, r5, r6, r7, r8, r9, r10, r11, r12, r13, r14, r15, r16, r17, r18, r19, r20, r21, r22, r23, r24, r25, r26, r27, r28, r29, r30, r31, r32, r33, r34, r35, r36, -⟩ := hr
  have r0 : (0 : Int) ≤ ρ 0 ∧ ρ 0 ≤ 59 := r0
  have r1 : (0 : Int) ≤ ρ 1 ∧ ρ 1 ≤ 60 := r1
  have r2 : (0 : Int) ≤ ρ 2 ∧ ρ 2 ≤ 20 := r2
  have r3 : (1 : Int) ≤ ρ 3 ∧ ρ 3 ≤ 1 := r3
  have r4 : (0 : Int) ≤ ρ 4 ∧ ρ 4 ≤ 50001 := r4
  have r5 : (0 : Int) ≤ ρ 5 ∧ ρ 5 ≤ 3 := r5
  have r6 : (0 : Int) ≤ ρ 6 ∧ ρ 6 ≤ 2000 := r6
  have r7 : (0 : Int) ≤ ρ 7 ∧ ρ 7 ≤ 19 := r7
  have r8 : (0 : Int) ≤ ρ 8 ∧ ρ 8 ≤ 61 := r8
  have r9 : (0 : Int) ≤ ρ 9 ∧ ρ 9 ≤ 2000 := r9
  have r10 : ((-2147483648) : Int) ≤ ρ 10 ∧ ρ 10 ≤ 2147483647 := r10
  have r11 : (0 : Int) ≤ ρ 11 ∧ ρ 11 ≤ 2000 := r11
  have r12 : (0 : Int) ≤ ρ 12 ∧ ρ 12 ≤ 2000 := r12
  have r13 : (0 : Int) ≤ ρ 13 ∧ ρ 13 ≤ 2000 := r13
  have r14 : (0 : Int) ≤ ρ 14 ∧ ρ 14 ≤ 50001 := r14
  have r15 : (0 : Int) ≤ ρ 15 ∧ ρ 15 ≤ 2000 := r15
  have r16 : (0 : Int) ≤ ρ 16 ∧ ρ 16 ≤ 50001 := r16
  have r17 : (0 : Int) ≤ ρ 17 ∧ ρ 17 ≤ 0 := r17
  have r18 : (0 : Int) ≤ ρ 18 ∧ ρ 18 ≤ 2000 := r18
  have r19 : (0 : Int) ≤ ρ 19 ∧ ρ 19 ≤ 2000 := r19
  have r20 : ((-2147483648) : Int) ≤ ρ 20 ∧ ρ 20 ≤ 2147483647 := r20
  have r21 : (3 : Int) ≤ ρ 21 ∧ ρ 21 ≤ 3 := r21
  have r22 : (0 : Int) ≤ ρ 22 ∧ ρ 22 ≤ 2 := r22
  have r23 : ((-2147483648) : Int) ≤ ρ 23 ∧ ρ 23 ≤ 1099511640064 := r23
  have r24 : (0 : Int) ≤ ρ 24 ∧ ρ 24 ≤ 2 := r24
  have r25 : ((-2147483648) : Int) ≤ ρ 25 ∧ ρ 25 ≤ 1099511640064 := r25
  have r26 : (0 : Int) ≤ ρ 26 ∧ ρ 26 ≤ 2 := r26
  have r27 : ((-2147483648) : Int) ≤ ρ 27 ∧ ρ 27 ≤ 1099511640064 := r27
  have r28 : ((-2147483648) : Int) ≤ ρ 28 ∧ ρ 28 ≤ 1099511640064 := r28
  have r29 : (0 : Int) ≤ ρ 29 ∧ ρ 29 ≤ 8 := r29
  have r30 : ((-1) : Int) ≤ ρ 30 ∧ ρ 30 ≤ 1999 := r30
  have r31 : (0 : Int) ≤ ρ 31 ∧ ρ 31 ≤ 1999 := r31
  have r32 : (1 : Int) ≤ ρ 32 ∧ ρ 32 ≤ 2000 := r32
  have r33 : (0 : Int) ≤ ρ 33 ∧ ρ 33 ≤ 8 := r33
  have r34 : ((-1) : Int) ≤ ρ 34 ∧ ρ 34 ≤ 1999 := r34
  have r35 : (0 : Int) ≤ ρ 35 ∧ ρ 35 ≤ 1999 := r35
  have r36 : (0 : Int) ≤ ρ 36 ∧ ρ 36 ≤ 3 := r36
  obtain ⟨f0, f1, f2, f3, f4, f5, f6, f7, f8, f9, -⟩ := hf
  have f0 : (0 : Int) ≤ -ρ 7 + ρ 2 + (-1) := f0
  have f1 : (0 : Int) ≤ ρ 32 + -ρ 19 := f1
  have f2 : (0 : Int) ≤ ρ 34 + -ρ 30 := f2
  have f3 : (0 : Int) ≤ ρ 18 + -ρ 15 + (-1) := f3
  have f4 : (0 : Int) ≤ ρ 17 + -ρ 16 + 50000 := f4
  have f5 : (0 : Int) ≤ ρ 1 + -ρ 0 + (-1) := f5
  have f6 : (0 : Int) ≤ ρ 19 + -ρ 9 := f6
  have f7 : (0 : Int) ≤ ρ 18 + -ρ 15 := f7
  have f8 : (0 : Int) ≤ ρ 17 + -ρ 5 := f8
  have f9 : (0 : Int) ≤ ρ 16 + -ρ 4 := f9
  obtain ⟨m0, m1, m2, m3, m4, m5, m6, m7, m8, m9, m10, m11, m12, m13, m14, m15, m16, m17, m18, m19, m20, m21, m22, m23, m24, m25, m26, m27, m28, m29, m30, m31, m32, m33, m34, m35, -⟩ := hm
  have m0 : γ 0 15 0 32 = ρ 1 := m0
  have m1 : γ 0 15 0 13 = ρ 2 := m1
  have m2 : γ 0 71 0 (ρ 0) = ρ 3 := m2
  have m3 : γ 0 15 0 72 = ρ 4 := m3
  have m4 : γ 0 15 0 77 = ρ 5 := m4
  have m5 : γ 0 15 0 90 = ρ 6 := m5
  have m6 : γ 0 69 0 (ρ 0) = ρ 7 := m6
  have m7 : γ 0 15 0 44 = ρ 8 := m7
  have m8 : γ 0 15 0 71 = ρ 9 := m8
  have m9 : γ 0 15 0 76 = ρ 10 := m9
  have m10 : γ 0 15 0 81 = ρ 11 := m10
  have m11 : γ 0 15 0 82 = ρ 12 := m11
  have m12 : γ 0 15 0 83 = ρ 13 := m12
  have m13 : γ 0 15 0 94 = ρ 14 := m13
  have m14 : γ 1 15 0 72 = ρ 16 := m14
  have m15 : γ 1 15 0 77 = ρ 17 := m15
  have m16 : γ 1 15 0 90 = ρ 18 := m16
  have m17 : γ 1 15 0 71 = ρ 19 := m17
  have m18 : γ 1 15 0 81 = ρ 9 := m18
  have m19 : γ 1 106 0 (ρ 15) = ρ 20 := m19
  have m20 : γ 0 66 0 (ρ 7) = ρ 21 := m20
  have m21 : γ 0 70 0 (4 * ρ 0) = ρ 22 := m21
  have m22 : γ 1 105 0 (4 * ρ 15) = ρ 23 := m22
  have m23 : γ 0 70 0 (4 * ρ 0 + 1) = ρ 24 := m23
  have m24 : γ 1 105 0 (4 * ρ 15 + 1) = ρ 25 := m24
  have m25 : γ 0 70 0 (4 * ρ 0 + 2) = ρ 26 := m25
  have m26 : γ 1 105 0 (4 * ρ 15 + 2) = ρ 27 := m26
  have m27 : γ 1 105 0 (4 * ρ 15 + 3) = ρ 28 := m27
  have m28 : γ 1 97 0 (ρ 19) = ρ 29 := m28
  have m29 : γ 1 100 0 (ρ 7) = ρ 30 := m29
  have m30 : γ 1 101 0 (ρ 7) = ρ 31 := m30
  have m31 : γ 6 15 0 71 = ρ 32 := m31
  have m32 : γ 6 97 0 (ρ 19) = ρ 33 := m32
  have m33 : γ 6 100 0 (ρ 7) = ρ 34 := m33
  have m34 : γ 6 101 0 (ρ 7) = ρ 35 := m34
  have m35 : γ 6 15 0 77 = ρ 36 := m35
  obtain ⟨⟨⟨⟨⟨⟨-, c1⟩, c2⟩, c3⟩, c4⟩, c5⟩, c6⟩ := hc
  have c1 : ∀ (G : Nat) (k j : Int), ¬ rMdP m51_ G j → γ 1 G k j = γ 0 G k j := c1
  have c2 : γ 2 = rUp (γ 1) 102 0 0 (ρ 23) := c2
  have c3 : γ 3 = rUp (γ 2) 102 0 1 (ρ 25) := c3
  have c4 : γ 4 = rUp (γ 3) 102 0 2 (ρ 27) := c4
  have c5 : γ 5 = rUp (γ 4) 102 0 3 (ρ 28) := c5
  have c6 : ∀ (G : Nat) (k j : Int), ¬ rMdP m40_ G j → γ 6 G k j = γ 5 G k j := c6
  obtain ⟨l0, -⟩ := hl
  have l0 : sn57 [ρ 7, ρ 0, ρ 2, ρ 19, ρ 29, ρ 30, ρ 31, ρ 10, ρ 17] (γ 5) 0 0 (γ 6) := hS57 _ _ _ _ _ l0
  show jn75 [ρ 0, ρ 1, ρ 2, ρ 3, ρ 4, ρ 5, ρ 6, ρ 7, ρ 8, ρ 9, ρ 10, ρ 11, ρ 12, ρ 13, ρ 14] (γ 0) 0 [ρ 0, ρ 1, ρ 2, ρ 3, ρ 4, ρ 5, ρ 6, ρ 7, ρ 8, ρ 9, ρ 10, ρ 11, ρ 12, ρ 13, ρ 14, ρ 15 + 1, ρ 16, ρ 36, ρ 18, ρ 32] (γ 6)
  have hD : en75 (γ 0) (0, [ρ 0, ρ 15], γ 1) = .inl (0, [ρ 0, ρ 15 + 1], γ 6) := by
    unfold en75
    refine (if_pos (show (0 : Nat) = 0 by decide)).trans ?_
    refine (zLet_eq (show _ = γ 1 from rfl)).trans ?_
    refine (zLet_eq (show _ = ρ 0 from rfl)).trans ?_
    refine (zLet_eq (show _ = ρ 15 from rfl)).trans ?_
    refine (zLet_eq m2).trans ?_
    refine (zLet_eq m6).trans ?_
    refine (zLet_eq m15).trans ?_
    refine (zLet_eq m16).trans ?_
    refine (if_neg (show ¬ (ρ 15 ≥ ρ 18) by omega)).trans ?_
    refine (if_neg (show ¬ (ρ 17 ≠ 0) by omega)).trans ?_
    refine (if_pos (show ρ 3 ≤ 2 by omega)).trans ?_
    refine (if_neg (show ¬ (ρ 3 ≠ 1) by omega)).trans ?_
    refine (zLet_eq m19).trans ?_
    refine (zLet_eq m20).trans ?_
    refine (if_neg (show ¬ (0 ≥ ρ 21) by omega)).trans ?_
    refine (zLet_eq m21).trans ?_
    refine (if_pos (show ρ 22 ≠ 3 by omega)).trans ?_
    refine (zLet_eq m22).trans ?_
    refine (zLet_eq c2.symm).trans ?_
    refine (if_neg (show ¬ (1 ≥ ρ 21) by omega)).trans ?_
    refine (zLet_eq m23).trans ?_
    refine (if_pos (show ρ 24 ≠ 3 by omega)).trans ?_
    refine (zLet_eq m24).trans ?_
    refine (zLet_eq c3.symm).trans ?_
    refine (if_neg (show ¬ (2 ≥ ρ 21) by omega)).trans ?_
    refine (zLet_eq m25).trans ?_
    refine (if_pos (show ρ 26 ≠ 3 by omega)).trans ?_
    refine (zLet_eq m26).trans ?_
    refine (zLet_eq c4.symm).trans ?_
    refine (if_pos (show 3 ≥ ρ 21 by omega)).trans ?_
    refine (zLet_eq m27).trans ?_
    refine (zLet_eq c5.symm).trans ?_
    refine (zLet_eq (show fn57 [ρ 7, ρ 0] (γ 5) = (0, 0, γ 6) from l0.symm)).trans ?_
    refine (zLet_eq (show _ = γ 6 from rfl)).trans ?_
    rfl
  exact zGoo_ato hJ hD
theorem vn75a0_37 {S : Nat → zSpc} (hS57 : ∀ x g o v gz, S 57 x g o v gz → sn57 x g o v gz) (hS73 : ∀ x g o v gz, S 73 x g o v gz → sn73 x g o v gz) {a : List Int} {g : rHp} : ∀ (ρ : Nat → Int) (γ : Nat → rHp), jn75 a g 0 (zAg (zNA a75_ 0) ρ) (γ 1) → zO 15 S a g q75a0_37 ρ γ → zGl (fun i vs g1 => jn75 a g i vs g1) (sn75 a g) q75a0_37 ρ γ := by
  intro ρ γ hJ h
  obtain ⟨ha, hg, hr, hf, hm, hc, hl⟩ := h
  have ha : a = [ρ 0, ρ 1, ρ 2, ρ 3, ρ 4, ρ 5, ρ 6, ρ 7, ρ 8, ρ 9, ρ 10, ρ 11, ρ 12, ρ 13, ρ 14] := ha
  subst ha
  subst hg
  have hJ : jn75 [ρ 0, ρ 1, ρ 2, ρ 3, ρ 4, ρ 5, ρ 6, ρ 7, ρ 8, ρ 9, ρ 10, ρ 11, ρ 12, ρ 13, ρ 14] (γ 0) 0 [ρ 0, ρ 1, ρ 2, ρ 3, ρ 4, ρ 5, ρ 6, ρ 7, ρ 8, ρ 9, ρ 10, ρ 11, ρ 12, ρ 13, ρ 14, ρ 15, ρ 16, ρ 17, ρ 18, ρ 19] (γ 1) := hJ
  obtain ⟨r0, r1, r2, r3, r4, r5, r6, r7, r8, r9, r10, r11, r12, r13, r14, r15, r16, r17, r18, r19, r20, r21, r22, r23, r24, r25, r26, r27, r28, r29, r30, r31, r32, r33, r34, r35, r36, r37, -⟩ := hr
  have r0 : (0 : Int) ≤ ρ 0 ∧ ρ 0 ≤ 59 := r0
  have r1 : (0 : Int) ≤ ρ 1 ∧ ρ 1 ≤ 60 := r1
  have r2 : (0 : Int) ≤ ρ 2 ∧ ρ 2 ≤ 20 := r2
  have r3 : (1 : Int) ≤ ρ 3 ∧ ρ 3 ≤ 1 := r3
  have r4 : (0 : Int) ≤ ρ 4 ∧ ρ 4 ≤ 50001 := r4
  have r5 : (0 : Int) ≤ ρ 5 ∧ ρ 5 ≤ 3 := r5
  have r6 : (0 : Int) ≤ ρ 6 ∧ ρ 6 ≤ 2000 := r6
  have r7 : (0 : Int) ≤ ρ 7 ∧ ρ 7 ≤ 19 := r7
  have r8 : (0 : Int) ≤ ρ 8 ∧ ρ 8 ≤ 61 := r8
  have r9 : (0 : Int) ≤ ρ 9 ∧ ρ 9 ≤ 2000 := r9
  have r10 : ((-2147483648) : Int) ≤ ρ 10 ∧ ρ 10 ≤ 2147483647 := r10
  have r11 : (0 : Int) ≤ ρ 11 ∧ ρ 11 ≤ 2000 := r11
  have r12 : (0 : Int) ≤ ρ 12 ∧ ρ 12 ≤ 2000 := r12
  have r13 : (0 : Int) ≤ ρ 13 ∧ ρ 13 ≤ 2000 := r13
  have r14 : (0 : Int) ≤ ρ 14 ∧ ρ 14 ≤ 50001 := r14
  have r15 : (0 : Int) ≤ ρ 15 ∧ ρ 15 ≤ 2000 := r15
  have r16 : (0 : Int) ≤ ρ 16 ∧ ρ 16 ≤ 50001 := r16
  have r17 : (0 : Int) ≤ ρ 17 ∧ ρ 17 ≤ 0 := r17
  have r18 : (0 : Int) ≤ ρ 18 ∧ ρ 18 ≤ 2000 := r18
  have r19 : (0 : Int) ≤ ρ 19 ∧ ρ 19 ≤ 2000 := r19
  have r20 : ((-2147483648) : Int) ≤ ρ 20 ∧ ρ 20 ≤ 2147483647 := r20
  have r21 : (4 : Int) ≤ ρ 21 ∧ ρ 21 ≤ 4 := r21
  have r22 : (0 : Int) ≤ ρ 22 ∧ ρ 22 ≤ 2 := r22
  have r23 : ((-2147483648) : Int) ≤ ρ 23 ∧ ρ 23 ≤ 1099511640064 := r23
  have r24 : (0 : Int) ≤ ρ 24 ∧ ρ 24 ≤ 2 := r24
  have r25 : ((-2147483648) : Int) ≤ ρ 25 ∧ ρ 25 ≤ 1099511640064 := r25
  have r26 : (0 : Int) ≤ ρ 26 ∧ ρ 26 ≤ 2 := r26
  have r27 : ((-2147483648) : Int) ≤ ρ 27 ∧ ρ 27 ≤ 1099511640064 := r27
  have r28 : (0 : Int) ≤ ρ 28 ∧ ρ 28 ≤ 2 := r28
  have r29 : ((-2147483648) : Int) ≤ ρ 29 ∧ ρ 29 ≤ 1099511640064 := r29
  have r30 : (0 : Int) ≤ ρ 30 ∧ ρ 30 ≤ 8 := r30
  have r31 : ((-1) : Int) ≤ ρ 31 ∧ ρ 31 ≤ 1999 := r31
  have r32 : (0 : Int) ≤ ρ 32 ∧ ρ 32 ≤ 1999 := r32
  have r33 : (1 : Int) ≤ ρ 33 ∧ ρ 33 ≤ 2000 := r33
  have r34 : (0 : Int) ≤ ρ 34 ∧ ρ 34 ≤ 8 := r34
  have r35 : ((-1) : Int) ≤ ρ 35 ∧ ρ 35 ≤ 1999 := r35
  have r36 : (0 : Int) ≤ ρ 36 ∧ ρ 36 ≤ 1999 := r36
  have r37 : (0 : Int) ≤ ρ 37 ∧ ρ 37 ≤ 3 := r37
  obtain ⟨f0, f1, f2, f3, f4, f5, f6, f7, f8, f9, -⟩ := hf
  have f0 : (0 : Int) ≤ -ρ 7 + ρ 2 + (-1) := f0
  have f1 : (0 : Int) ≤ ρ 33 + -ρ 19 := f1
  have f2 : (0 : Int) ≤ ρ 35 + -ρ 31 := f2
  have f3 : (0 : Int) ≤ ρ 18 + -ρ 15 + (-1) := f3
  have f4 : (0 : Int) ≤ ρ 17 + -ρ 16 + 50000 := f4
  have f5 : (0 : Int) ≤ ρ 1 + -ρ 0 + (-1) := f5
  have f6 : (0 : Int) ≤ ρ 19 + -ρ 9 := f6
  have f7 : (0 : Int) ≤ ρ 18 + -ρ 15 := f7
  have f8 : (0 : Int) ≤ ρ 17 + -ρ 5 := f8
  have f9 : (0 : Int) ≤ ρ 16 + -ρ 4 := f9
  obtain ⟨m0, m1, m2, m3, m4, m5, m6, m7, m8, m9, m10, m11, m12, m13, m14, m15, m16, m17, m18, m19, m20, m21, m22, m23, m24, m25, m26, m27, m28, m29, m30, m31, m32, m33, m34, m35, m36, -⟩ := hm
  have m0 : γ 0 15 0 32 = ρ 1 := m0
  have m1 : γ 0 15 0 13 = ρ 2 := m1
  have m2 : γ 0 71 0 (ρ 0) = ρ 3 := m2
  have m3 : γ 0 15 0 72 = ρ 4 := m3
  have m4 : γ 0 15 0 77 = ρ 5 := m4
  have m5 : γ 0 15 0 90 = ρ 6 := m5
  have m6 : γ 0 69 0 (ρ 0) = ρ 7 := m6
  have m7 : γ 0 15 0 44 = ρ 8 := m7
  have m8 : γ 0 15 0 71 = ρ 9 := m8
  have m9 : γ 0 15 0 76 = ρ 10 := m9
  have m10 : γ 0 15 0 81 = ρ 11 := m10
  have m11 : γ 0 15 0 82 = ρ 12 := m11
  have m12 : γ 0 15 0 83 = ρ 13 := m12
  have m13 : γ 0 15 0 94 = ρ 14 := m13
  have m14 : γ 1 15 0 72 = ρ 16 := m14
  have m15 : γ 1 15 0 77 = ρ 17 := m15
  have m16 : γ 1 15 0 90 = ρ 18 := m16
  have m17 : γ 1 15 0 71 = ρ 19 := m17
  have m18 : γ 1 15 0 81 = ρ 9 := m18
  have m19 : γ 1 106 0 (ρ 15) = ρ 20 := m19
  have m20 : γ 0 66 0 (ρ 7) = ρ 21 := m20
  have m21 : γ 0 70 0 (4 * ρ 0) = ρ 22 := m21
  have m22 : γ 1 105 0 (4 * ρ 15) = ρ 23 := m22
  have m23 : γ 0 70 0 (4 * ρ 0 + 1) = ρ 24 := m23
  have m24 : γ 1 105 0 (4 * ρ 15 + 1) = ρ 25 := m24
  have m25 : γ 0 70 0 (4 * ρ 0 + 2) = ρ 26 := m25
  have m26 : γ 1 105 0 (4 * ρ 15 + 2) = ρ 27 := m26
  have m27 : γ 0 70 0 (4 * ρ 0 + 3) = ρ 28 := m27
  have m28 : γ 1 105 0 (4 * ρ 15 + 3) = ρ 29 := m28
  have m29 : γ 1 97 0 (ρ 19) = ρ 30 := m29
  have m30 : γ 1 100 0 (ρ 7) = ρ 31 := m30
  have m31 : γ 1 101 0 (ρ 7) = ρ 32 := m31
  have m32 : γ 6 15 0 71 = ρ 33 := m32
  have m33 : γ 6 97 0 (ρ 19) = ρ 34 := m33
  have m34 : γ 6 100 0 (ρ 7) = ρ 35 := m34
  have m35 : γ 6 101 0 (ρ 7) = ρ 36 := m35
  have m36 : γ 6 15 0 77 = ρ 37 := m36
  obtain ⟨⟨⟨⟨⟨⟨-, c1⟩, c2⟩, c3⟩, c4⟩, c5⟩, c6⟩ := hc
  have c1 : ∀ (G : Nat) (k j : Int), ¬ rMdP m51_ G j → γ 1 G k j = γ 0 G k j := c1
  have c2 : γ 2 = rUp (γ 1) 102 0 0 (ρ 23) := c2
  have c3 : γ 3 = rUp (γ 2) 102 0 1 (ρ 25) := c3
  have c4 : γ 4 = rUp (γ 3) 102 0 2 (ρ 27) := c4
  have c5 : γ 5 = rUp (γ 4) 102 0 3 (ρ 29) := c5
  have c6 : ∀ (G : Nat) (k j : Int), ¬ rMdP m40_ G j → γ 6 G k j = γ 5 G k j := c6
  obtain ⟨l0, -⟩ := hl
  have l0 : sn57 [ρ 7, ρ 0, ρ 2, ρ 19, ρ 30, ρ 31, ρ 32, ρ 10, ρ 17] (γ 5) 0 0 (γ 6) := hS57 _ _ _ _ _ l0
  show jn75 [ρ 0, ρ 1, ρ 2, ρ 3, ρ 4, ρ 5, ρ 6, ρ 7, ρ 8, ρ 9, ρ 10, ρ 11, ρ 12, ρ 13, ρ 14] (γ 0) 0 [ρ 0, ρ 1, ρ 2, ρ 3, ρ 4, ρ 5, ρ 6, ρ 7, ρ 8, ρ 9, ρ 10, ρ 11, ρ 12, ρ 13, ρ 14, ρ 15 + 1, ρ 16, ρ 37, ρ 18, ρ 33] (γ 6)
  have hD : en75 (γ 0) (0, [ρ 0, ρ 15], γ 1) = .inl (0, [ρ 0, ρ 15 + 1], γ 6) := by
    unfold en75
    refine (if_pos (show (0 : Nat) = 0 by decide)).trans ?_
    refine (zLet_eq (show _ = γ 1 from rfl)).trans ?_
    refine (zLet_eq (show _ = ρ 0 from rfl)).trans ?_
    refine (zLet_eq (show _ = ρ 15 from rfl)).trans ?_
    refine (zLet_eq m2).trans ?_
    refine (zLet_eq m6).trans ?_
    refine (zLet_eq m15).trans ?_
    refine (zLet_eq m16).trans ?_
    refine (if_neg (show ¬ (ρ 15 ≥ ρ 18) by omega)).trans ?_
    refine (if_neg (show ¬ (ρ 17 ≠ 0) by omega)).trans ?_
    refine (if_pos (show ρ 3 ≤ 2 by omega)).trans ?_
    refine (if_neg (show ¬ (ρ 3 ≠ 1) by omega)).trans ?_
    refine (zLet_eq m19).trans ?_
    refine (zLet_eq m20).trans ?_
    refine (if_neg (show ¬ (0 ≥ ρ 21) by omega)).trans ?_
    refine (zLet_eq m21).trans ?_
    refine (if_pos (show ρ 22 ≠ 3 by omega)).trans ?_
    refine (zLet_eq m22).trans ?_
    refine (zLet_eq c2.symm).trans ?_
    refine (if_neg (show ¬ (1 ≥ ρ 21) by omega)).trans ?_
    refine (zLet_eq m23).trans ?_
    refine (if_pos (show ρ 24 ≠ 3 by omega)).trans ?_
    refine (zLet_eq m24).trans ?_
    refine (zLet_eq c3.symm).trans ?_
    refine (if_neg (show ¬ (2 ≥ ρ 21) by omega)).trans ?_
    refine (zLet_eq m25).trans ?_
    refine (if_pos (show ρ 26 ≠ 3 by omega)).trans ?_
    refine (zLet_eq m26).trans ?_
    refine (zLet_eq c4.symm).trans ?_
    refine (if_neg (show ¬ (3 ≥ ρ 21) by omega)).trans ?_
    refine (zLet_eq m27).trans ?_
    refine (if_pos (show ρ 28 ≠ 3 by omega)).trans ?_
    refine (zLet_eq m28).trans ?_
    refine (zLet_eq c5.symm).trans ?_
    refine (zLet_eq (show fn57 [ρ 7, ρ 0] (γ 5) = (0, 0, γ 6) from l0.symm)).trans ?_
    refine (zLet_eq (show _ = γ 6 from rfl)).trans ?_
    rfl
  exact zGoo_ato hJ hD
theorem vn75a0_38 {S : Nat → zSpc} (hS57 : ∀ x g o v gz, S 57 x g o v gz → sn57 x g o v gz) (hS73 : ∀ x g o v gz, S 73 x g o v gz → sn73 x g o v gz) {a : List Int} {g : rHp} : ∀ (ρ : Nat → Int) (γ : Nat → rHp), jn75 a g 0 (zAg (zNA a75_ 0) ρ) (γ 1) → zO 15 S a g q75a0_38 ρ γ → zGl (fun i vs g1 => jn75 a g i vs g1) (sn75 a g) q75a0_38 ρ γ := by
  intro ρ γ hJ h
  obtain ⟨ha, hg, hr, hf, hm, hc, hl⟩ := h
  have ha : a = [ρ 0, ρ 1, ρ 2, ρ 3, ρ 4, ρ 5, ρ 6, ρ 7, ρ 8, ρ 9, ρ 10, ρ 11, ρ 12, ρ 13, ρ 14] := ha
  subst ha
  subst hg
  have hJ : jn75 [ρ 0, ρ 1, ρ 2, ρ 3, ρ 4, ρ 5, ρ 6, ρ 7, ρ 8, ρ 9, ρ 10, ρ 11, ρ 12, ρ 13, ρ 14] (γ 0) 0 [ρ 0, ρ 1, ρ 2, ρ 3, ρ 4, ρ 5, ρ 6, ρ 7, ρ 8, ρ 9, ρ 10, ρ 11, ρ 12, ρ 13, ρ 14, ρ 15, ρ 16, ρ 17, ρ 18, ρ 19] (γ 1) := hJ
  obtain ⟨r0, r1, r2, r3, r4, r5, r6, r7, r8, r9, r10, r11, r12, r13, r14, r15, r16, r17, r18, r19, r20, r21, r22, r23, r24, r25, r26, r27, r28, r29, r30, r31, r32, r33, r34, r35, r36, -⟩ := hr
  have r0 : (0 : Int) ≤ ρ 0 ∧ ρ 0 ≤ 59 := r0
  have r1 : (0 : Int) ≤ ρ 1 ∧ ρ 1 ≤ 60 := r1
  have r2 : (0 : Int) ≤ ρ 2 ∧ ρ 2 ≤ 20 := r2
  have r3 : (1 : Int) ≤ ρ 3 ∧ ρ 3 ≤ 1 := r3
  have r4 : (0 : Int) ≤ ρ 4 ∧ ρ 4 ≤ 50001 := r4
  have r5 : (0 : Int) ≤ ρ 5 ∧ ρ 5 ≤ 3 := r5
  have r6 : (0 : Int) ≤ ρ 6 ∧ ρ 6 ≤ 2000 := r6
  have r7 : (0 : Int) ≤ ρ 7 ∧ ρ 7 ≤ 19 := r7
  have r8 : (0 : Int) ≤ ρ 8 ∧ ρ 8 ≤ 61 := r8
  have r9 : (0 : Int) ≤ ρ 9 ∧ ρ 9 ≤ 2000 := r9
  have r10 : ((-2147483648) : Int) ≤ ρ 10 ∧ ρ 10 ≤ 2147483647 := r10
  have r11 : (0 : Int) ≤ ρ 11 ∧ ρ 11 ≤ 2000 := r11
  have r12 : (0 : Int) ≤ ρ 12 ∧ ρ 12 ≤ 2000 := r12
  have r13 : (0 : Int) ≤ ρ 13 ∧ ρ 13 ≤ 2000 := r13
  have r14 : (0 : Int) ≤ ρ 14 ∧ ρ 14 ≤ 50001 := r14
  have r15 : (0 : Int) ≤ ρ 15 ∧ ρ 15 ≤ 2000 := r15
  have r16 : (0 : Int) ≤ ρ 16 ∧ ρ 16 ≤ 50001 := r16
  have r17 : (0 : Int) ≤ ρ 17 ∧ ρ 17 ≤ 0 := r17
  have r18 : (0 : Int) ≤ ρ 18 ∧ ρ 18 ≤ 2000 := r18
  have r19 : (0 : Int) ≤ ρ 19 ∧ ρ 19 ≤ 2000 := r19
  have r20 : ((-2147483648) : Int) ≤ ρ 20 ∧ ρ 20 ≤ 2147483647 := r20
  have r21 : (4 : Int) ≤ ρ 21 ∧ ρ 21 ≤ 4 := r21
  have r22 : (0 : Int) ≤ ρ 22 ∧ ρ 22 ≤ 2 := r22
  have r23 : ((-2147483648) : Int) ≤ ρ 23 ∧ ρ 23 ≤ 1099511640064 := r23
  have r24 : (0 : Int) ≤ ρ 24 ∧ ρ 24 ≤ 2 := r24
  have r25 : ((-2147483648) : Int) ≤ ρ 25 ∧ ρ 25 ≤ 1099511640064 := r25
  have r26 : (0 : Int) ≤ ρ 26 ∧ ρ 26 ≤ 2 := r26
  have r27 : ((-2147483648) : Int) ≤ ρ 27 ∧ ρ 27 ≤ 1099511640064 := r27
  have r28 : (3 : Int) ≤ ρ 28 ∧ ρ 28 ≤ 3 := r28
  have r29 : (0 : Int) ≤ ρ 29 ∧ ρ 29 ≤ 8 := r29
  have r30 : ((-1) : Int) ≤ ρ 30 ∧ ρ 30 ≤ 1999 := r30
  have r31 : (0 : Int) ≤ ρ 31 ∧ ρ 31 ≤ 1999 := r31
  have r32 : (1 : Int) ≤ ρ 32 ∧ ρ 32 ≤ 2000 := r32
  have r33 : (0 : Int) ≤ ρ 33 ∧ ρ 33 ≤ 8 := r33
  have r34 : ((-1) : Int) ≤ ρ 34 ∧ ρ 34 ≤ 1999 := r34
  have r35 : (0 : Int) ≤ ρ 35 ∧ ρ 35 ≤ 1999 := r35
  have r36 : (0 : Int) ≤ ρ 36 ∧ ρ 36 ≤ 3 := r36
  obtain ⟨f0, f1, f2, f3, f4, f5, f6, f7, f8, f9, -⟩ := hf
  have f0 : (0 : Int) ≤ -ρ 7 + ρ 2 + (-1) := f0
  have f1 : (0 : Int) ≤ ρ 32 + -ρ 19 := f1
  have f2 : (0 : Int) ≤ ρ 34 + -ρ 30 := f2
  have f3 : (0 : Int) ≤ ρ 18 + -ρ 15 + (-1) := f3
  have f4 : (0 : Int) ≤ ρ 17 + -ρ 16 + 50000 := f4
  have f5 : (0 : Int) ≤ ρ 1 + -ρ 0 + (-1) := f5
  have f6 : (0 : Int) ≤ ρ 19 + -ρ 9 := f6
  have f7 : (0 : Int) ≤ ρ 18 + -ρ 15 := f7
  have f8 : (0 : Int) ≤ ρ 17 + -ρ 5 := f8
  have f9 : (0 : Int) ≤ ρ 16 + -ρ 4 := f9
  obtain ⟨m0, m1, m2, m3, m4, m5, m6, m7, m8, m9, m10, m11, m12, m13, m14, m15, m16, m17, m18, m19, m20, m21, m22, m23, m24, m25, m26, m27, m28, m29, m30, m31, m32, m33, m34, m35, -⟩ := hm
  have m0 : γ 0 15 0 32 = ρ 1 := m0
  have m1 : γ 0 15 0 13 = ρ 2 := m1
  have m2 : γ 0 71 0 (ρ 0) = ρ 3 := m2
  have m3 : γ 0 15 0 72 = ρ 4 := m3
  have m4 : γ 0 15 0 77 = ρ 5 := m4
  have m5 : γ 0 15 0 90 = ρ 6 := m5
  have m6 : γ 0 69 0 (ρ 0) = ρ 7 := m6
  have m7 : γ 0 15 0 44 = ρ 8 := m7
  have m8 : γ 0 15 0 71 = ρ 9 := m8
  have m9 : γ 0 15 0 76 = ρ 10 := m9
  have m10 : γ 0 15 0 81 = ρ 11 := m10
  have m11 : γ 0 15 0 82 = ρ 12 := m11
  have m12 : γ 0 15 0 83 = ρ 13 := m12
  have m13 : γ 0 15 0 94 = ρ 14 := m13
  have m14 : γ 1 15 0 72 = ρ 16 := m14
  have m15 : γ 1 15 0 77 = ρ 17 := m15
  have m16 : γ 1 15 0 90 = ρ 18 := m16
  have m17 : γ 1 15 0 71 = ρ 19 := m17
  have m18 : γ 1 15 0 81 = ρ 9 := m18
  have m19 : γ 1 106 0 (ρ 15) = ρ 20 := m19
  have m20 : γ 0 66 0 (ρ 7) = ρ 21 := m20
  have m21 : γ 0 70 0 (4 * ρ 0) = ρ 22 := m21
  have m22 : γ 1 105 0 (4 * ρ 15) = ρ 23 := m22
  have m23 : γ 0 70 0 (4 * ρ 0 + 1) = ρ 24 := m23
  have m24 : γ 1 105 0 (4 * ρ 15 + 1) = ρ 25 := m24
  have m25 : γ 0 70 0 (4 * ρ 0 + 2) = ρ 26 := m25
  have m26 : γ 1 105 0 (4 * ρ 15 + 2) = ρ 27 := m26
  have m27 : γ 0 70 0 (4 * ρ 0 + 3) = ρ 28 := m27
  have m28 : γ 1 97 0 (ρ 19) = ρ 29 := m28
  have m29 : γ 1 100 0 (ρ 7) = ρ 30 := m29
  have m30 : γ 1 101 0 (ρ 7) = ρ 31 := m30
  have m31 : γ 6 15 0 71 = ρ 32 := m31
  have m32 : γ 6 97 0 (ρ 19) = ρ 33 := m32
  have m33 : γ 6 100 0 (ρ 7) = ρ 34 := m33
  have m34 : γ 6 101 0 (ρ 7) = ρ 35 := m34
  have m35 : γ 6 15 0 77 = ρ 36 := m35
  obtain ⟨⟨⟨⟨⟨⟨-, c1⟩, c2⟩, c3⟩, c4⟩, c5⟩, c6⟩ := hc
  have c1 : ∀ (G : Nat) (k j : Int), ¬ rMdP m51_ G j → γ 1 G k j = γ 0 G k j := c1
  have c2 : γ 2 = rUp (γ 1) 102 0 0 (ρ 23) := c2
  have c3 : γ 3 = rUp (γ 2) 102 0 1 (ρ 25) := c3
  have c4 : γ 4 = rUp (γ 3) 102 0 2 (ρ 27) := c4
  have c5 : γ 5 = rUp (γ 4) 102 0 3 (ρ 20) := c5
  have c6 : ∀ (G : Nat) (k j : Int), ¬ rMdP m40_ G j → γ 6 G k j = γ 5 G k j := c6
  obtain ⟨l0, -⟩ := hl
  have l0 : sn57 [ρ 7, ρ 0, ρ 2, ρ 19, ρ 29, ρ 30, ρ 31, ρ 10, ρ 17] (γ 5) 0 0 (γ 6) := hS57 _ _ _ _ _ l0
  show jn75 [ρ 0, ρ 1, ρ 2, ρ 3, ρ 4, ρ 5, ρ 6, ρ 7, ρ 8, ρ 9, ρ 10, ρ 11, ρ 12, ρ 13, ρ 14] (γ 0) 0 [ρ 0, ρ 1, ρ 2, ρ 3, ρ 4, ρ 5, ρ 6, ρ 7, ρ 8, ρ 9, ρ 10, ρ 11, ρ 12, ρ 13, ρ 14, ρ 15 + 1, ρ 16, ρ 36, ρ 18, ρ 32] (γ 6)
  have hD : en75 (γ 0) (0, [ρ 0, ρ 15], γ 1) = .inl (0, [ρ 0, ρ 15 + 1], γ 6) := by
    unfold en75
    refine (if_pos (show (0 : Nat) = 0 by decide)).trans ?_
    refine (zLet_eq (show _ = γ 1 from rfl)).trans ?_
    refine (zLet_eq (show _ = ρ 0 from rfl)).trans ?_
    refine (zLet_eq (show _ = ρ 15 from rfl)).trans ?_
    refine (zLet_eq m2).trans ?_
    refine (zLet_eq m6).trans ?_
    refine (zLet_eq m15).trans ?_
    refine (zLet_eq m16).trans ?_
    refine (if_neg (show ¬ (ρ 15 ≥ ρ 18) by omega)).trans ?_
    refine (if_neg (show ¬ (ρ 17 ≠ 0) by omega)).trans ?_
    refine (if_pos (show ρ 3 ≤ 2 by omega)).trans ?_
    refine (if_neg (show ¬ (ρ 3 ≠ 1) by omega)).trans ?_
    refine (zLet_eq m19).trans ?_
    refine (zLet_eq m20).trans ?_
    refine (if_neg (show ¬ (0 ≥ ρ 21) by omega)).trans ?_
    refine (zLet_eq m21).trans ?_
    refine (if_pos (show ρ 22 ≠ 3 by omega)).trans ?_
    refine (zLet_eq m22).trans ?_
    refine (zLet_eq c2.symm).trans ?_
    refine (if_neg (show ¬ (1 ≥ ρ 21) by omega)).trans ?_
    refine (zLet_eq m23).trans ?_
    refine (if_pos (show ρ 24 ≠ 3 by omega)).trans ?_
    refine (zLet_eq m24).trans ?_
    refine (zLet_eq c3.symm).trans ?_
    refine (if_neg (show ¬ (2 ≥ ρ 21) by omega)).trans ?_
    refine (zLet_eq m25).trans ?_
    refine (if_pos (show ρ 26 ≠ 3 by omega)).trans ?_
    refine (zLet_eq m26).trans ?_
    refine (zLet_eq c4.symm).trans ?_
    refine (if_neg (show ¬ (3 ≥ ρ 21) by omega)).trans ?_
    refine (zLet_eq m27).trans ?_
    refine (if_neg (show ¬ (ρ 28 ≠ 3) by omega)).trans ?_
    refine (zLet_eq c5.symm).trans ?_
    refine (zLet_eq (show fn57 [ρ 7, ρ 0] (γ 5) = (0, 0, γ 6) from l0.symm)).trans ?_
    refine (zLet_eq (show _ = γ 6 from rfl)).trans ?_
    rfl
  exact zGoo_ato hJ hD
theorem vn75a0_39 {S : Nat → zSpc} (hS57 : ∀ x g o v gz, S 57 x g o v gz → sn57 x g o v gz) (hS73 : ∀ x g o v gz, S 73 x g o v gz → sn73 x g o v gz) {a : List Int} {g : rHp} : ∀ (ρ : Nat → Int) (γ : Nat → rHp), jn75 a g 0 (zAg (zNA a75_ 0) ρ) (γ 1) → zO 15 S a g q75a0_39 ρ γ → zGl (fun i vs g1 => jn75 a g i vs g1) (sn75 a g) q75a0_39 ρ γ := by
  intro ρ γ hJ h
  obtain ⟨ha, hg, hr, hf, hm, hc, hl⟩ := h
  have ha : a = [ρ 0, ρ 1, ρ 2, ρ 3, ρ 4, ρ 5, ρ 6, ρ 7, ρ 8, ρ 9, ρ 10, ρ 11, ρ 12, ρ 13, ρ 14] := ha
  subst ha
  subst hg
  have hJ : jn75 [ρ 0, ρ 1, ρ 2, ρ 3, ρ 4, ρ 5, ρ 6, ρ 7, ρ 8, ρ 9, ρ 10, ρ 11, ρ 12, ρ 13, ρ 14] (γ 0) 0 [ρ 0, ρ 1, ρ 2, ρ 3, ρ 4, ρ 5, ρ 6, ρ 7, ρ 8, ρ 9, ρ 10, ρ 11, ρ 12, ρ 13, ρ 14, ρ 15, ρ 16, ρ 17, ρ 18, ρ 19] (γ 1) := hJ
  obtain ⟨r0, r1, r2, r3, r4, r5, r6, r7, r8, r9, r10, r11, r12, r13, r14, r15, r16, r17, r18, r19, r20, r21, r22, r23, r24, r25, r26, r27, r28, r29, r30, r31, r32, r33, r34, r35, -⟩ := hr
  have r0 : (0 : Int) ≤ ρ 0 ∧ ρ 0 ≤ 59 := r0
  have r1 : (0 : Int) ≤ ρ 1 ∧ ρ 1 ≤ 60 := r1
  have r2 : (0 : Int) ≤ ρ 2 ∧ ρ 2 ≤ 20 := r2
  have r3 : (1 : Int) ≤ ρ 3 ∧ ρ 3 ≤ 1 := r3
  have r4 : (0 : Int) ≤ ρ 4 ∧ ρ 4 ≤ 50001 := r4
  have r5 : (0 : Int) ≤ ρ 5 ∧ ρ 5 ≤ 3 := r5
  have r6 : (0 : Int) ≤ ρ 6 ∧ ρ 6 ≤ 2000 := r6
  have r7 : (0 : Int) ≤ ρ 7 ∧ ρ 7 ≤ 19 := r7
  have r8 : (0 : Int) ≤ ρ 8 ∧ ρ 8 ≤ 61 := r8
  have r9 : (0 : Int) ≤ ρ 9 ∧ ρ 9 ≤ 2000 := r9
  have r10 : ((-2147483648) : Int) ≤ ρ 10 ∧ ρ 10 ≤ 2147483647 := r10
  have r11 : (0 : Int) ≤ ρ 11 ∧ ρ 11 ≤ 2000 := r11
  have r12 : (0 : Int) ≤ ρ 12 ∧ ρ 12 ≤ 2000 := r12
  have r13 : (0 : Int) ≤ ρ 13 ∧ ρ 13 ≤ 2000 := r13
  have r14 : (0 : Int) ≤ ρ 14 ∧ ρ 14 ≤ 50001 := r14
  have r15 : (0 : Int) ≤ ρ 15 ∧ ρ 15 ≤ 2000 := r15
  have r16 : (0 : Int) ≤ ρ 16 ∧ ρ 16 ≤ 50001 := r16
  have r17 : (0 : Int) ≤ ρ 17 ∧ ρ 17 ≤ 0 := r17
  have r18 : (0 : Int) ≤ ρ 18 ∧ ρ 18 ≤ 2000 := r18
  have r19 : (0 : Int) ≤ ρ 19 ∧ ρ 19 ≤ 2000 := r19
  have r20 : ((-2147483648) : Int) ≤ ρ 20 ∧ ρ 20 ≤ 2147483647 := r20
  have r21 : (3 : Int) ≤ ρ 21 ∧ ρ 21 ≤ 3 := r21
  have r22 : (0 : Int) ≤ ρ 22 ∧ ρ 22 ≤ 2 := r22
  have r23 : ((-2147483648) : Int) ≤ ρ 23 ∧ ρ 23 ≤ 1099511640064 := r23
  have r24 : (0 : Int) ≤ ρ 24 ∧ ρ 24 ≤ 2 := r24
  have r25 : ((-2147483648) : Int) ≤ ρ 25 ∧ ρ 25 ≤ 1099511640064 := r25
  have r26 : (3 : Int) ≤ ρ 26 ∧ ρ 26 ≤ 3 := r26
  have r27 : ((-2147483648) : Int) ≤ ρ 27 ∧ ρ 27 ≤ 1099511640064 := r27
  have r28 : (0 : Int) ≤ ρ 28 ∧ ρ 28 ≤ 8 := r28
  have r29 : ((-1) : Int) ≤ ρ 29 ∧ ρ 29 ≤ 1999 := r29
  have r30 : (0 : Int) ≤ ρ 30 ∧ ρ 30 ≤ 1999 := r30
  have r31 : (1 : Int) ≤ ρ 31 ∧ ρ 31 ≤ 2000 := r31
  have r32 : (0 : Int) ≤ ρ 32 ∧ ρ 32 ≤ 8 := r32
  have r33 : ((-1) : Int) ≤ ρ 33 ∧ ρ 33 ≤ 1999 := r33
  have r34 : (0 : Int) ≤ ρ 34 ∧ ρ 34 ≤ 1999 := r34
  have r35 : (0 : Int) ≤ ρ 35 ∧ ρ 35 ≤ 3 := r35
  obtain ⟨f0, f1, f2, f3, f4, f5, f6, f7, f8, f9, -⟩ := hf
  have f0 : (0 : Int) ≤ -ρ 7 + ρ 2 + (-1) := f0
  have f1 : (0 : Int) ≤ ρ 31 + -ρ 19 := f1
  have f2 : (0 : Int) ≤ ρ 33 + -ρ 29 := f2
  have f3 : (0 : Int) ≤ ρ 18 + -ρ 15 + (-1) := f3
  have f4 : (0 : Int) ≤ ρ 17 + -ρ 16 + 50000 := f4
  have f5 : (0 : Int) ≤ ρ 1 + -ρ 0 + (-1) := f5
  have f6 : (0 : Int) ≤ ρ 19 + -ρ 9 := f6
  have f7 : (0 : Int) ≤ ρ 18 + -ρ 15 := f7
  have f8 : (0 : Int) ≤ ρ 17 + -ρ 5 := f8
  have f9 : (0 : Int) ≤ ρ 16 + -ρ 4 := f9
  obtain ⟨m0, m1, m2, m3, m4, m5, m6, m7, m8, m9, m10, m11, m12, m13, m14, m15, m16, m17, m18, m19, m20, m21, m22, m23, m24, m25, m26, m27, m28, m29, m30, m31, m32, m33, m34, -⟩ := hm
  have m0 : γ 0 15 0 32 = ρ 1 := m0
  have m1 : γ 0 15 0 13 = ρ 2 := m1
  have m2 : γ 0 71 0 (ρ 0) = ρ 3 := m2
  have m3 : γ 0 15 0 72 = ρ 4 := m3
  have m4 : γ 0 15 0 77 = ρ 5 := m4
  have m5 : γ 0 15 0 90 = ρ 6 := m5
  have m6 : γ 0 69 0 (ρ 0) = ρ 7 := m6
  have m7 : γ 0 15 0 44 = ρ 8 := m7
  have m8 : γ 0 15 0 71 = ρ 9 := m8
  have m9 : γ 0 15 0 76 = ρ 10 := m9
  have m10 : γ 0 15 0 81 = ρ 11 := m10
  have m11 : γ 0 15 0 82 = ρ 12 := m11
  have m12 : γ 0 15 0 83 = ρ 13 := m12
  have m13 : γ 0 15 0 94 = ρ 14 := m13
  have m14 : γ 1 15 0 72 = ρ 16 := m14
  have m15 : γ 1 15 0 77 = ρ 17 := m15
  have m16 : γ 1 15 0 90 = ρ 18 := m16
  have m17 : γ 1 15 0 71 = ρ 19 := m17
  have m18 : γ 1 15 0 81 = ρ 9 := m18
  have m19 : γ 1 106 0 (ρ 15) = ρ 20 := m19
  have m20 : γ 0 66 0 (ρ 7) = ρ 21 := m20
  have m21 : γ 0 70 0 (4 * ρ 0) = ρ 22 := m21
  have m22 : γ 1 105 0 (4 * ρ 15) = ρ 23 := m22
  have m23 : γ 0 70 0 (4 * ρ 0 + 1) = ρ 24 := m23
  have m24 : γ 1 105 0 (4 * ρ 15 + 1) = ρ 25 := m24
  have m25 : γ 0 70 0 (4 * ρ 0 + 2) = ρ 26 := m25
  have m26 : γ 1 105 0 (4 * ρ 15 + 3) = ρ 27 := m26
  have m27 : γ 1 97 0 (ρ 19) = ρ 28 := m27
  have m28 : γ 1 100 0 (ρ 7) = ρ 29 := m28
  have m29 : γ 1 101 0 (ρ 7) = ρ 30 := m29
  have m30 : γ 6 15 0 71 = ρ 31 := m30
  have m31 : γ 6 97 0 (ρ 19) = ρ 32 := m31
  have m32 : γ 6 100 0 (ρ 7) = ρ 33 := m32
  have m33 : γ 6 101 0 (ρ 7) = ρ 34 := m33
  have m34 : γ 6 15 0 77 = ρ 35 := m34
  obtain ⟨⟨⟨⟨⟨⟨-, c1⟩, c2⟩, c3⟩, c4⟩, c5⟩, c6⟩ := hc
  have c1 : ∀ (G : Nat) (k j : Int), ¬ rMdP m51_ G j → γ 1 G k j = γ 0 G k j := c1
  have c2 : γ 2 = rUp (γ 1) 102 0 0 (ρ 23) := c2
  have c3 : γ 3 = rUp (γ 2) 102 0 1 (ρ 25) := c3
  have c4 : γ 4 = rUp (γ 3) 102 0 2 (ρ 20) := c4
  have c5 : γ 5 = rUp (γ 4) 102 0 3 (ρ 27) := c5
  have c6 : ∀ (G : Nat) (k j : Int), ¬ rMdP m40_ G j → γ 6 G k j = γ 5 G k j := c6
  obtain ⟨l0, -⟩ := hl
  have l0 : sn57 [ρ 7, ρ 0, ρ 2, ρ 19, ρ 28, ρ 29, ρ 30, ρ 10, ρ 17] (γ 5) 0 0 (γ 6) := hS57 _ _ _ _ _ l0
  show jn75 [ρ 0, ρ 1, ρ 2, ρ 3, ρ 4, ρ 5, ρ 6, ρ 7, ρ 8, ρ 9, ρ 10, ρ 11, ρ 12, ρ 13, ρ 14] (γ 0) 0 [ρ 0, ρ 1, ρ 2, ρ 3, ρ 4, ρ 5, ρ 6, ρ 7, ρ 8, ρ 9, ρ 10, ρ 11, ρ 12, ρ 13, ρ 14, ρ 15 + 1, ρ 16, ρ 35, ρ 18, ρ 31] (γ 6)
  have hD : en75 (γ 0) (0, [ρ 0, ρ 15], γ 1) = .inl (0, [ρ 0, ρ 15 + 1], γ 6) := by
    unfold en75
    refine (if_pos (show (0 : Nat) = 0 by decide)).trans ?_
    refine (zLet_eq (show _ = γ 1 from rfl)).trans ?_
    refine (zLet_eq (show _ = ρ 0 from rfl)).trans ?_
    refine (zLet_eq (show _ = ρ 15 from rfl)).trans ?_
    refine (zLet_eq m2).trans ?_
    refine (zLet_eq m6).trans ?_
    refine (zLet_eq m15).trans ?_
    refine (zLet_eq m16).trans ?_
    refine (if_neg (show ¬ (ρ 15 ≥ ρ 18) by omega)).trans ?_
    refine (if_neg (show ¬ (ρ 17 ≠ 0) by omega)).trans ?_
    refine (if_pos (show ρ 3 ≤ 2 by omega)).trans ?_
    refine (if_neg (show ¬ (ρ 3 ≠ 1) by omega)).trans ?_
    refine (zLet_eq m19).trans ?_
    refine (zLet_eq m20).trans ?_
    refine (if_neg (show ¬ (0 ≥ ρ 21) by omega)).trans ?_
    refine (zLet_eq m21).trans ?_
    refine (if_pos (show ρ 22 ≠ 3 by omega)).trans ?_
    refine (zLet_eq m22).trans ?_
    refine (zLet_eq c2.symm).trans ?_
    refine (if_neg (show ¬ (1 ≥ ρ 21) by omega)).trans ?_
    refine (zLet_eq m23).trans ?_
    refine (if_pos (show ρ 24 ≠ 3 by omega)).trans ?_
    refine (zLet_eq m24).trans ?_
    refine (zLet_eq c3.symm).trans ?_
    refine (if_neg (show ¬ (2 ≥ ρ 21) by omega)).trans ?_
    refine (zLet_eq m25).trans ?_
    refine (if_neg (show ¬ (ρ 26 ≠ 3) by omega)).trans ?_
    refine (zLet_eq c4.symm).trans ?_
    refine (if_pos (show 3 ≥ ρ 21 by omega)).trans ?_
    refine (zLet_eq m26).trans ?_
    refine (zLet_eq c5.symm).trans ?_
    refine (zLet_eq (show fn57 [ρ 7, ρ 0] (γ 5) = (0, 0, γ 6) from l0.symm)).trans ?_
    refine (zLet_eq (show _ = γ 6 from rfl)).trans ?_
    rfl
  exact zGoo_ato hJ hD
theorem vn75a0_40 {S : Nat → zSpc} (hS57 : ∀ x g o v gz, S 57 x g o v gz → sn57 x g o v gz) (hS73 : ∀ x g o v gz, S 73 x g o v gz → sn73 x g o v gz) {a : List Int} {g : rHp} : ∀ (ρ : Nat → Int) (γ : Nat → rHp), jn75 a g 0 (zAg (zNA a75_ 0) ρ) (γ 1) → zO 15 S a g q75a0_40 ρ γ → zGl (fun i vs g1 => jn75 a g i vs g1) (sn75 a g) q75a0_40 ρ γ := by
  intro ρ γ hJ h
  obtain ⟨ha, hg, hr, hf, hm, hc, hl⟩ := h
  have ha : a = [ρ 0, ρ 1, ρ 2, ρ 3, ρ 4, ρ 5, ρ 6, ρ 7, ρ 8, ρ 9, ρ 10, ρ 11, ρ 12, ρ 13, ρ 14] := ha
  subst ha
  subst hg
  have hJ : jn75 [ρ 0, ρ 1, ρ 2, ρ 3, ρ 4, ρ 5, ρ 6, ρ 7, ρ 8, ρ 9, ρ 10, ρ 11, ρ 12, ρ 13, ρ 14] (γ 0) 0 [ρ 0, ρ 1, ρ 2, ρ 3, ρ 4, ρ 5, ρ 6, ρ 7, ρ 8, ρ 9, ρ 10, ρ 11, ρ 12, ρ 13, ρ 14, ρ 15, ρ 16, ρ 17, ρ 18, ρ 19] (γ 1) := hJ
  obtain ⟨r0, r1, r2, r3, r4, r5, r6, r7, r8, r9, r10, r11, r12, r13, r14, r15, r16, r17, r18, r19, r20, r21, r22, r23, r24, r25, r26, r27, r28, r29, r30, r31, r32, r33, r34, r35, r36, -⟩ := hr
  have r0 : (0 : Int) ≤ ρ 0 ∧ ρ 0 ≤ 59 := r0
  have r1 : (0 : Int) ≤ ρ 1 ∧ ρ 1 ≤ 60 := r1
  have r2 : (0 : Int) ≤ ρ 2 ∧ ρ 2 ≤ 20 := r2
  have r3 : (1 : Int) ≤ ρ 3 ∧ ρ 3 ≤ 1 := r3
  have r4 : (0 : Int) ≤ ρ 4 ∧ ρ 4 ≤ 50001 := r4
  have r5 : (0 : Int) ≤ ρ 5 ∧ ρ 5 ≤ 3 := r5
  have r6 : (0 : Int) ≤ ρ 6 ∧ ρ 6 ≤ 2000 := r6
  have r7 : (0 : Int) ≤ ρ 7 ∧ ρ 7 ≤ 19 := r7
  have r8 : (0 : Int) ≤ ρ 8 ∧ ρ 8 ≤ 61 := r8
  have r9 : (0 : Int) ≤ ρ 9 ∧ ρ 9 ≤ 2000 := r9
  have r10 : ((-2147483648) : Int) ≤ ρ 10 ∧ ρ 10 ≤ 2147483647 := r10
  have r11 : (0 : Int) ≤ ρ 11 ∧ ρ 11 ≤ 2000 := r11
  have r12 : (0 : Int) ≤ ρ 12 ∧ ρ 12 ≤ 2000 := r12
  have r13 : (0 : Int) ≤ ρ 13 ∧ ρ 13 ≤ 2000 := r13
  have r14 : (0 : Int) ≤ ρ 14 ∧ ρ 14 ≤ 50001 := r14
  have r15 : (0 : Int) ≤ ρ 15 ∧ ρ 15 ≤ 2000 := r15
  have r16 : (0 : Int) ≤ ρ 16 ∧ ρ 16 ≤ 50001 := r16
  have r17 : (0 : Int) ≤ ρ 17 ∧ ρ 17 ≤ 0 := r17
  have r18 : (0 : Int) ≤ ρ 18 ∧ ρ 18 ≤ 2000 := r18
  have r19 : (0 : Int) ≤ ρ 19 ∧ ρ 19 ≤ 2000 := r19
  have r20 : ((-2147483648) : Int) ≤ ρ 20 ∧ ρ 20 ≤ 2147483647 := r20
  have r21 : (4 : Int) ≤ ρ 21 ∧ ρ 21 ≤ 4 := r21
  have r22 : (0 : Int) ≤ ρ 22 ∧ ρ 22 ≤ 2 := r22
  have r23 : ((-2147483648) : Int) ≤ ρ 23 ∧ ρ 23 ≤ 1099511640064 := r23
  have r24 : (0 : Int) ≤ ρ 24 ∧ ρ 24 ≤ 2 := r24
  have r25 : ((-2147483648) : Int) ≤ ρ 25 ∧ ρ 25 ≤ 1099511640064 := r25
  have r26 : (3 : Int) ≤ ρ 26 ∧ ρ 26 ≤ 3 := r26
  have r27 : (0 : Int) ≤ ρ 27 ∧ ρ 27 ≤ 2 := r27
  have r28 : ((-2147483648) : Int) ≤ ρ 28 ∧ ρ 28 ≤ 1099511640064 := r28
  have r29 : (0 : Int) ≤ ρ 29 ∧ ρ 29 ≤ 8 := r29
  have r30 : ((-1) : Int) ≤ ρ 30 ∧ ρ 30 ≤ 1999 := r30
  have r31 : (0 : Int) ≤ ρ 31 ∧ ρ 31 ≤ 1999 := r31
  have r32 : (1 : Int) ≤ ρ 32 ∧ ρ 32 ≤ 2000 := r32
  have r33 : (0 : Int) ≤ ρ 33 ∧ ρ 33 ≤ 8 := r33
  have r34 : ((-1) : Int) ≤ ρ 34 ∧ ρ 34 ≤ 1999 := r34
  have r35 : (0 : Int) ≤ ρ 35 ∧ ρ 35 ≤ 1999 := r35
  have r36 : (0 : Int) ≤ ρ 36 ∧ ρ 36 ≤ 3 := r36
  obtain ⟨f0, f1, f2, f3, f4, f5, f6, f7, f8, f9, -⟩ := hf
  have f0 : (0 : Int) ≤ -ρ 7 + ρ 2 + (-1) := f0
  have f1 : (0 : Int) ≤ ρ 32 + -ρ 19 := f1
  have f2 : (0 : Int) ≤ ρ 34 + -ρ 30 := f2
  have f3 : (0 : Int) ≤ ρ 18 + -ρ 15 + (-1) := f3
  have f4 : (0 : Int) ≤ ρ 17 + -ρ 16 + 50000 := f4
  have f5 : (0 : Int) ≤ ρ 1 + -ρ 0 + (-1) := f5
  have f6 : (0 : Int) ≤ ρ 19 + -ρ 9 := f6
  have f7 : (0 : Int) ≤ ρ 18 + -ρ 15 := f7
  have f8 : (0 : Int) ≤ ρ 17 + -ρ 5 := f8
  have f9 : (0 : Int) ≤ ρ 16 + -ρ 4 := f9
  obtain ⟨m0, m1, m2, m3, m4, m5, m6, m7, m8, m9, m10, m11, m12, m13, m14, m15, m16, m17, m18, m19, m20, m21, m22, m23, m24, m25, m26, m27, m28, m29, m30, m31, m32, m33, m34, m35, -⟩ := hm
  have m0 : γ 0 15 0 32 = ρ 1 := m0
  have m1 : γ 0 15 0 13 = ρ 2 := m1
  have m2 : γ 0 71 0 (ρ 0) = ρ 3 := m2
  have m3 : γ 0 15 0 72 = ρ 4 := m3
  have m4 : γ 0 15 0 77 = ρ 5 := m4
  have m5 : γ 0 15 0 90 = ρ 6 := m5
  have m6 : γ 0 69 0 (ρ 0) = ρ 7 := m6
  have m7 : γ 0 15 0 44 = ρ 8 := m7
  have m8 : γ 0 15 0 71 = ρ 9 := m8
  have m9 : γ 0 15 0 76 = ρ 10 := m9
  have m10 : γ 0 15 0 81 = ρ 11 := m10
  have m11 : γ 0 15 0 82 = ρ 12 := m11
  have m12 : γ 0 15 0 83 = ρ 13 := m12
  have m13 : γ 0 15 0 94 = ρ 14 := m13
  have m14 : γ 1 15 0 72 = ρ 16 := m14
  have m15 : γ 1 15 0 77 = ρ 17 := m15
  have m16 : γ 1 15 0 90 = ρ 18 := m16
  have m17 : γ 1 15 0 71 = ρ 19 := m17
  have m18 : γ 1 15 0 81 = ρ 9 := m18
  have m19 : γ 1 106 0 (ρ 15) = ρ 20 := m19
  have m20 : γ 0 66 0 (ρ 7) = ρ 21 := m20
  have m21 : γ 0 70 0 (4 * ρ 0) = ρ 22 := m21
  have m22 : γ 1 105 0 (4 * ρ 15) = ρ 23 := m22
  have m23 : γ 0 70 0 (4 * ρ 0 + 1) = ρ 24 := m23
  have m24 : γ 1 105 0 (4 * ρ 15 + 1) = ρ 25 := m24
  have m25 : γ 0 70 0 (4 * ρ 0 + 2) = ρ 26 := m25
  have m26 : γ 0 70 0 (4 * ρ 0 + 3) = ρ 27 := m26
  have m27 : γ 1 105 0 (4 * ρ 15 + 3) = ρ 28 := m27
  have m28 : γ 1 97 0 (ρ 19) = ρ 29 := m28
  have m29 : γ 1 100 0 (ρ 7) = ρ 30 := m29
  have m30 : γ 1 101 0 (ρ 7) = ρ 31 := m30
  have m31 : γ 6 15 0 71 = ρ 32 := m31
  have m32 : γ 6 97 0 (ρ 19) = ρ 33 := m32
  have m33 : γ 6 100 0 (ρ 7) = ρ 34 := m33
  have m34 : γ 6 101 0 (ρ 7) = ρ 35 := m34
  have m35 : γ 6 15 0 77 = ρ 36 := m35
  obtain ⟨⟨⟨⟨⟨⟨-, c1⟩, c2⟩, c3⟩, c4⟩, c5⟩, c6⟩ := hc
  have c1 : ∀ (G : Nat) (k j : Int), ¬ rMdP m51_ G j → γ 1 G k j = γ 0 G k j := c1
  have c2 : γ 2 = rUp (γ 1) 102 0 0 (ρ 23) := c2
  have c3 : γ 3 = rUp (γ 2) 102 0 1 (ρ 25) := c3
  have c4 : γ 4 = rUp (γ 3) 102 0 2 (ρ 20) := c4
  have c5 : γ 5 = rUp (γ 4) 102 0 3 (ρ 28) := c5
  have c6 : ∀ (G : Nat) (k j : Int), ¬ rMdP m40_ G j → γ 6 G k j = γ 5 G k j := c6
  obtain ⟨l0, -⟩ := hl
  have l0 : sn57 [ρ 7, ρ 0, ρ 2, ρ 19, ρ 29, ρ 30, ρ 31, ρ 10, ρ 17] (γ 5) 0 0 (γ 6) := hS57 _ _ _ _ _ l0
  show jn75 [ρ 0, ρ 1, ρ 2, ρ 3, ρ 4, ρ 5, ρ 6, ρ 7, ρ 8, ρ 9, ρ 10, ρ 11, ρ 12, ρ 13, ρ 14] (γ 0) 0 [ρ 0, ρ 1, ρ 2, ρ 3, ρ 4, ρ 5, ρ 6, ρ 7, ρ 8, ρ 9, ρ 10, ρ 11, ρ 12, ρ 13, ρ 14, ρ 15 + 1, ρ 16, ρ 36, ρ 18, ρ 32] (γ 6)
  have hD : en75 (γ 0) (0, [ρ 0, ρ 15], γ 1) = .inl (0, [ρ 0, ρ 15 + 1], γ 6) := by
    unfold en75
    refine (if_pos (show (0 : Nat) = 0 by decide)).trans ?_
    refine (zLet_eq (show _ = γ 1 from rfl)).trans ?_
    refine (zLet_eq (show _ = ρ 0 from rfl)).trans ?_
    refine (zLet_eq (show _ = ρ 15 from rfl)).trans ?_
    refine (zLet_eq m2).trans ?_
    refine (zLet_eq m6).trans ?_
    refine (zLet_eq m15).trans ?_
    refine (zLet_eq m16).trans ?_
    refine (if_neg (show ¬ (ρ 15 ≥ ρ 18) by omega)).trans ?_
    refine (if_neg (show ¬ (ρ 17 ≠ 0) by omega)).trans ?_
    refine (if_pos (show ρ 3 ≤ 2 by omega)).trans ?_
    refine (if_neg (show ¬ (ρ 3 ≠ 1) by omega)).trans ?_
    refine (zLet_eq m19).trans ?_
    refine (zLet_eq m20).trans ?_
    refine (if_neg (show ¬ (0 ≥ ρ 21) by omega)).trans ?_
    refine (zLet_eq m21).trans ?_
    refine (if_pos (show ρ 22 ≠ 3 by omega)).trans ?_
    refine (zLet_eq m22).trans ?_
    refine (zLet_eq c2.symm).trans ?_
    refine (if_neg (show ¬ (1 ≥ ρ 21) by omega)).trans ?_
    refine (zLet_eq m23).trans ?_
    refine (if_pos (show ρ 24 ≠ 3 by omega)).trans ?_
    refine (zLet_eq m24).trans ?_
    refine (zLet_eq c3.symm).trans ?_
    refine (if_neg (show ¬ (2 ≥ ρ 21) by omega)).trans ?_
    refine (zLet_eq m25).trans ?_
    refine (if_neg (show ¬ (ρ 26 ≠ 3) by omega)).trans ?_
    refine (zLet_eq c4.symm).trans ?_
    refine (if_neg (show ¬ (3 ≥ ρ 21) by omega)).trans ?_
    refine (zLet_eq m26).trans ?_
    refine (if_pos (show ρ 27 ≠ 3 by omega)).trans ?_
    refine (zLet_eq m27).trans ?_
    refine (zLet_eq c5.symm).trans ?_
    refine (zLet_eq (show fn57 [ρ 7, ρ 0] (γ 5) = (0, 0, γ 6) from l0.symm)).trans ?_
    refine (zLet_eq (show _ = γ 6 from rfl)).trans ?_
    rfl
  exact zGoo_ato hJ hD
theorem vn75a0_41 {S : Nat → zSpc} (hS57 : ∀ x g o v gz, S 57 x g o v gz → sn57 x g o v gz) (hS73 : ∀ x g o v gz, S 73 x g o v gz → sn73 x g o v gz) {a : List Int} {g : rHp} : ∀ (ρ : Nat → Int) (γ : Nat → rHp), jn75 a g 0 (zAg (zNA a75_ 0) ρ) (γ 1) → zO 15 S a g q75a0_41 ρ γ → zGl (fun i vs g1 => jn75 a g i vs g1) (sn75 a g) q75a0_41 ρ γ := by
  intro ρ γ hJ h
  obtain ⟨ha, hg, hr, hf, hm, hc, hl⟩ := h
  have ha : a = [ρ 0, ρ 1, ρ 2, ρ 3, ρ 4, ρ 5, ρ 6, ρ 7, ρ 8, ρ 9, ρ 10, ρ 11, ρ 12, ρ 13, ρ 14] := ha
  subst ha
  subst hg
  have hJ : jn75 [ρ 0, ρ 1, ρ 2, ρ 3, ρ 4, ρ 5, ρ 6, ρ 7, ρ 8, ρ 9, ρ 10, ρ 11, ρ 12, ρ 13, ρ 14] (γ 0) 0 [ρ 0, ρ 1, ρ 2, ρ 3, ρ 4, ρ 5, ρ 6, ρ 7, ρ 8, ρ 9, ρ 10, ρ 11, ρ 12, ρ 13, ρ 14, ρ 15, ρ 16, ρ 17, ρ 18, ρ 19] (γ 1) := hJ
  obtain ⟨r0, r1, r2, r3, r4, r5, r6, r7, r8, r9, r10, r11, r12, r13, r14, r15, r16, r17, r18, r19, r20, r21, r22, r23, r24, r25, r26, r27, r28, r29, r30, r31, r32, r33, r34, r35, -⟩ := hr
  have r0 : (0 : Int) ≤ ρ 0 ∧ ρ 0 ≤ 59 := r0
  have r1 : (0 : Int) ≤ ρ 1 ∧ ρ 1 ≤ 60 := r1
  have r2 : (0 : Int) ≤ ρ 2 ∧ ρ 2 ≤ 20 := r2
  have r3 : (1 : Int) ≤ ρ 3 ∧ ρ 3 ≤ 1 := r3
  have r4 : (0 : Int) ≤ ρ 4 ∧ ρ 4 ≤ 50001 := r4
  have r5 : (0 : Int) ≤ ρ 5 ∧ ρ 5 ≤ 3 := r5
  have r6 : (0 : Int) ≤ ρ 6 ∧ ρ 6 ≤ 2000 := r6
  have r7 : (0 : Int) ≤ ρ 7 ∧ ρ 7 ≤ 19 := r7
  have r8 : (0 : Int) ≤ ρ 8 ∧ ρ 8 ≤ 61 := r8
  have r9 : (0 : Int) ≤ ρ 9 ∧ ρ 9 ≤ 2000 := r9
  have r10 : ((-2147483648) : Int) ≤ ρ 10 ∧ ρ 10 ≤ 2147483647 := r10
  have r11 : (0 : Int) ≤ ρ 11 ∧ ρ 11 ≤ 2000 := r11
  have r12 : (0 : Int) ≤ ρ 12 ∧ ρ 12 ≤ 2000 := r12
  have r13 : (0 : Int) ≤ ρ 13 ∧ ρ 13 ≤ 2000 := r13
  have r14 : (0 : Int) ≤ ρ 14 ∧ ρ 14 ≤ 50001 := r14
  have r15 : (0 : Int) ≤ ρ 15 ∧ ρ 15 ≤ 2000 := r15
  have r16 : (0 : Int) ≤ ρ 16 ∧ ρ 16 ≤ 50001 := r16
  have r17 : (0 : Int) ≤ ρ 17 ∧ ρ 17 ≤ 0 := r17
  have r18 : (0 : Int) ≤ ρ 18 ∧ ρ 18 ≤ 2000 := r18
  have r19 : (0 : Int) ≤ ρ 19 ∧ ρ 19 ≤ 2000 := r19
  have r20 : ((-2147483648) : Int) ≤ ρ 20 ∧ ρ 20 ≤ 2147483647 := r20
  have r21 : (4 : Int) ≤ ρ 21 ∧ ρ 21 ≤ 4 := r21
  have r22 : (0 : Int) ≤ ρ 22 ∧ ρ 22 ≤ 2 := r22
  have r23 : ((-2147483648) : Int) ≤ ρ 23 ∧ ρ 23 ≤ 1099511640064 := r23
  have r24 : (0 : Int) ≤ ρ 24 ∧ ρ 24 ≤ 2 := r24
  have r25 : ((-2147483648) : Int) ≤ ρ 25 ∧ ρ 25 ≤ 1099511640064 := r25
  have r26 : (3 : Int) ≤ ρ 26 ∧ ρ 26 ≤ 3 := r26
  have r27 : (3 : Int) ≤ ρ 27 ∧ ρ 27 ≤ 3 := r27
  have r28 : (0 : Int) ≤ ρ 28 ∧ ρ 28 ≤ 8 := r28
  have r29 : ((-1) : Int) ≤ ρ 29 ∧ ρ 29 ≤ 1999 := r29
  have r30 : (0 : Int) ≤ ρ 30 ∧ ρ 30 ≤ 1999 := r30
  have r31 : (1 : Int) ≤ ρ 31 ∧ ρ 31 ≤ 2000 := r31
  have r32 : (0 : Int) ≤ ρ 32 ∧ ρ 32 ≤ 8 := r32
  have r33 : ((-1) : Int) ≤ ρ 33 ∧ ρ 33 ≤ 1999 := r33
  have r34 : (0 : Int) ≤ ρ 34 ∧ ρ 34 ≤ 1999 := r34
  have r35 : (0 : Int) ≤ ρ 35 ∧ ρ 35 ≤ 3 := r35
  obtain ⟨f0, f1, f2, f3, f4, f5, f6, f7, f8, f9, -⟩ := hf
  have f0 : (0 : Int) ≤ -ρ 7 + ρ 2 + (-1) := f0
  have f1 : (0 : Int) ≤ ρ 31 + -ρ 19 := f1
  have f2 : (0 : Int) ≤ ρ 33 + -ρ 29 := f2
  have f3 : (0 : Int) ≤ ρ 18 + -ρ 15 + (-1) := f3
  have f4 : (0 : Int) ≤ ρ 17 + -ρ 16 + 50000 := f4
  have f5 : (0 : Int) ≤ ρ 1 + -ρ 0 + (-1) := f5
  have f6 : (0 : Int) ≤ ρ 19 + -ρ 9 := f6
  have f7 : (0 : Int) ≤ ρ 18 + -ρ 15 := f7
  have f8 : (0 : Int) ≤ ρ 17 + -ρ 5 := f8
  have f9 : (0 : Int) ≤ ρ 16 + -ρ 4 := f9
  obtain ⟨m0, m1, m2, m3, m4, m5, m6, m7, m8, m9, m10, m11, m12, m13, m14, m15, m16, m17, m18, m19, m20, m21, m22, m23, m24, m25, m26, m27, m28, m29, m30, m31, m32, m33, m34, -⟩ := hm
  have m0 : γ 0 15 0 32 = ρ 1 := m0
  have m1 : γ 0 15 0 13 = ρ 2 := m1
  have m2 : γ 0 71 0 (ρ 0) = ρ 3 := m2
  have m3 : γ 0 15 0 72 = ρ 4 := m3
  have m4 : γ 0 15 0 77 = ρ 5 := m4
  have m5 : γ 0 15 0 90 = ρ 6 := m5
  have m6 : γ 0 69 0 (ρ 0) = ρ 7 := m6
  have m7 : γ 0 15 0 44 = ρ 8 := m7
  have m8 : γ 0 15 0 71 = ρ 9 := m8
  have m9 : γ 0 15 0 76 = ρ 10 := m9
  have m10 : γ 0 15 0 81 = ρ 11 := m10
  have m11 : γ 0 15 0 82 = ρ 12 := m11
  have m12 : γ 0 15 0 83 = ρ 13 := m12
  have m13 : γ 0 15 0 94 = ρ 14 := m13
  have m14 : γ 1 15 0 72 = ρ 16 := m14
  have m15 : γ 1 15 0 77 = ρ 17 := m15
  have m16 : γ 1 15 0 90 = ρ 18 := m16
  have m17 : γ 1 15 0 71 = ρ 19 := m17
  have m18 : γ 1 15 0 81 = ρ 9 := m18
  have m19 : γ 1 106 0 (ρ 15) = ρ 20 := m19
  have m20 : γ 0 66 0 (ρ 7) = ρ 21 := m20
  have m21 : γ 0 70 0 (4 * ρ 0) = ρ 22 := m21
  have m22 : γ 1 105 0 (4 * ρ 15) = ρ 23 := m22
  have m23 : γ 0 70 0 (4 * ρ 0 + 1) = ρ 24 := m23
  have m24 : γ 1 105 0 (4 * ρ 15 + 1) = ρ 25 := m24
  have m25 : γ 0 70 0 (4 * ρ 0 + 2) = ρ 26 := m25
  have m26 : γ 0 70 0 (4 * ρ 0 + 3) = ρ 27 := m26
  have m27 : γ 1 97 0 (ρ 19) = ρ 28 := m27
  have m28 : γ 1 100 0 (ρ 7) = ρ 29 := m28
  have m29 : γ 1 101 0 (ρ 7) = ρ 30 := m29
  have m30 : γ 6 15 0 71 = ρ 31 := m30
  have m31 : γ 6 97 0 (ρ 19) = ρ 32 := m31
  have m32 : γ 6 100 0 (ρ 7) = ρ 33 := m32
  have m33 : γ 6 101 0 (ρ 7) = ρ 34 := m33
  have m34 : γ 6 15 0 77 = ρ 35 := m34
  obtain ⟨⟨⟨⟨⟨⟨-, c1⟩, c2⟩, c3⟩, c4⟩, c5⟩, c6⟩ := hc
  have c1 : ∀ (G : Nat) (k j : Int), ¬ rMdP m51_ G j → γ 1 G k j = γ 0 G k j := c1
  have c2 : γ 2 = rUp (γ 1) 102 0 0 (ρ 23) := c2
  have c3 : γ 3 = rUp (γ 2) 102 0 1 (ρ 25) := c3
  have c4 : γ 4 = rUp (γ 3) 102 0 2 (ρ 20) := c4
  have c5 : γ 5 = rUp (γ 4) 102 0 3 (ρ 20) := c5
  have c6 : ∀ (G : Nat) (k j : Int), ¬ rMdP m40_ G j → γ 6 G k j = γ 5 G k j := c6
  obtain ⟨l0, -⟩ := hl
  have l0 : sn57 [ρ 7, ρ 0, ρ 2, ρ 19, ρ 28, ρ 29, ρ 30, ρ 10, ρ 17] (γ 5) 0 0 (γ 6) := hS57 _ _ _ _ _ l0
  show jn75 [ρ 0, ρ 1, ρ 2, ρ 3, ρ 4, ρ 5, ρ 6, ρ 7, ρ 8, ρ 9, ρ 10, ρ 11, ρ 12, ρ 13, ρ 14] (γ 0) 0 [ρ 0, ρ 1, ρ 2, ρ 3, ρ 4, ρ 5, ρ 6, ρ 7, ρ 8, ρ 9, ρ 10, ρ 11, ρ 12, ρ 13, ρ 14, ρ 15 + 1, ρ 16, ρ 35, ρ 18, ρ 31] (γ 6)
  have hD : en75 (γ 0) (0, [ρ 0, ρ 15], γ 1) = .inl (0, [ρ 0, ρ 15 + 1], γ 6) := by
    unfold en75
    refine (if_pos (show (0 : Nat) = 0 by decide)).trans ?_
    refine (zLet_eq (show _ = γ 1 from rfl)).trans ?_
    refine (zLet_eq (show _ = ρ 0 from rfl)).trans ?_
    refine (zLet_eq (show _ = ρ 15 from rfl)).trans ?_
    refine (zLet_eq m2).trans ?_
    refine (zLet_eq m6).trans ?_
    refine (zLet_eq m15).trans ?_
    refine (zLet_eq m16).trans ?_
    refine (if_neg (show ¬ (ρ 15 ≥ ρ 18) by omega)).trans ?_
    refine (if_neg (show ¬ (ρ 17 ≠ 0) by omega)).trans ?_
    refine (if_pos (show ρ 3 ≤ 2 by omega)).trans ?_
    refine (if_neg (show ¬ (ρ 3 ≠ 1) by omega)).trans ?_
    refine (zLet_eq m19).trans ?_
    refine (zLet_eq m20).trans ?_
    refine (if_neg (show ¬ (0 ≥ ρ 21) by omega)).trans ?_
    refine (zLet_eq m21).trans ?_
    refine (if_pos (show ρ 22 ≠ 3 by omega)).trans ?_
    refine (zLet_eq m22).trans ?_
    refine (zLet_eq c2.symm).trans ?_
    refine (if_neg (show ¬ (1 ≥ ρ 21) by omega)).trans ?_
    refine (zLet_eq m23).trans ?_
    refine (if_pos (show ρ 24 ≠ 3 by omega)).trans ?_
    refine (zLet_eq m24).trans ?_
    refine (zLet_eq c3.symm).trans ?_
    refine (if_neg (show ¬ (2 ≥ ρ 21) by omega)).trans ?_
    refine (zLet_eq m25).trans ?_
    refine (if_neg (show ¬ (ρ 26 ≠ 3) by omega)).trans ?_
    refine (zLet_eq c4.symm).trans ?_
    refine (if_neg (show ¬ (3 ≥ ρ 21) by omega)).trans ?_
    refine (zLet_eq m26).trans ?_
    refine (if_neg (show ¬ (ρ 27 ≠ 3) by omega)).trans ?_
    refine (zLet_eq c5.symm).trans ?_
    refine (zLet_eq (show fn57 [ρ 7, ρ 0] (γ 5) = (0, 0, γ 6) from l0.symm)).trans ?_
    refine (zLet_eq (show _ = γ 6 from rfl)).trans ?_
    rfl
  exact zGoo_ato hJ hD
theorem vn75a0_42 {S : Nat → zSpc} (hS57 : ∀ x g o v gz, S 57 x g o v gz → sn57 x g o v gz) (hS73 : ∀ x g o v gz, S 73 x g o v gz → sn73 x g o v gz) {a : List Int} {g : rHp} : ∀ (ρ : Nat → Int) (γ : Nat → rHp), jn75 a g 0 (zAg (zNA a75_ 0) ρ) (γ 1) → zO 15 S a g q75a0_42 ρ γ → zGl (fun i vs g1 => jn75 a g i vs g1) (sn75 a g) q75a0_42 ρ γ := by
  intro ρ γ hJ h
  obtain ⟨ha, hg, hr, hf, hm, hc, hl⟩ := h
  have ha : a = [ρ 0, ρ 1, ρ 2, ρ 3, ρ 4, ρ 5, ρ 6, ρ 7, ρ 8, ρ 9, ρ 10, ρ 11, ρ 12, ρ 13, ρ 14] := ha
  subst ha
  subst hg
  have hJ : jn75 [ρ 0, ρ 1, ρ 2, ρ 3, ρ 4, ρ 5, ρ 6, ρ 7, ρ 8, ρ 9, ρ 10, ρ 11, ρ 12, ρ 13, ρ 14] (γ 0) 0 [ρ 0, ρ 1, ρ 2, ρ 3, ρ 4, ρ 5, ρ 6, ρ 7, ρ 8, ρ 9, ρ 10, ρ 11, ρ 12, ρ 13, ρ 14, ρ 15, ρ 16, ρ 17, ρ 18, ρ 19] (γ 1) := hJ
  obtain ⟨r0, r1, r2, r3, r4, r5, r6, r7, r8, r9, r10, r11, r12, r13, r14, r15, r16, r17, r18, r19, r20, r21, r22, r23, r24, r25, r26, r27, r28, r29, r30, r31, r32, r33, r34, -⟩ := hr
  have r0 : (0 : Int) ≤ ρ 0 ∧ ρ 0 ≤ 59 := r0
  have r1 : (0 : Int) ≤ ρ 1 ∧ ρ 1 ≤ 60 := r1
  have r2 : (0 : Int) ≤ ρ 2 ∧ ρ 2 ≤ 20 := r2
  have r3 : (1 : Int) ≤ ρ 3 ∧ ρ 3 ≤ 1 := r3
  have r4 : (0 : Int) ≤ ρ 4 ∧ ρ 4 ≤ 50001 := r4
  have r5 : (0 : Int) ≤ ρ 5 ∧ ρ 5 ≤ 3 := r5
  have r6 : (0 : Int) ≤ ρ 6 ∧ ρ 6 ≤ 2000 := r6
  have r7 : (0 : Int) ≤ ρ 7 ∧ ρ 7 ≤ 19 := r7
  have r8 : (0 : Int) ≤ ρ 8 ∧ ρ 8 ≤ 61 := r8
  have r9 : (0 : Int) ≤ ρ 9 ∧ ρ 9 ≤ 2000 := r9
  have r10 : ((-2147483648) : Int) ≤ ρ 10 ∧ ρ 10 ≤ 2147483647 := r10
  have r11 : (0 : Int) ≤ ρ 11 ∧ ρ 11 ≤ 2000 := r11
  have r12 : (0 : Int) ≤ ρ 12 ∧ ρ 12 ≤ 2000 := r12
  have r13 : (0 : Int) ≤ ρ 13 ∧ ρ 13 ≤ 2000 := r13
  have r14 : (0 : Int) ≤ ρ 14 ∧ ρ 14 ≤ 50001 := r14
  have r15 : (0 : Int) ≤ ρ 15 ∧ ρ 15 ≤ 2000 := r15
  have r16 : (0 : Int) ≤ ρ 16 ∧ ρ 16 ≤ 50001 := r16
  have r17 : (0 : Int) ≤ ρ 17 ∧ ρ 17 ≤ 0 := r17
  have r18 : (0 : Int) ≤ ρ 18 ∧ ρ 18 ≤ 2000 := r18
  have r19 : (0 : Int) ≤ ρ 19 ∧ ρ 19 ≤ 2000 := r19
  have r20 : ((-2147483648) : Int) ≤ ρ 20 ∧ ρ 20 ≤ 2147483647 := r20
  have r21 : (2 : Int) ≤ ρ 21 ∧ ρ 21 ≤ 2 := r21
  have r22 : (0 : Int) ≤ ρ 22 ∧ ρ 22 ≤ 2 := r22
  have r23 : ((-2147483648) : Int) ≤ ρ 23 ∧ ρ 23 ≤ 1099511640064 := r23
  have r24 : (3 : Int) ≤ ρ 24 ∧ ρ 24 ≤ 3 := r24
  have r25 : ((-2147483648) : Int) ≤ ρ 25 ∧ ρ 25 ≤ 1099511640064 := r25
  have r26 : ((-2147483648) : Int) ≤ ρ 26 ∧ ρ 26 ≤ 1099511640064 := r26
  have r27 : (0 : Int) ≤ ρ 27 ∧ ρ 27 ≤ 8 := r27
  have r28 : ((-1) : Int) ≤ ρ 28 ∧ ρ 28 ≤ 1999 := r28
  have r29 : (0 : Int) ≤ ρ 29 ∧ ρ 29 ≤ 1999 := r29
  have r30 : (1 : Int) ≤ ρ 30 ∧ ρ 30 ≤ 2000 := r30
  have r31 : (0 : Int) ≤ ρ 31 ∧ ρ 31 ≤ 8 := r31
  have r32 : ((-1) : Int) ≤ ρ 32 ∧ ρ 32 ≤ 1999 := r32
  have r33 : (0 : Int) ≤ ρ 33 ∧ ρ 33 ≤ 1999 := r33
  have r34 : (0 : Int) ≤ ρ 34 ∧ ρ 34 ≤ 3 := r34
  obtain ⟨f0, f1, f2, f3, f4, f5, f6, f7, f8, f9, -⟩ := hf
  have f0 : (0 : Int) ≤ -ρ 7 + ρ 2 + (-1) := f0
  have f1 : (0 : Int) ≤ ρ 30 + -ρ 19 := f1
  have f2 : (0 : Int) ≤ ρ 32 + -ρ 28 := f2
  have f3 : (0 : Int) ≤ ρ 18 + -ρ 15 + (-1) := f3
  have f4 : (0 : Int) ≤ ρ 17 + -ρ 16 + 50000 := f4
  have f5 : (0 : Int) ≤ ρ 1 + -ρ 0 + (-1) := f5
  have f6 : (0 : Int) ≤ ρ 19 + -ρ 9 := f6
  have f7 : (0 : Int) ≤ ρ 18 + -ρ 15 := f7
  have f8 : (0 : Int) ≤ ρ 17 + -ρ 5 := f8
  have f9 : (0 : Int) ≤ ρ 16 + -ρ 4 := f9
  obtain ⟨m0, m1, m2, m3, m4, m5, m6, m7, m8, m9, m10, m11, m12, m13, m14, m15, m16, m17, m18, m19, m20, m21, m22, m23, m24, m25, m26, m27, m28, m29, m30, m31, m32, m33, -⟩ := hm
  have m0 : γ 0 15 0 32 = ρ 1 := m0
  have m1 : γ 0 15 0 13 = ρ 2 := m1
  have m2 : γ 0 71 0 (ρ 0) = ρ 3 := m2
  have m3 : γ 0 15 0 72 = ρ 4 := m3
  have m4 : γ 0 15 0 77 = ρ 5 := m4
  have m5 : γ 0 15 0 90 = ρ 6 := m5
  have m6 : γ 0 69 0 (ρ 0) = ρ 7 := m6
  have m7 : γ 0 15 0 44 = ρ 8 := m7
  have m8 : γ 0 15 0 71 = ρ 9 := m8
  have m9 : γ 0 15 0 76 = ρ 10 := m9
  have m10 : γ 0 15 0 81 = ρ 11 := m10
  have m11 : γ 0 15 0 82 = ρ 12 := m11
  have m12 : γ 0 15 0 83 = ρ 13 := m12
  have m13 : γ 0 15 0 94 = ρ 14 := m13
  have m14 : γ 1 15 0 72 = ρ 16 := m14
  have m15 : γ 1 15 0 77 = ρ 17 := m15
  have m16 : γ 1 15 0 90 = ρ 18 := m16
  have m17 : γ 1 15 0 71 = ρ 19 := m17
  have m18 : γ 1 15 0 81 = ρ 9 := m18
  have m19 : γ 1 106 0 (ρ 15) = ρ 20 := m19
  have m20 : γ 0 66 0 (ρ 7) = ρ 21 := m20
  have m21 : γ 0 70 0 (4 * ρ 0) = ρ 22 := m21
  have m22 : γ 1 105 0 (4 * ρ 15) = ρ 23 := m22
  have m23 : γ 0 70 0 (4 * ρ 0 + 1) = ρ 24 := m23
  have m24 : γ 1 105 0 (4 * ρ 15 + 2) = ρ 25 := m24
  have m25 : γ 1 105 0 (4 * ρ 15 + 3) = ρ 26 := m25
  have m26 : γ 1 97 0 (ρ 19) = ρ 27 := m26
  have m27 : γ 1 100 0 (ρ 7) = ρ 28 := m27
  have m28 : γ 1 101 0 (ρ 7) = ρ 29 := m28
  have m29 : γ 6 15 0 71 = ρ 30 := m29
  have m30 : γ 6 97 0 (ρ 19) = ρ 31 := m30
  have m31 : γ 6 100 0 (ρ 7) = ρ 32 := m31
  have m32 : γ 6 101 0 (ρ 7) = ρ 33 := m32
  have m33 : γ 6 15 0 77 = ρ 34 := m33
  obtain ⟨⟨⟨⟨⟨⟨-, c1⟩, c2⟩, c3⟩, c4⟩, c5⟩, c6⟩ := hc
  have c1 : ∀ (G : Nat) (k j : Int), ¬ rMdP m51_ G j → γ 1 G k j = γ 0 G k j := c1
  have c2 : γ 2 = rUp (γ 1) 102 0 0 (ρ 23) := c2
  have c3 : γ 3 = rUp (γ 2) 102 0 1 (ρ 20) := c3
  have c4 : γ 4 = rUp (γ 3) 102 0 2 (ρ 25) := c4
  have c5 : γ 5 = rUp (γ 4) 102 0 3 (ρ 26) := c5
  have c6 : ∀ (G : Nat) (k j : Int), ¬ rMdP m40_ G j → γ 6 G k j = γ 5 G k j := c6
  obtain ⟨l0, -⟩ := hl
  have l0 : sn57 [ρ 7, ρ 0, ρ 2, ρ 19, ρ 27, ρ 28, ρ 29, ρ 10, ρ 17] (γ 5) 0 0 (γ 6) := hS57 _ _ _ _ _ l0
  show jn75 [ρ 0, ρ 1, ρ 2, ρ 3, ρ 4, ρ 5, ρ 6, ρ 7, ρ 8, ρ 9, ρ 10, ρ 11, ρ 12, ρ 13, ρ 14] (γ 0) 0 [ρ 0, ρ 1, ρ 2, ρ 3, ρ 4, ρ 5, ρ 6, ρ 7, ρ 8, ρ 9, ρ 10, ρ 11, ρ 12, ρ 13, ρ 14, ρ 15 + 1, ρ 16, ρ 34, ρ 18, ρ 30] (γ 6)
  have hD : en75 (γ 0) (0, [ρ 0, ρ 15], γ 1) = .inl (0, [ρ 0, ρ 15 + 1], γ 6) := by
    unfold en75
    refine (if_pos (show (0 : Nat) = 0 by decide)).trans ?_
    refine (zLet_eq (show _ = γ 1 from rfl)).trans ?_
    refine (zLet_eq (show _ = ρ 0 from rfl)).trans ?_
    refine (zLet_eq (show _ = ρ 15 from rfl)).trans ?_
    refine (zLet_eq m2).trans ?_
    refine (zLet_eq m6).trans ?_
    refine (zLet_eq m15).trans ?_
    refine (zLet_eq m16).trans ?_
    refine (if_neg (show ¬ (ρ 15 ≥ ρ 18) by omega)).trans ?_
    refine (if_neg (show ¬ (ρ 17 ≠ 0) by omega)).trans ?_
    refine (if_pos (show ρ 3 ≤ 2 by omega)).trans ?_
    refine (if_neg (show ¬ (ρ 3 ≠ 1) by omega)).trans ?_
    refine (zLet_eq m19).trans ?_
    refine (zLet_eq m20).trans ?_
    refine (if_neg (show ¬ (0 ≥ ρ 21) by omega)).trans ?_
    refine (zLet_eq m21).trans ?_
    refine (if_pos (show ρ 22 ≠ 3 by omega)).trans ?_
    refine (zLet_eq m22).trans ?_
    refine (zLet_eq c2.symm).trans ?_
    refine (if_neg (show ¬ (1 ≥ ρ 21) by omega)).trans ?_
    refine (zLet_eq m23).trans ?_
    refine (if_neg (show ¬ (ρ 24 ≠ 3) by omega)).trans ?_
    refine (zLet_eq c3.symm).trans ?_
    refine (if_pos (show 2 ≥ ρ 21 by omega)).trans ?_
    refine (zLet_eq m24).trans ?_
    refine (zLet_eq c4.symm).trans ?_
    refine (zLet_eq m25).trans ?_
    refine (zLet_eq c5.symm).trans ?_
    refine (zLet_eq (show fn57 [ρ 7, ρ 0] (γ 5) = (0, 0, γ 6) from l0.symm)).trans ?_
    refine (zLet_eq (show _ = γ 6 from rfl)).trans ?_
    rfl
  exact zGoo_ato hJ hD
theorem vn75a0_43 {S : Nat → zSpc} (hS57 : ∀ x g o v gz, S 57 x g o v gz → sn57 x g o v gz) (hS73 : ∀ x g o v gz, S 73 x g o v gz → sn73 x g o v gz) {a : List Int} {g : rHp} : ∀ (ρ : Nat → Int) (γ : Nat → rHp), jn75 a g 0 (zAg (zNA a75_ 0) ρ) (γ 1) → zO 15 S a g q75a0_43 ρ γ → zGl (fun i vs g1 => jn75 a g i vs g1) (sn75 a g) q75a0_43 ρ γ := by
  intro ρ γ hJ h
  obtain ⟨ha, hg, hr, hf, hm, hc, hl⟩ := h
  have ha : a = [ρ 0, ρ 1, ρ 2, ρ 3, ρ 4, ρ 5, ρ 6, ρ 7, ρ 8, ρ 9, ρ 10, ρ 11, ρ 12, ρ 13, ρ 14] := ha
  subst ha
  subst hg
  have hJ : jn75 [ρ 0, ρ 1, ρ 2, ρ 3, ρ 4, ρ 5, ρ 6, ρ 7, ρ 8, ρ 9, ρ 10, ρ 11, ρ 12, ρ 13, ρ 14] (γ 0) 0 [ρ 0, ρ 1, ρ 2, ρ 3, ρ 4, ρ 5, ρ 6, ρ 7, ρ 8, ρ 9, ρ 10, ρ 11, ρ 12, ρ 13, ρ 14, ρ 15, ρ 16, ρ 17, ρ 18, ρ 19] (γ 1) := hJ
  obtain ⟨r0, r1, r2, r3, r4, r5, r6, r7, r8, r9, r10, r11, r12, r13, r14, r15, r16, r17, r18, r19, r20, r21, r22, r23, r24, r25, r26, r27, r28, r29, r30, r31, r32, r33, r34, r35, -⟩ := hr
  have r0 : (0 : Int) ≤ ρ 0 ∧ ρ 0 ≤ 59 := r0
  have r1 : (0 : Int) ≤ ρ 1 ∧ ρ 1 ≤ 60 := r1
  have r2 : (0 : Int) ≤ ρ 2 ∧ ρ 2 ≤ 20 := r2
  have r3 : (1 : Int) ≤ ρ 3 ∧ ρ 3 ≤ 1 := r3
  have r4 : (0 : Int) ≤ ρ 4 ∧ ρ 4 ≤ 50001 := r4
  have r5 : (0 : Int) ≤ ρ 5 ∧ ρ 5 ≤ 3 := r5
  have r6 : (0 : Int) ≤ ρ 6 ∧ ρ 6 ≤ 2000 := r6
  have r7 : (0 : Int) ≤ ρ 7 ∧ ρ 7 ≤ 19 := r7
  have r8 : (0 : Int) ≤ ρ 8 ∧ ρ 8 ≤ 61 := r8
  have r9 : (0 : Int) ≤ ρ 9 ∧ ρ 9 ≤ 2000 := r9
  have r10 : ((-2147483648) : Int) ≤ ρ 10 ∧ ρ 10 ≤ 2147483647 := r10
  have r11 : (0 : Int) ≤ ρ 11 ∧ ρ 11 ≤ 2000 := r11
  have r12 : (0 : Int) ≤ ρ 12 ∧ ρ 12 ≤ 2000 := r12
  have r13 : (0 : Int) ≤ ρ 13 ∧ ρ 13 ≤ 2000 := r13
  have r14 : (0 : Int) ≤ ρ 14 ∧ ρ 14 ≤ 50001 := r14
  have r15 : (0 : Int) ≤ ρ 15 ∧ ρ 15 ≤ 2000 := r15
  have r16 : (0 : Int) ≤ ρ 16 ∧ ρ 16 ≤ 50001 := r16
  have r17 : (0 : Int) ≤ ρ 17 ∧ ρ 17 ≤ 0 := r17
  have r18 : (0 : Int) ≤ ρ 18 ∧ ρ 18 ≤ 2000 := r18
  have r19 : (0 : Int) ≤ ρ 19 ∧ ρ 19 ≤ 2000 := r19
  have r20 : ((-2147483648) : Int) ≤ ρ 20 ∧ ρ 20 ≤ 2147483647 := r20
  have r21 : (3 : Int) ≤ ρ 21 ∧ ρ 21 ≤ 3 := r21
  have r22 : (0 : Int) ≤ ρ 22 ∧ ρ 22 ≤ 2 := r22
  have r23 : ((-2147483648) : Int) ≤ ρ 23 ∧ ρ 23 ≤ 1099511640064 := r23
  have r24 : (3 : Int) ≤ ρ 24 ∧ ρ 24 ≤ 3 := r24
  have r25 : (0 : Int) ≤ ρ 25 ∧ ρ 25 ≤ 2 := r25
  have r26 : ((-2147483648) : Int) ≤ ρ 26 ∧ ρ 26 ≤ 1099511640064 := r26
  have r27 : ((-2147483648) : Int) ≤ ρ 27 ∧ ρ 27 ≤ 1099511640064 := r27
  have r28 : (0 : Int) ≤ ρ 28 ∧ ρ 28 ≤ 8 := r28
  have r29 : ((-1) : Int) ≤ ρ 29 ∧ ρ 29 ≤ 1999 := r29
  have r30 : (0 : Int) ≤ ρ 30 ∧ ρ 30 ≤ 1999 := r30
  have r31 : (1 : Int) ≤ ρ 31 ∧ ρ 31 ≤ 2000 := r31
  have r32 : (0 : Int) ≤ ρ 32 ∧ ρ 32 ≤ 8 := r32
  have r33 : ((-1) : Int) ≤ ρ 33 ∧ ρ 33 ≤ 1999 := r33
  have r34 : (0 : Int) ≤ ρ 34 ∧ ρ 34 ≤ 1999 := r34
  have r35 : (0 : Int) ≤ ρ 35 ∧ ρ 35 ≤ 3 := r35
  obtain ⟨f0, f1, f2, f3, f4, f5, f6, f7, f8, f9, -⟩ := hf
  have f0 : (0 : Int) ≤ -ρ 7 + ρ 2 + (-1) := f0
  have f1 : (0 : Int) ≤ ρ 31 + -ρ 19 := f1
  have f2 : (0 : Int) ≤ ρ 33 + -ρ 29 := f2
  have f3 : (0 : Int) ≤ ρ 18 + -ρ 15 + (-1) := f3
  have f4 : (0 : Int) ≤ ρ 17 + -ρ 16 + 50000 := f4
  have f5 : (0 : Int) ≤ ρ 1 + -ρ 0 + (-1) := f5
  have f6 : (0 : Int) ≤ ρ 19 + -ρ 9 := f6
  have f7 : (0 : Int) ≤ ρ 18 + -ρ 15 := f7
  have f8 : (0 : Int) ≤ ρ 17 + -ρ 5 := f8
  have f9 : (0 : Int) ≤ ρ 16 + -ρ 4 := f9
  obtain ⟨m0, m1, m2, m3, m4, m5, m6, m7, m8, m9, m10, m11, m12, m13, m14, m15, m16, m17, m18, m19, m20, m21, m22, m23, m24, m25, m26, m27, m28, m29, m30, m31, m32, m33, m34, -⟩ := hm
  have m0 : γ 0 15 0 32 = ρ 1 := m0
  have m1 : γ 0 15 0 13 = ρ 2 := m1
  have m2 : γ 0 71 0 (ρ 0) = ρ 3 := m2
  have m3 : γ 0 15 0 72 = ρ 4 := m3
  have m4 : γ 0 15 0 77 = ρ 5 := m4
  have m5 : γ 0 15 0 90 = ρ 6 := m5
  have m6 : γ 0 69 0 (ρ 0) = ρ 7 := m6
  have m7 : γ 0 15 0 44 = ρ 8 := m7
  have m8 : γ 0 15 0 71 = ρ 9 := m8
  have m9 : γ 0 15 0 76 = ρ 10 := m9
  have m10 : γ 0 15 0 81 = ρ 11 := m10
  have m11 : γ 0 15 0 82 = ρ 12 := m11
  have m12 : γ 0 15 0 83 = ρ 13 := m12
  have m13 : γ 0 15 0 94 = ρ 14 := m13
  have m14 : γ 1 15 0 72 = ρ 16 := m14
  have m15 : γ 1 15 0 77 = ρ 17 := m15
  have m16 : γ 1 15 0 90 = ρ 18 := m16
  have m17 : γ 1 15 0 71 = ρ 19 := m17
  have m18 : γ 1 15 0 81 = ρ 9 := m18
  have m19 : γ 1 106 0 (ρ 15) = ρ 20 := m19
  have m20 : γ 0 66 0 (ρ 7) = ρ 21 := m20
  have m21 : γ 0 70 0 (4 * ρ 0) = ρ 22 := m21
  have m22 : γ 1 105 0 (4 * ρ 15) = ρ 23 := m22
  have m23 : γ 0 70 0 (4 * ρ 0 + 1) = ρ 24 := m23
  have m24 : γ 0 70 0 (4 * ρ 0 + 2) = ρ 25 := m24
  have m25 : γ 1 105 0 (4 * ρ 15 + 2) = ρ 26 := m25
  have m26 : γ 1 105 0 (4 * ρ 15 + 3) = ρ 27 := m26
  have m27 : γ 1 97 0 (ρ 19) = ρ 28 := m27
  have m28 : γ 1 100 0 (ρ 7) = ρ 29 := m28
  have m29 : γ 1 101 0 (ρ 7) = ρ 30 := m29
  have m30 : γ 6 15 0 71 = ρ 31 := m30
  have m31 : γ 6 97 0 (ρ 19) = ρ 32 := m31
  have m32 : γ 6 100 0 (ρ 7) = ρ 33 := m32
  have m33 : γ 6 101 0 (ρ 7) = ρ 34 := m33
  have m34 : γ 6 15 0 77 = ρ 35 := m34
  obtain ⟨⟨⟨⟨⟨⟨-, c1⟩, c2⟩, c3⟩, c4⟩, c5⟩, c6⟩ := hc
  have c1 : ∀ (G : Nat) (k j : Int), ¬ rMdP m51_ G j → γ 1 G k j = γ 0 G k j := c1
  have c2 : γ 2 = rUp (γ 1) 102 0 0 (ρ 23) := c2
  have c3 : γ 3 = rUp (γ 2) 102 0 1 (ρ 20) := c3
  have c4 : γ 4 = rUp (γ 3) 102 0 2 (ρ 26) := c4
  have c5 : γ 5 = rUp (γ 4) 102 0 3 (ρ 27) := c5
  have c6 : ∀ (G : Nat) (k j : Int), ¬ rMdP m40_ G j → γ 6 G k j = γ 5 G k j := c6
  obtain ⟨l0, -⟩ := hl
  have l0 : sn57 [ρ 7, ρ 0, ρ 2, ρ 19, ρ 28, ρ 29, ρ 30, ρ 10, ρ 17] (γ 5) 0 0 (γ 6) := hS57 _ _ _ _ _ l0
  show jn75 [ρ 0, ρ 1, ρ 2, ρ 3, ρ 4, ρ 5, ρ 6, ρ 7, ρ 8, ρ 9, ρ 10, ρ 11, ρ 12, ρ 13, ρ 14] (γ 0) 0 [ρ 0, ρ 1, ρ 2, ρ 3, ρ 4, ρ 5, ρ 6, ρ 7, ρ 8, ρ 9, ρ 10, ρ 11, ρ 12, ρ 13, ρ 14, ρ 15 + 1, ρ 16, ρ 35, ρ 18, ρ 31] (γ 6)
  have hD : en75 (γ 0) (0, [ρ 0, ρ 15], γ 1) = .inl (0, [ρ 0, ρ 15 + 1], γ 6) := by
    unfold en75
    refine (if_pos (show (0 : Nat) = 0 by decide)).trans ?_
    refine (zLet_eq (show _ = γ 1 from rfl)).trans ?_
    refine (zLet_eq (show _ = ρ 0 from rfl)).trans ?_
    refine (zLet_eq (show _ = ρ 15 from rfl)).trans ?_
    refine (zLet_eq m2).trans ?_
    refine (zLet_eq m6).trans ?_
    refine (zLet_eq m15).trans ?_
    refine (zLet_eq m16).trans ?_
    refine (if_neg (show ¬ (ρ 15 ≥ ρ 18) by omega)).trans ?_
    refine (if_neg (show ¬ (ρ 17 ≠ 0) by omega)).trans ?_
    refine (if_pos (show ρ 3 ≤ 2 by omega)).trans ?_
    refine (if_neg (show ¬ (ρ 3 ≠ 1) by omega)).trans ?_
    refine (zLet_eq m19).trans ?_
    refine (zLet_eq m20).trans ?_
    refine (if_neg (show ¬ (0 ≥ ρ 21) by omega)).trans ?_
    refine (zLet_eq m21).trans ?_
    refine (if_pos (show ρ 22 ≠ 3 by omega)).trans ?_
    refine (zLet_eq m22).trans ?_
    refine (zLet_eq c2.symm).trans ?_
    refine (if_neg (show ¬ (1 ≥ ρ 21) by omega)).trans ?_
    refine (zLet_eq m23).trans ?_
    refine (if_neg (show ¬ (ρ 24 ≠ 3) by omega)).trans ?_
    refine (zLet_eq c3.symm).trans ?_
    refine (if_neg (show ¬ (2 ≥ ρ 21) by omega)).trans ?_
    refine (zLet_eq m24).trans ?_
    refine (if_pos (show ρ 25 ≠ 3 by omega)).trans ?_
    refine (zLet_eq m25).trans ?_
    refine (zLet_eq c4.symm).trans ?_
    refine (if_pos (show 3 ≥ ρ 21 by omega)).trans ?_
    refine (zLet_eq m26).trans ?_
    refine (zLet_eq c5.symm).trans ?_
    refine (zLet_eq (show fn57 [ρ 7, ρ 0] (γ 5) = (0, 0, γ 6) from l0.symm)).trans ?_
    refine (zLet_eq (show _ = γ 6 from rfl)).trans ?_
    rfl
  exact zGoo_ato hJ hD
theorem vn75a0_44 {S : Nat → zSpc} (hS57 : ∀ x g o v gz, S 57 x g o v gz → sn57 x g o v gz) (hS73 : ∀ x g o v gz, S 73 x g o v gz → sn73 x g o v gz) {a : List Int} {g : rHp} : ∀ (ρ : Nat → Int) (γ : Nat → rHp), jn75 a g 0 (zAg (zNA a75_ 0) ρ) (γ 1) → zO 15 S a g q75a0_44 ρ γ → zGl (fun i vs g1 => jn75 a g i vs g1) (sn75 a g) q75a0_44 ρ γ := by
  intro ρ γ hJ h
  obtain ⟨ha, hg, hr, hf, hm, hc, hl⟩ := h
  have ha : a = [ρ 0, ρ 1, ρ 2, ρ 3, ρ 4, ρ 5, ρ 6, ρ 7, ρ 8, ρ 9, ρ 10, ρ 11, ρ 12, ρ 13, ρ 14] := ha
  subst ha
  subst hg
  have hJ : jn75 [ρ 0, ρ 1, ρ 2, ρ 3, ρ 4, ρ 5, ρ 6, ρ 7, ρ 8, ρ 9, ρ 10, ρ 11, ρ 12, ρ 13, ρ 14] (γ 0) 0 [ρ 0, ρ 1, ρ 2, ρ 3, ρ 4, ρ 5, ρ 6, ρ 7, ρ 8, ρ 9, ρ 10, ρ 11, ρ 12, ρ 13, ρ 14, ρ 15, ρ 16, ρ 17, ρ 18, ρ 19] (γ 1) := hJ
  obtain ⟨r0, r1, r2, r3, r4, r5, r6, r7, r8, r9, r10, r11, r12, r13, r14, r15, r16, r17, r18, r19, r20, r21, r22, r23, r24, r25, r26, r27, r28, r29, r30, r31, r32, r33, r34, r35, r36, -⟩ := hr
  have r0 : (0 : Int) ≤ ρ 0 ∧ ρ 0 ≤ 59 := r0
  have r1 : (0 : Int) ≤ ρ 1 ∧ ρ 1 ≤ 60 := r1
  have r2 : (0 : Int) ≤ ρ 2 ∧ ρ 2 ≤ 20 := r2
  have r3 : (1 : Int) ≤ ρ 3 ∧ ρ 3 ≤ 1 := r3
  have r4 : (0 : Int) ≤ ρ 4 ∧ ρ 4 ≤ 50001 := r4
  have r5 : (0 : Int) ≤ ρ 5 ∧ ρ 5 ≤ 3 := r5
  have r6 : (0 : Int) ≤ ρ 6 ∧ ρ 6 ≤ 2000 := r6
  have r7 : (0 : Int) ≤ ρ 7 ∧ ρ 7 ≤ 19 := r7
  have r8 : (0 : Int) ≤ ρ 8 ∧ ρ 8 ≤ 61 := r8
  have r9 : (0 : Int) ≤ ρ 9 ∧ ρ 9 ≤ 2000 := r9
  have r10 : ((-2147483648) : Int) ≤ ρ 10 ∧ ρ 10 ≤ 2147483647 := r10
  have r11 : (0 : Int) ≤ ρ 11 ∧ ρ 11 ≤ 2000 := r11
  have r12 : (0 : Int) ≤ ρ 12 ∧ ρ 12 ≤ 2000 := r12
  have r13 : (0 : Int) ≤ ρ 13 ∧ ρ 13 ≤ 2000 := r13
  have r14 : (0 : Int) ≤ ρ 14 ∧ ρ 14 ≤ 50001 := r14
  have r15 : (0 : Int) ≤ ρ 15 ∧ ρ 15 ≤ 2000 := r15
  have r16 : (0 : Int) ≤ ρ 16 ∧ ρ 16 ≤ 50001 := r16
  have r17 : (0 : Int) ≤ ρ 17 ∧ ρ 17 ≤ 0 := r17
  have r18 : (0 : Int) ≤ ρ 18 ∧ ρ 18 ≤ 2000 := r18
  have r19 : (0 : Int) ≤ ρ 19 ∧ ρ 19 ≤ 2000 := r19
  have r20 : ((-2147483648) : Int) ≤ ρ 20 ∧ ρ 20 ≤ 2147483647 := r20
  have r21 : (4 : Int) ≤ ρ 21 ∧ ρ 21 ≤ 4 := r21
  have r22 : (0 : Int) ≤ ρ 22 ∧ ρ 22 ≤ 2 := r22
  have r23 : ((-2147483648) : Int) ≤ ρ 23 ∧ ρ 23 ≤ 1099511640064 := r23
  have r24 : (3 : Int) ≤ ρ 24 ∧ ρ 24 ≤ 3 := r24
  have r25 : (0 : Int) ≤ ρ 25 ∧ ρ 25 ≤ 2 := r25
  have r26 : ((-2147483648) : Int) ≤ ρ 26 ∧ ρ 26 ≤ 1099511640064 := r26
  have r27 : (0 : Int) ≤ ρ 27 ∧ ρ 27 ≤ 2 := r27
  have r28 : ((-2147483648) : Int) ≤ ρ 28 ∧ ρ 28 ≤ 1099511640064 := r28
  have r29 : (0 : Int) ≤ ρ 29 ∧ ρ 29 ≤ 8 := r29
  have r30 : ((-1) : Int) ≤ ρ 30 ∧ ρ 30 ≤ 1999 := r30
  have r31 : (0 : Int) ≤ ρ 31 ∧ ρ 31 ≤ 1999 := r31
  have r32 : (1 : Int) ≤ ρ 32 ∧ ρ 32 ≤ 2000 := r32
  have r33 : (0 : Int) ≤ ρ 33 ∧ ρ 33 ≤ 8 := r33
  have r34 : ((-1) : Int) ≤ ρ 34 ∧ ρ 34 ≤ 1999 := r34
  have r35 : (0 : Int) ≤ ρ 35 ∧ ρ 35 ≤ 1999 := r35
  have r36 : (0 : Int) ≤ ρ 36 ∧ ρ 36 ≤ 3 := r36
  obtain ⟨f0, f1, f2, f3, f4, f5, f6, f7, f8, f9, -⟩ := hf
  have f0 : (0 : Int) ≤ -ρ 7 + ρ 2 + (-1) := f0
  have f1 : (0 : Int) ≤ ρ 32 + -ρ 19 := f1
  have f2 : (0 : Int) ≤ ρ 34 + -ρ 30 := f2
  have f3 : (0 : Int) ≤ ρ 18 + -ρ 15 + (-1) := f3
  have f4 : (0 : Int) ≤ ρ 17 + -ρ 16 + 50000 := f4
  have f5 : (0 : Int) ≤ ρ 1 + -ρ 0 + (-1) := f5
  have f6 : (0 : Int) ≤ ρ 19 + -ρ 9 := f6
  have f7 : (0 : Int) ≤ ρ 18 + -ρ 15 := f7
  have f8 : (0 : Int) ≤ ρ 17 + -ρ 5 := f8
  have f9 : (0 : Int) ≤ ρ 16 + -ρ 4 := f9
  obtain ⟨m0, m1, m2, m3, m4, m5, m6, m7, m8, m9, m10, m11, m12, m13, m14, m15, m16, m17, m18, m19, m20, m21, m22, m23, m24, m25, m26, m27, m28, m29, m30, m31, m32, m33, m34, m35, -⟩ := hm
  have m0 : γ 0 15 0 32 = ρ 1 := m0
  have m1 : γ 0 15 0 13 = ρ 2 := m1
  have m2 : γ 0 71 0 (ρ 0) = ρ 3 := m2
  have m3 : γ 0 15 0 72 = ρ 4 := m3
  have m4 : γ 0 15 0 77 = ρ 5 := m4
  have m5 : γ 0 15 0 90 = ρ 6 := m5
  have m6 : γ 0 69 0 (ρ 0) = ρ 7 := m6
  have m7 : γ 0 15 0 44 = ρ 8 := m7
  have m8 : γ 0 15 0 71 = ρ 9 := m8
  have m9 : γ 0 15 0 76 = ρ 10 := m9
  have m10 : γ 0 15 0 81 = ρ 11 := m10
  have m11 : γ 0 15 0 82 = ρ 12 := m11
  have m12 : γ 0 15 0 83 = ρ 13 := m12
  have m13 : γ 0 15 0 94 = ρ 14 := m13
  have m14 : γ 1 15 0 72 = ρ 16 := m14
  have m15 : γ 1 15 0 77 = ρ 17 := m15
  have m16 : γ 1 15 0 90 = ρ 18 := m16
  have m17 : γ 1 15 0 71 = ρ 19 := m17
  have m18 : γ 1 15 0 81 = ρ 9 := m18
  have m19 : γ 1 106 0 (ρ 15) = ρ 20 := m19
  have m20 : γ 0 66 0 (ρ 7) = ρ 21 := m20
  have m21 : γ 0 70 0 (4 * ρ 0) = ρ 22 := m21
  have m22 : γ 1 105 0 (4 * ρ 15) = ρ 23 := m22
  have m23 : γ 0 70 0 (4 * ρ 0 + 1) = ρ 24 := m23
  have m24 : γ 0 70 0 (4 * ρ 0 + 2) = ρ 25 := m24
  have m25 : γ 1 105 0 (4 * ρ 15 + 2) = ρ 26 := m25
  have m26 : γ 0 70 0 (4 * ρ 0 + 3) = ρ 27 := m26
  have m27 : γ 1 105 0 (4 * ρ 15 + 3) = ρ 28 := m27
  have m28 : γ 1 97 0 (ρ 19) = ρ 29 := m28
  have m29 : γ 1 100 0 (ρ 7) = ρ 30 := m29
  have m30 : γ 1 101 0 (ρ 7) = ρ 31 := m30
  have m31 : γ 6 15 0 71 = ρ 32 := m31
  have m32 : γ 6 97 0 (ρ 19) = ρ 33 := m32
  have m33 : γ 6 100 0 (ρ 7) = ρ 34 := m33
  have m34 : γ 6 101 0 (ρ 7) = ρ 35 := m34
  have m35 : γ 6 15 0 77 = ρ 36 := m35
  obtain ⟨⟨⟨⟨⟨⟨-, c1⟩, c2⟩, c3⟩, c4⟩, c5⟩, c6⟩ := hc
  have c1 : ∀ (G : Nat) (k j : Int), ¬ rMdP m51_ G j → γ 1 G k j = γ 0 G k j := c1
  have c2 : γ 2 = rUp (γ 1) 102 0 0 (ρ 23) := c2
  have c3 : γ 3 = rUp (γ 2) 102 0 1 (ρ 20) := c3
  have c4 : γ 4 = rUp (γ 3) 102 0 2 (ρ 26) := c4
  have c5 : γ 5 = rUp (γ 4) 102 0 3 (ρ 28) := c5
  have c6 : ∀ (G : Nat) (k j : Int), ¬ rMdP m40_ G j → γ 6 G k j = γ 5 G k j := c6
  obtain ⟨l0, -⟩ := hl
  have l0 : sn57 [ρ 7, ρ 0, ρ 2, ρ 19, ρ 29, ρ 30, ρ 31, ρ 10, ρ 17] (γ 5) 0 0 (γ 6) := hS57 _ _ _ _ _ l0
  show jn75 [ρ 0, ρ 1, ρ 2, ρ 3, ρ 4, ρ 5, ρ 6, ρ 7, ρ 8, ρ 9, ρ 10, ρ 11, ρ 12, ρ 13, ρ 14] (γ 0) 0 [ρ 0, ρ 1, ρ 2, ρ 3, ρ 4, ρ 5, ρ 6, ρ 7, ρ 8, ρ 9, ρ 10, ρ 11, ρ 12, ρ 13, ρ 14, ρ 15 + 1, ρ 16, ρ 36, ρ 18, ρ 32] (γ 6)
  have hD : en75 (γ 0) (0, [ρ 0, ρ 15], γ 1) = .inl (0, [ρ 0, ρ 15 + 1], γ 6) := by
    unfold en75
    refine (if_pos (show (0 : Nat) = 0 by decide)).trans ?_
    refine (zLet_eq (show _ = γ 1 from rfl)).trans ?_
    refine (zLet_eq (show _ = ρ 0 from rfl)).trans ?_
    refine (zLet_eq (show _ = ρ 15 from rfl)).trans ?_
    refine (zLet_eq m2).trans ?_
    refine (zLet_eq m6).trans ?_
    refine (zLet_eq m15).trans ?_
    refine (zLet_eq m16).trans ?_
    refine (if_neg (show ¬ (ρ 15 ≥ ρ 18) by omega)).trans ?_
    refine (if_neg (show ¬ (ρ 17 ≠ 0) by omega)).trans ?_
    refine (if_pos (show ρ 3 ≤ 2 by omega)).trans ?_
    refine (if_neg (show ¬ (ρ 3 ≠ 1) by omega)).trans ?_
    refine (zLet_eq m19).trans ?_
    refine (zLet_eq m20).trans ?_
    refine (if_neg (show ¬ (0 ≥ ρ 21) by omega)).trans ?_
    refine (zLet_eq m21).trans ?_
    refine (if_pos (show ρ 22 ≠ 3 by omega)).trans ?_
    refine (zLet_eq m22).trans ?_
    refine (zLet_eq c2.symm).trans ?_
    refine (if_neg (show ¬ (1 ≥ ρ 21) by omega)).trans ?_
    refine (zLet_eq m23).trans ?_
    refine (if_neg (show ¬ (ρ 24 ≠ 3) by omega)).trans ?_
    refine (zLet_eq c3.symm).trans ?_
    refine (if_neg (show ¬ (2 ≥ ρ 21) by omega)).trans ?_
    refine (zLet_eq m24).trans ?_
    refine (if_pos (show ρ 25 ≠ 3 by omega)).trans ?_
    refine (zLet_eq m25).trans ?_
    refine (zLet_eq c4.symm).trans ?_
    refine (if_neg (show ¬ (3 ≥ ρ 21) by omega)).trans ?_
    refine (zLet_eq m26).trans ?_
    refine (if_pos (show ρ 27 ≠ 3 by omega)).trans ?_
    refine (zLet_eq m27).trans ?_
    refine (zLet_eq c5.symm).trans ?_
    refine (zLet_eq (show fn57 [ρ 7, ρ 0] (γ 5) = (0, 0, γ 6) from l0.symm)).trans ?_
    refine (zLet_eq (show _ = γ 6 from rfl)).trans ?_
    rfl
  exact zGoo_ato hJ hD
theorem vn75a0_45 {S : Nat → zSpc} (hS57 : ∀ x g o v gz, S 57 x g o v gz → sn57 x g o v gz) (hS73 : ∀ x g o v gz, S 73 x g o v gz → sn73 x g o v gz) {a : List Int} {g : rHp} : ∀ (ρ : Nat → Int) (γ : Nat → rHp), jn75 a g 0 (zAg (zNA a75_ 0) ρ) (γ 1) → zO 15 S a g q75a0_45 ρ γ → zGl (fun i vs g1 => jn75 a g i vs g1) (sn75 a g) q75a0_45 ρ γ := by
  intro ρ γ hJ h
  obtain ⟨ha, hg, hr, hf, hm, hc, hl⟩ := h
  have ha : a = [ρ 0, ρ 1, ρ 2, ρ 3, ρ 4, ρ 5, ρ 6, ρ 7, ρ 8, ρ 9, ρ 10, ρ 11, ρ 12, ρ 13, ρ 14] := ha
  subst ha
  subst hg
  have hJ : jn75 [ρ 0, ρ 1, ρ 2, ρ 3, ρ 4, ρ 5, ρ 6, ρ 7, ρ 8, ρ 9, ρ 10, ρ 11, ρ 12, ρ 13, ρ 14] (γ 0) 0 [ρ 0, ρ 1, ρ 2, ρ 3, ρ 4, ρ 5, ρ 6, ρ 7, ρ 8, ρ 9, ρ 10, ρ 11, ρ 12, ρ 13, ρ 14, ρ 15, ρ 16, ρ 17, ρ 18, ρ 19] (γ 1) := hJ
  obtain ⟨r0, r1, r2, r3, r4, r5, r6, r7, r8, r9, r10, r11, r12, r13, r14, r15, r16, r17, r18, r19, r20, r21, r22, r23, r24, r25, r26, r27, r28, r29, r30, r31, r32, r33, r34, r35, -⟩ := hr
  have r0 : (0 : Int) ≤ ρ 0 ∧ ρ 0 ≤ 59 := r0
  have r1 : (0 : Int) ≤ ρ 1 ∧ ρ 1 ≤ 60 := r1
  have r2 : (0 : Int) ≤ ρ 2 ∧ ρ 2 ≤ 20 := r2
  have r3 : (1 : Int) ≤ ρ 3 ∧ ρ 3 ≤ 1 := r3
  have r4 : (0 : Int) ≤ ρ 4 ∧ ρ 4 ≤ 50001 := r4
  have r5 : (0 : Int) ≤ ρ 5 ∧ ρ 5 ≤ 3 := r5
  have r6 : (0 : Int) ≤ ρ 6 ∧ ρ 6 ≤ 2000 := r6
  have r7 : (0 : Int) ≤ ρ 7 ∧ ρ 7 ≤ 19 := r7
  have r8 : (0 : Int) ≤ ρ 8 ∧ ρ 8 ≤ 61 := r8
  have r9 : (0 : Int) ≤ ρ 9 ∧ ρ 9 ≤ 2000 := r9
  have r10 : ((-2147483648) : Int) ≤ ρ 10 ∧ ρ 10 ≤ 2147483647 := r10
  have r11 : (0 : Int) ≤ ρ 11 ∧ ρ 11 ≤ 2000 := r11
  have r12 : (0 : Int) ≤ ρ 12 ∧ ρ 12 ≤ 2000 := r12
  have r13 : (0 : Int) ≤ ρ 13 ∧ ρ 13 ≤ 2000 := r13
  have r14 : (0 : Int) ≤ ρ 14 ∧ ρ 14 ≤ 50001 := r14
  have r15 : (0 : Int) ≤ ρ 15 ∧ ρ 15 ≤ 2000 := r15
  have r16 : (0 : Int) ≤ ρ 16 ∧ ρ 16 ≤ 50001 := r16
  have r17 : (0 : Int) ≤ ρ 17 ∧ ρ 17 ≤ 0 := r17
  have r18 : (0 : Int) ≤ ρ 18 ∧ ρ 18 ≤ 2000 := r18
  have r19 : (0 : Int) ≤ ρ 19 ∧ ρ 19 ≤ 2000 := r19
  have r20 : ((-2147483648) : Int) ≤ ρ 20 ∧ ρ 20 ≤ 2147483647 := r20
  have r21 : (4 : Int) ≤ ρ 21 ∧ ρ 21 ≤ 4 := r21
  have r22 : (0 : Int) ≤ ρ 22 ∧ ρ 22 ≤ 2 := r22
  have r23 : ((-2147483648) : Int) ≤ ρ 23 ∧ ρ 23 ≤ 1099511640064 := r23
  have r24 : (3 : Int) ≤ ρ 24 ∧ ρ 24 ≤ 3 := r24
  have r25 : (0 : Int) ≤ ρ 25 ∧ ρ 25 ≤ 2 := r25
  have r26 : ((-2147483648) : Int) ≤ ρ 26 ∧ ρ 26 ≤ 1099511640064 := r26
  have r27 : (3 : Int) ≤ ρ 27 ∧ ρ 27 ≤ 3 := r27
  have r28 : (0 : Int) ≤ ρ 28 ∧ ρ 28 ≤ 8 := r28
  have r29 : ((-1) : Int) ≤ ρ 29 ∧ ρ 29 ≤ 1999 := r29
  have r30 : (0 : Int) ≤ ρ 30 ∧ ρ 30 ≤ 1999 := r30
  have r31 : (1 : Int) ≤ ρ 31 ∧ ρ 31 ≤ 2000 := r31
  have r32 : (0 : Int) ≤ ρ 32 ∧ ρ 32 ≤ 8 := r32
  have r33 : ((-1) : Int) ≤ ρ 33 ∧ ρ 33 ≤ 1999 := r33
  have r34 : (0 : Int) ≤ ρ 34 ∧ ρ 34 ≤ 1999 := r34
  have r35 : (0 : Int) ≤ ρ 35 ∧ ρ 35 ≤ 3 := r35
  obtain ⟨f0, f1, f2, f3, f4, f5, f6, f7, f8, f9, -⟩ := hf
  have f0 : (0 : Int) ≤ -ρ 7 + ρ 2 + (-1) := f0
  have f1 : (0 : Int) ≤ ρ 31 + -ρ 19 := f1
  have f2 : (0 : Int) ≤ ρ 33 + -ρ 29 := f2
  have f3 : (0 : Int) ≤ ρ 18 + -ρ 15 + (-1) := f3
  have f4 : (0 : Int) ≤ ρ 17 + -ρ 16 + 50000 := f4
  have f5 : (0 : Int) ≤ ρ 1 + -ρ 0 + (-1) := f5
  have f6 : (0 : Int) ≤ ρ 19 + -ρ 9 := f6
  have f7 : (0 : Int) ≤ ρ 18 + -ρ 15 := f7
  have f8 : (0 : Int) ≤ ρ 17 + -ρ 5 := f8
  have f9 : (0 : Int) ≤ ρ 16 + -ρ 4 := f9
  obtain ⟨m0, m1, m2, m3, m4, m5, m6, m7, m8, m9, m10, m11, m12, m13, m14, m15, m16, m17, m18, m19, m20, m21, m22, m23, m24, m25, m26, m27, m28, m29, m30, m31, m32, m33, m34, -⟩ := hm
  have m0 : γ 0 15 0 32 = ρ 1 := m0
  have m1 : γ 0 15 0 13 = ρ 2 := m1
  have m2 : γ 0 71 0 (ρ 0) = ρ 3 := m2
  have m3 : γ 0 15 0 72 = ρ 4 := m3
  have m4 : γ 0 15 0 77 = ρ 5 := m4
  have m5 : γ 0 15 0 90 = ρ 6 := m5
  have m6 : γ 0 69 0 (ρ 0) = ρ 7 := m6
  have m7 : γ 0 15 0 44 = ρ 8 := m7
  have m8 : γ 0 15 0 71 = ρ 9 := m8
  have m9 : γ 0 15 0 76 = ρ 10 := m9
  have m10 : γ 0 15 0 81 = ρ 11 := m10
  have m11 : γ 0 15 0 82 = ρ 12 := m11
  have m12 : γ 0 15 0 83 = ρ 13 := m12
  have m13 : γ 0 15 0 94 = ρ 14 := m13
  have m14 : γ 1 15 0 72 = ρ 16 := m14
  have m15 : γ 1 15 0 77 = ρ 17 := m15
  have m16 : γ 1 15 0 90 = ρ 18 := m16
  have m17 : γ 1 15 0 71 = ρ 19 := m17
  have m18 : γ 1 15 0 81 = ρ 9 := m18
  have m19 : γ 1 106 0 (ρ 15) = ρ 20 := m19
  have m20 : γ 0 66 0 (ρ 7) = ρ 21 := m20
  have m21 : γ 0 70 0 (4 * ρ 0) = ρ 22 := m21
  have m22 : γ 1 105 0 (4 * ρ 15) = ρ 23 := m22
  have m23 : γ 0 70 0 (4 * ρ 0 + 1) = ρ 24 := m23
  have m24 : γ 0 70 0 (4 * ρ 0 + 2) = ρ 25 := m24
  have m25 : γ 1 105 0 (4 * ρ 15 + 2) = ρ 26 := m25
  have m26 : γ 0 70 0 (4 * ρ 0 + 3) = ρ 27 := m26
  have m27 : γ 1 97 0 (ρ 19) = ρ 28 := m27
  have m28 : γ 1 100 0 (ρ 7) = ρ 29 := m28
  have m29 : γ 1 101 0 (ρ 7) = ρ 30 := m29
  have m30 : γ 6 15 0 71 = ρ 31 := m30
  have m31 : γ 6 97 0 (ρ 19) = ρ 32 := m31
  have m32 : γ 6 100 0 (ρ 7) = ρ 33 := m32
  have m33 : γ 6 101 0 (ρ 7) = ρ 34 := m33
  have m34 : γ 6 15 0 77 = ρ 35 := m34
  obtain ⟨⟨⟨⟨⟨⟨-, c1⟩, c2⟩, c3⟩, c4⟩, c5⟩, c6⟩ := hc
  have c1 : ∀ (G : Nat) (k j : Int), ¬ rMdP m51_ G j → γ 1 G k j = γ 0 G k j := c1
  have c2 : γ 2 = rUp (γ 1) 102 0 0 (ρ 23) := c2
  have c3 : γ 3 = rUp (γ 2) 102 0 1 (ρ 20) := c3
  have c4 : γ 4 = rUp (γ 3) 102 0 2 (ρ 26) := c4
  have c5 : γ 5 = rUp (γ 4) 102 0 3 (ρ 20) := c5
  have c6 : ∀ (G : Nat) (k j : Int), ¬ rMdP m40_ G j → γ 6 G k j = γ 5 G k j := c6
  obtain ⟨l0, -⟩ := hl
  have l0 : sn57 [ρ 7, ρ 0, ρ 2, ρ 19, ρ 28, ρ 29, ρ 30, ρ 10, ρ 17] (γ 5) 0 0 (γ 6) := hS57 _ _ _ _ _ l0
  show jn75 [ρ 0, ρ 1, ρ 2, ρ 3, ρ 4, ρ 5, ρ 6, ρ 7, ρ 8, ρ 9, ρ 10, ρ 11, ρ 12, ρ 13, ρ 14] (γ 0) 0 [ρ 0, ρ 1, ρ 2, ρ 3, ρ 4, ρ 5, ρ 6, ρ 7, ρ 8, ρ 9, ρ 10, ρ 11, ρ 12, ρ 13, ρ 14, ρ 15 + 1, ρ 16, ρ 35, ρ 18, ρ 31] (γ 6)
  have hD : en75 (γ 0) (0, [ρ 0, ρ 15], γ 1) = .inl (0, [ρ 0, ρ 15 + 1], γ 6) := by
    unfold en75
    refine (if_pos (show (0 : Nat) = 0 by decide)).trans ?_
    refine (zLet_eq (show _ = γ 1 from rfl)).trans ?_
    refine (zLet_eq (show _ = ρ 0 from rfl)).trans ?_
    refine (zLet_eq (show _ = ρ 15 from rfl)).trans ?_
    refine (zLet_eq m2).trans ?_
    refine (zLet_eq m6).trans ?_
    refine (zLet_eq m15).trans ?_
    refine (zLet_eq m16).trans ?_
    refine (if_neg (show ¬ (ρ 15 ≥ ρ 18) by omega)).trans ?_
    refine (if_neg (show ¬ (ρ 17 ≠ 0) by omega)).trans ?_
    refine (if_pos (show ρ 3 ≤ 2 by omega)).trans ?_
    refine (if_neg (show ¬ (ρ 3 ≠ 1) by omega)).trans ?_
    refine (zLet_eq m19).trans ?_
    refine (zLet_eq m20).trans ?_
    refine (if_neg (show ¬ (0 ≥ ρ 21) by omega)).trans ?_
    refine (zLet_eq m21).trans ?_
    refine (if_pos (show ρ 22 ≠ 3 by omega)).trans ?_
    refine (zLet_eq m22).trans ?_
    refine (zLet_eq c2.symm).trans ?_
    refine (if_neg (show ¬ (1 ≥ ρ 21) by omega)).trans ?_
    refine (zLet_eq m23).trans ?_
    refine (if_neg (show ¬ (ρ 24 ≠ 3) by omega)).trans ?_
    refine (zLet_eq c3.symm).trans ?_
    refine (if_neg (show ¬ (2 ≥ ρ 21) by omega)).trans ?_
    refine (zLet_eq m24).trans ?_
    refine (if_pos (show ρ 25 ≠ 3 by omega)).trans ?_
    refine (zLet_eq m25).trans ?_
    refine (zLet_eq c4.symm).trans ?_
    refine (if_neg (show ¬ (3 ≥ ρ 21) by omega)).trans ?_
    refine (zLet_eq m26).trans ?_
    refine (if_neg (show ¬ (ρ 27 ≠ 3) by omega)).trans ?_
    refine (zLet_eq c5.symm).trans ?_
    refine (zLet_eq (show fn57 [ρ 7, ρ 0] (γ 5) = (0, 0, γ 6) from l0.symm)).trans ?_
    refine (zLet_eq (show _ = γ 6 from rfl)).trans ?_
    rfl
  exact zGoo_ato hJ hD
theorem vn75a0_46 {S : Nat → zSpc} (hS57 : ∀ x g o v gz, S 57 x g o v gz → sn57 x g o v gz) (hS73 : ∀ x g o v gz, S 73 x g o v gz → sn73 x g o v gz) {a : List Int} {g : rHp} : ∀ (ρ : Nat → Int) (γ : Nat → rHp), jn75 a g 0 (zAg (zNA a75_ 0) ρ) (γ 1) → zO 15 S a g q75a0_46 ρ γ → zGl (fun i vs g1 => jn75 a g i vs g1) (sn75 a g) q75a0_46 ρ γ := by
  intro ρ γ hJ h
  obtain ⟨ha, hg, hr, hf, hm, hc, hl⟩ := h
  have ha : a = [ρ 0, ρ 1, ρ 2, ρ 3, ρ 4, ρ 5, ρ 6, ρ 7, ρ 8, ρ 9, ρ 10, ρ 11, ρ 12, ρ 13, ρ 14] := ha
  subst ha
  subst hg
  have hJ : jn75 [ρ 0, ρ 1, ρ 2, ρ 3, ρ 4, ρ 5, ρ 6, ρ 7, ρ 8, ρ 9, ρ 10, ρ 11, ρ 12, ρ 13, ρ 14] (γ 0) 0 [ρ 0, ρ 1, ρ 2, ρ 3, ρ 4, ρ 5, ρ 6, ρ 7, ρ 8, ρ 9, ρ 10, ρ 11, ρ 12, ρ 13, ρ 14, ρ 15, ρ 16, ρ 17, ρ 18, ρ 19] (γ 1) := hJ
  obtain ⟨r0, r1, r2, r3, r4, r5, r6, r7, r8, r9, r10, r11, r12, r13, r14, r15, r16, r17, r18, r19, r20, r21, r22, r23, r24, r25, r26, r27, r28, r29, r30, r31, r32, r33, r34, -⟩ := hr
  have r0 : (0 : Int) ≤ ρ 0 ∧ ρ 0 ≤ 59 := r0
  have r1 : (0 : Int) ≤ ρ 1 ∧ ρ 1 ≤ 60 := r1
  have r2 : (0 : Int) ≤ ρ 2 ∧ ρ 2 ≤ 20 := r2
  have r3 : (1 : Int) ≤ ρ 3 ∧ ρ 3 ≤ 1 := r3
  have r4 : (0 : Int) ≤ ρ 4 ∧ ρ 4 ≤ 50001 := r4
  have r5 : (0 : Int) ≤ ρ 5 ∧ ρ 5 ≤ 3 := r5
  have r6 : (0 : Int) ≤ ρ 6 ∧ ρ 6 ≤ 2000 := r6
  have r7 : (0 : Int) ≤ ρ 7 ∧ ρ 7 ≤ 19 := r7
  have r8 : (0 : Int) ≤ ρ 8 ∧ ρ 8 ≤ 61 := r8
  have r9 : (0 : Int) ≤ ρ 9 ∧ ρ 9 ≤ 2000 := r9
  have r10 : ((-2147483648) : Int) ≤ ρ 10 ∧ ρ 10 ≤ 2147483647 := r10
  have r11 : (0 : Int) ≤ ρ 11 ∧ ρ 11 ≤ 2000 := r11
  have r12 : (0 : Int) ≤ ρ 12 ∧ ρ 12 ≤ 2000 := r12
  have r13 : (0 : Int) ≤ ρ 13 ∧ ρ 13 ≤ 2000 := r13
  have r14 : (0 : Int) ≤ ρ 14 ∧ ρ 14 ≤ 50001 := r14
  have r15 : (0 : Int) ≤ ρ 15 ∧ ρ 15 ≤ 2000 := r15
  have r16 : (0 : Int) ≤ ρ 16 ∧ ρ 16 ≤ 50001 := r16
  have r17 : (0 : Int) ≤ ρ 17 ∧ ρ 17 ≤ 0 := r17
  have r18 : (0 : Int) ≤ ρ 18 ∧ ρ 18 ≤ 2000 := r18
  have r19 : (0 : Int) ≤ ρ 19 ∧ ρ 19 ≤ 2000 := r19
  have r20 : ((-2147483648) : Int) ≤ ρ 20 ∧ ρ 20 ≤ 2147483647 := r20
  have r21 : (3 : Int) ≤ ρ 21 ∧ ρ 21 ≤ 3 := r21
  have r22 : (0 : Int) ≤ ρ 22 ∧ ρ 22 ≤ 2 := r22
  have r23 : ((-2147483648) : Int) ≤ ρ 23 ∧ ρ 23 ≤ 1099511640064 := r23
  have r24 : (3 : Int) ≤ ρ 24 ∧ ρ 24 ≤ 3 := r24
  have r25 : (3 : Int) ≤ ρ 25 ∧ ρ 25 ≤ 3 := r25
  have r26 : ((-2147483648) : Int) ≤ ρ 26 ∧ ρ 26 ≤ 1099511640064 := r26
  have r27 : (0 : Int) ≤ ρ 27 ∧ ρ 27 ≤ 8 := r27
  have r28 : ((-1) : Int) ≤ ρ 28 ∧ ρ 28 ≤ 1999 := r28
  have r29 : (0 : Int) ≤ ρ 29 ∧ ρ 29 ≤ 1999 := r29
  have r30 : (1 : Int) ≤ ρ 30 ∧ ρ 30 ≤ 2000 := r30
  have r31 : (0 : Int) ≤ ρ 31 ∧ ρ 31 ≤ 8 := r31
  have r32 : ((-1) : Int) ≤ ρ 32 ∧ ρ 32 ≤ 1999 := r32
  have r33 : (0 : Int) ≤ ρ 33 ∧ ρ 33 ≤ 1999 := r33
  have r34 : (0 : Int) ≤ ρ 34 ∧ ρ 34 ≤ 3 := r34
  obtain ⟨f0, f1, f2, f3, f4, f5, f6, f7, f8, f9, -⟩ := hf
  have f0 : (0 : Int) ≤ -ρ 7 + ρ 2 + (-1) := f0
  have f1 : (0 : Int) ≤ ρ 30 + -ρ 19 := f1
  have f2 : (0 : Int) ≤ ρ 32 + -ρ 28 := f2
  have f3 : (0 : Int) ≤ ρ 18 + -ρ 15 + (-1) := f3
  have f4 : (0 : Int) ≤ ρ 17 + -ρ 16 + 50000 := f4
  have f5 : (0 : Int) ≤ ρ 1 + -ρ 0 + (-1) := f5
  have f6 : (0 : Int) ≤ ρ 19 + -ρ 9 := f6
  have f7 : (0 : Int) ≤ ρ 18 + -ρ 15 := f7
  have f8 : (0 : Int) ≤ ρ 17 + -ρ 5 := f8
  have f9 : (0 : Int) ≤ ρ 16 + -ρ 4 := f9
  obtain ⟨m0, m1, m2, m3, m4, m5, m6, m7, m8, m9, m10, m11, m12, m13, m14, m15, m16, m17, m18, m19, m20, m21, m22, m23, m24, m25, m26, m27, m28, m29, m30, m31, m32, m33, -⟩ := hm
  have m0 : γ 0 15 0 32 = ρ 1 := m0
  have m1 : γ 0 15 0 13 = ρ 2 := m1
  have m2 : γ 0 71 0 (ρ 0) = ρ 3 := m2
  have m3 : γ 0 15 0 72 = ρ 4 := m3
  have m4 : γ 0 15 0 77 = ρ 5 := m4
  have m5 : γ 0 15 0 90 = ρ 6 := m5
  have m6 : γ 0 69 0 (ρ 0) = ρ 7 := m6
  have m7 : γ 0 15 0 44 = ρ 8 := m7
  have m8 : γ 0 15 0 71 = ρ 9 := m8
  have m9 : γ 0 15 0 76 = ρ 10 := m9
  have m10 : γ 0 15 0 81 = ρ 11 := m10
  have m11 : γ 0 15 0 82 = ρ 12 := m11
  have m12 : γ 0 15 0 83 = ρ 13 := m12
  have m13 : γ 0 15 0 94 = ρ 14 := m13
  have m14 : γ 1 15 0 72 = ρ 16 := m14
  have m15 : γ 1 15 0 77 = ρ 17 := m15
  have m16 : γ 1 15 0 90 = ρ 18 := m16
  have m17 : γ 1 15 0 71 = ρ 19 := m17
  have m18 : γ 1 15 0 81 = ρ 9 := m18
  have m19 : γ 1 106 0 (ρ 15) = ρ 20 := m19
  have m20 : γ 0 66 0 (ρ 7) = ρ 21 := m20
  have m21 : γ 0 70 0 (4 * ρ 0) = ρ 22 := m21
  have m22 : γ 1 105 0 (4 * ρ 15) = ρ 23 := m22
  have m23 : γ 0 70 0 (4 * ρ 0 + 1) = ρ 24 := m23
  have m24 : γ 0 70 0 (4 * ρ 0 + 2) = ρ 25 := m24
  have m25 : γ 1 105 0 (4 * ρ 15 + 3) = ρ 26 := m25
  have m26 : γ 1 97 0 (ρ 19) = ρ 27 := m26
  have m27 : γ 1 100 0 (ρ 7) = ρ 28 := m27
  have m28 : γ 1 101 0 (ρ 7) = ρ 29 := m28
  have m29 : γ 6 15 0 71 = ρ 30 := m29
  have m30 : γ 6 97 0 (ρ 19) = ρ 31 := m30
  have m31 : γ 6 100 0 (ρ 7) = ρ 32 := m31
  have m32 : γ 6 101 0 (ρ 7) = ρ 33 := m32
  have m33 : γ 6 15 0 77 = ρ 34 := m33
  obtain ⟨⟨⟨⟨⟨⟨-, c1⟩, c2⟩, c3⟩, c4⟩, c5⟩, c6⟩ := hc
  have c1 : ∀ (G : Nat) (k j : Int), ¬ rMdP m51_ G j → γ 1 G k j = γ 0 G k j := c1
  have c2 : γ 2 = rUp (γ 1) 102 0 0 (ρ 23) := c2
  have c3 : γ 3 = rUp (γ 2) 102 0 1 (ρ 20) := c3
  have c4 : γ 4 = rUp (γ 3) 102 0 2 (ρ 20) := c4
  have c5 : γ 5 = rUp (γ 4) 102 0 3 (ρ 26) := c5
  have c6 : ∀ (G : Nat) (k j : Int), ¬ rMdP m40_ G j → γ 6 G k j = γ 5 G k j := c6
  obtain ⟨l0, -⟩ := hl
  have l0 : sn57 [ρ 7, ρ 0, ρ 2, ρ 19, ρ 27, ρ 28, ρ 29, ρ 10, ρ 17] (γ 5) 0 0 (γ 6) := hS57 _ _ _ _ _ l0
  show jn75 [ρ 0, ρ 1, ρ 2, ρ 3, ρ 4, ρ 5, ρ 6, ρ 7, ρ 8, ρ 9, ρ 10, ρ 11, ρ 12, ρ 13, ρ 14] (γ 0) 0 [ρ 0, ρ 1, ρ 2, ρ 3, ρ 4, ρ 5, ρ 6, ρ 7, ρ 8, ρ 9, ρ 10, ρ 11, ρ 12, ρ 13, ρ 14, ρ 15 + 1, ρ 16, ρ 34, ρ 18, ρ 30] (γ 6)
  have hD : en75 (γ 0) (0, [ρ 0, ρ 15], γ 1) = .inl (0, [ρ 0, ρ 15 + 1], γ 6) := by
    unfold en75
    refine (if_pos (show (0 : Nat) = 0 by decide)).trans ?_
    refine (zLet_eq (show _ = γ 1 from rfl)).trans ?_
    refine (zLet_eq (show _ = ρ 0 from rfl)).trans ?_
    refine (zLet_eq (show _ = ρ 15 from rfl)).trans ?_
    refine (zLet_eq m2).trans ?_
    refine (zLet_eq m6).trans ?_
    refine (zLet_eq m15).trans ?_
    refine (zLet_eq m16).trans ?_
    refine (if_neg (show ¬ (ρ 15 ≥ ρ 18) by omega)).trans ?_
    refine (if_neg (show ¬ (ρ 17 ≠ 0) by omega)).trans ?_
    refine (if_pos (show ρ 3 ≤ 2 by omega)).trans ?_
    refine (if_neg (show ¬ (ρ 3 ≠ 1) by omega)).trans ?_
    refine (zLet_eq m19).trans ?_
    refine (zLet_eq m20).trans ?_
    refine (if_neg (show ¬ (0 ≥ ρ 21) by omega)).trans ?_
    refine (zLet_eq m21).trans ?_
    refine (if_pos (show ρ 22 ≠ 3 by omega)).trans ?_
    refine (zLet_eq m22).trans ?_
    refine (zLet_eq c2.symm).trans ?_
    refine (if_neg (show ¬ (1 ≥ ρ 21) by omega)).trans ?_
    refine (zLet_eq m23).trans ?_
    refine (if_neg (show ¬ (ρ 24 ≠ 3) by omega)).trans ?_
    refine (zLet_eq c3.symm).trans ?_
    refine (if_neg (show ¬ (2 ≥ ρ 21) by omega)).trans ?_
    refine (zLet_eq m24).trans ?_
    refine (if_neg (show ¬ (ρ 25 ≠ 3) by omega)).trans ?_
    refine (zLet_eq c4.symm).trans ?_
    refine (if_pos (show 3 ≥ ρ 21 by omega)).trans ?_
    refine (zLet_eq m25).trans ?_
    refine (zLet_eq c5.symm).trans ?_
    refine (zLet_eq (show fn57 [ρ 7, ρ 0] (γ 5) = (0, 0, γ 6) from l0.symm)).trans ?_
    refine (zLet_eq (show _ = γ 6 from rfl)).trans ?_
    rfl
  exact zGoo_ato hJ hD
theorem vn75a0_47 {S : Nat → zSpc} (hS57 : ∀ x g o v gz, S 57 x g o v gz → sn57 x g o v gz) (hS73 : ∀ x g o v gz, S 73 x g o v gz → sn73 x g o v gz) {a : List Int} {g : rHp} : ∀ (ρ : Nat → Int) (γ : Nat → rHp), jn75 a g 0 (zAg (zNA a75_ 0) ρ) (γ 1) → zO 15 S a g q75a0_47 ρ γ → zGl (fun i vs g1 => jn75 a g i vs g1) (sn75 a g) q75a0_47 ρ γ := by
  intro ρ γ hJ h
  obtain ⟨ha, hg, hr, hf, hm, hc, hl⟩ := h
  have ha : a = [ρ 0, ρ 1, ρ 2, ρ 3, ρ 4, ρ 5, ρ 6, ρ 7, ρ 8, ρ 9, ρ 10, ρ 11, ρ 12, ρ 13, ρ 14] := ha
  subst ha
  subst hg
  have hJ : jn75 [ρ 0, ρ 1, ρ 2, ρ 3, ρ 4, ρ 5, ρ 6, ρ 7, ρ 8, ρ 9, ρ 10, ρ 11, ρ 12, ρ 13, ρ 14] (γ 0) 0 [ρ 0, ρ 1, ρ 2, ρ 3, ρ 4, ρ 5, ρ 6, ρ 7, ρ 8, ρ 9, ρ 10, ρ 11, ρ 12, ρ 13, ρ 14, ρ 15, ρ 16, ρ 17, ρ 18, ρ 19] (γ 1) := hJ
  obtain ⟨r0, r1, r2, r3, r4, r5, r6, r7, r8, r9, r10, r11, r12, r13, r14, r15, r16, r17, r18, r19, r20, r21, r22, r23, r24, r25, r26, r27, r28, r29, r30, r31, r32, r33, r34, r35, -⟩ := hr
  have r0 : (0 : Int) ≤ ρ 0 ∧ ρ 0 ≤ 59 := r0
  have r1 : (0 : Int) ≤ ρ 1 ∧ ρ 1 ≤ 60 := r1
  have r2 : (0 : Int) ≤ ρ 2 ∧ ρ 2 ≤ 20 := r2
  have r3 : (1 : Int) ≤ ρ 3 ∧ ρ 3 ≤ 1 := r3
  have r4 : (0 : Int) ≤ ρ 4 ∧ ρ 4 ≤ 50001 := r4
  have r5 : (0 : Int) ≤ ρ 5 ∧ ρ 5 ≤ 3 := r5
  have r6 : (0 : Int) ≤ ρ 6 ∧ ρ 6 ≤ 2000 := r6
  have r7 : (0 : Int) ≤ ρ 7 ∧ ρ 7 ≤ 19 := r7
  have r8 : (0 : Int) ≤ ρ 8 ∧ ρ 8 ≤ 61 := r8
  have r9 : (0 : Int) ≤ ρ 9 ∧ ρ 9 ≤ 2000 := r9
  have r10 : ((-2147483648) : Int) ≤ ρ 10 ∧ ρ 10 ≤ 2147483647 := r10
  have r11 : (0 : Int) ≤ ρ 11 ∧ ρ 11 ≤ 2000 := r11
  have r12 : (0 : Int) ≤ ρ 12 ∧ ρ 12 ≤ 2000 := r12
  have r13 : (0 : Int) ≤ ρ 13 ∧ ρ 13 ≤ 2000 := r13
  have r14 : (0 : Int) ≤ ρ 14 ∧ ρ 14 ≤ 50001 := r14
  have r15 : (0 : Int) ≤ ρ 15 ∧ ρ 15 ≤ 2000 := r15
  have r16 : (0 : Int) ≤ ρ 16 ∧ ρ 16 ≤ 50001 := r16
  have r17 : (0 : Int) ≤ ρ 17 ∧ ρ 17 ≤ 0 := r17
  have r18 : (0 : Int) ≤ ρ 18 ∧ ρ 18 ≤ 2000 := r18
  have r19 : (0 : Int) ≤ ρ 19 ∧ ρ 19 ≤ 2000 := r19
  have r20 : ((-2147483648) : Int) ≤ ρ 20 ∧ ρ 20 ≤ 2147483647 := r20
  have r21 : (4 : Int) ≤ ρ 21 ∧ ρ 21 ≤ 4 := r21
  have r22 : (0 : Int) ≤ ρ 22 ∧ ρ 22 ≤ 2 := r22
  have r23 : ((-2147483648) : Int) ≤ ρ 23 ∧ ρ 23 ≤ 1099511640064 := r23
  have r24 : (3 : Int) ≤ ρ 24 ∧ ρ 24 ≤ 3 := r24
  have r25 : (3 : Int) ≤ ρ 25 ∧ ρ 25 ≤ 3 := r25
  have r26 : (0 : Int) ≤ ρ 26 ∧ ρ 26 ≤ 2 := r26
  have r27 : ((-2147483648) : Int) ≤ ρ 27 ∧ ρ 27 ≤ 1099511640064 := r27
  have r28 : (0 : Int) ≤ ρ 28 ∧ ρ 28 ≤ 8 := r28
  have r29 : ((-1) : Int) ≤ ρ 29 ∧ ρ 29 ≤ 1999 := r29
  have r30 : (0 : Int) ≤ ρ 30 ∧ ρ 30 ≤ 1999 := r30
  have r31 : (1 : Int) ≤ ρ 31 ∧ ρ 31 ≤ 2000 := r31
  have r32 : (0 : Int) ≤ ρ 32 ∧ ρ 32 ≤ 8 := r32
  have r33 : ((-1) : Int) ≤ ρ 33 ∧ ρ 33 ≤ 1999 := r33
  have r34 : (0 : Int) ≤ ρ 34 ∧ ρ 34 ≤ 1999 := r34
  have r35 : (0 : Int) ≤ ρ 35 ∧ ρ 35 ≤ 3 := r35
  obtain ⟨f0, f1, f2, f3, f4, f5, f6, f7, f8, f9, -⟩ := hf
  have f0 : (0 : Int) ≤ -ρ 7 + ρ 2 + (-1) := f0
  have f1 : (0 : Int) ≤ ρ 31 + -ρ 19 := f1
  have f2 : (0 : Int) ≤ ρ 33 + -ρ 29 := f2
  have f3 : (0 : Int) ≤ ρ 18 + -ρ 15 + (-1) := f3
  have f4 : (0 : Int) ≤ ρ 17 + -ρ 16 + 50000 := f4
  have f5 : (0 : Int) ≤ ρ 1 + -ρ 0 + (-1) := f5
  have f6 : (0 : Int) ≤ ρ 19 + -ρ 9 := f6
  have f7 : (0 : Int) ≤ ρ 18 + -ρ 15 := f7
  have f8 : (0 : Int) ≤ ρ 17 + -ρ 5 := f8
  have f9 : (0 : Int) ≤ ρ 16 + -ρ 4 := f9
  obtain ⟨m0, m1, m2, m3, m4, m5, m6, m7, m8, m9, m10, m11, m12, m13, m14, m15, m16, m17, m18, m19, m20, m21, m22, m23, m24, m25, m26, m27, m28, m29, m30, m31, m32, m33, m34, -⟩ := hm
  have m0 : γ 0 15 0 32 = ρ 1 := m0
  have m1 : γ 0 15 0 13 = ρ 2 := m1
  have m2 : γ 0 71 0 (ρ 0) = ρ 3 := m2
  have m3 : γ 0 15 0 72 = ρ 4 := m3
  have m4 : γ 0 15 0 77 = ρ 5 := m4
  have m5 : γ 0 15 0 90 = ρ 6 := m5
  have m6 : γ 0 69 0 (ρ 0) = ρ 7 := m6
  have m7 : γ 0 15 0 44 = ρ 8 := m7
  have m8 : γ 0 15 0 71 = ρ 9 := m8
  have m9 : γ 0 15 0 76 = ρ 10 := m9
  have m10 : γ 0 15 0 81 = ρ 11 := m10
  have m11 : γ 0 15 0 82 = ρ 12 := m11
  have m12 : γ 0 15 0 83 = ρ 13 := m12
  have m13 : γ 0 15 0 94 = ρ 14 := m13
  have m14 : γ 1 15 0 72 = ρ 16 := m14
  have m15 : γ 1 15 0 77 = ρ 17 := m15
  have m16 : γ 1 15 0 90 = ρ 18 := m16
  have m17 : γ 1 15 0 71 = ρ 19 := m17
  have m18 : γ 1 15 0 81 = ρ 9 := m18
  have m19 : γ 1 106 0 (ρ 15) = ρ 20 := m19
  have m20 : γ 0 66 0 (ρ 7) = ρ 21 := m20
  have m21 : γ 0 70 0 (4 * ρ 0) = ρ 22 := m21
  have m22 : γ 1 105 0 (4 * ρ 15) = ρ 23 := m22
  have m23 : γ 0 70 0 (4 * ρ 0 + 1) = ρ 24 := m23
  have m24 : γ 0 70 0 (4 * ρ 0 + 2) = ρ 25 := m24
  have m25 : γ 0 70 0 (4 * ρ 0 + 3) = ρ 26 := m25
  have m26 : γ 1 105 0 (4 * ρ 15 + 3) = ρ 27 := m26
  have m27 : γ 1 97 0 (ρ 19) = ρ 28 := m27
  have m28 : γ 1 100 0 (ρ 7) = ρ 29 := m28
  have m29 : γ 1 101 0 (ρ 7) = ρ 30 := m29
  have m30 : γ 6 15 0 71 = ρ 31 := m30
  have m31 : γ 6 97 0 (ρ 19) = ρ 32 := m31
  have m32 : γ 6 100 0 (ρ 7) = ρ 33 := m32
  have m33 : γ 6 101 0 (ρ 7) = ρ 34 := m33
  have m34 : γ 6 15 0 77 = ρ 35 := m34
  obtain ⟨⟨⟨⟨⟨⟨-, c1⟩, c2⟩, c3⟩, c4⟩, c5⟩, c6⟩ := hc
  have c1 : ∀ (G : Nat) (k j : Int), ¬ rMdP m51_ G j → γ 1 G k j = γ 0 G k j := c1
  have c2 : γ 2 = rUp (γ 1) 102 0 0 (ρ 23) := c2
  have c3 : γ 3 = rUp (γ 2) 102 0 1 (ρ 20) := c3
  have c4 : γ 4 = rUp (γ 3) 102 0 2 (ρ 20) := c4
  have c5 : γ 5 = rUp (γ 4) 102 0 3 (ρ 27) := c5
  have c6 : ∀ (G : Nat) (k j : Int), ¬ rMdP m40_ G j → γ 6 G k j = γ 5 G k j := c6
  obtain ⟨l0, -⟩ := hl
  have l0 : sn57 [ρ 7, ρ 0, ρ 2, ρ 19, ρ 28, ρ 29, ρ 30, ρ 10, ρ 17] (γ 5) 0 0 (γ 6) := hS57 _ _ _ _ _ l0
  show jn75 [ρ 0, ρ 1, ρ 2, ρ 3, ρ 4, ρ 5, ρ 6, ρ 7, ρ 8, ρ 9, ρ 10, ρ 11, ρ 12, ρ 13, ρ 14] (γ 0) 0 [ρ 0, ρ 1, ρ 2, ρ 3, ρ 4, ρ 5, ρ 6, ρ 7, ρ 8, ρ 9, ρ 10, ρ 11, ρ 12, ρ 13, ρ 14, ρ 15 + 1, ρ 16, ρ 35, ρ 18, ρ 31] (γ 6)
  have hD : en75 (γ 0) (0, [ρ 0, ρ 15], γ 1) = .inl (0, [ρ 0, ρ 15 + 1], γ 6) := by
    unfold en75
    refine (if_pos (show (0 : Nat) = 0 by decide)).trans ?_
    refine (zLet_eq (show _ = γ 1 from rfl)).trans ?_
    refine (zLet_eq (show _ = ρ 0 from rfl)).trans ?_
    refine (zLet_eq (show _ = ρ 15 from rfl)).trans ?_
    refine (zLet_eq m2).trans ?_
    refine (zLet_eq m6).trans ?_
    refine (zLet_eq m15).trans ?_
    refine (zLet_eq m16).trans ?_
    refine (if_neg (show ¬ (ρ 15 ≥ ρ 18) by omega)).trans ?_
    refine (if_neg (show ¬ (ρ 17 ≠ 0) by omega)).trans ?_
    refine (if_pos (show ρ 3 ≤ 2 by omega)).trans ?_
    refine (if_neg (show ¬ (ρ 3 ≠ 1) by omega)).trans ?_
    refine (zLet_eq m19).trans ?_
    refine (zLet_eq m20).trans ?_
    refine (if_neg (show ¬ (0 ≥ ρ 21) by omega)).trans ?_
    refine (zLet_eq m21).trans ?_
    refine (if_pos (show ρ 22 ≠ 3 by omega)).trans ?_
    refine (zLet_eq m22).trans ?_
    refine (zLet_eq c2.symm).trans ?_
    refine (if_neg (show ¬ (1 ≥ ρ 21) by omega)).trans ?_
    refine (zLet_eq m23).trans ?_
    refine (if_neg (show ¬ (ρ 24 ≠ 3) by omega)).trans ?_
    refine (zLet_eq c3.symm).trans ?_
    refine (if_neg (show ¬ (2 ≥ ρ 21) by omega)).trans ?_
    refine (zLet_eq m24).trans ?_
    refine (if_neg (show ¬ (ρ 25 ≠ 3) by omega)).trans ?_
    refine (zLet_eq c4.symm).trans ?_
    refine (if_neg (show ¬ (3 ≥ ρ 21) by omega)).trans ?_
    refine (zLet_eq m25).trans ?_
    refine (if_pos (show ρ 26 ≠ 3 by omega)).trans ?_
    refine (zLet_eq m26).trans ?_
    refine (zLet_eq c5.symm).trans ?_
    refine (zLet_eq (show fn57 [ρ 7, ρ 0] (γ 5) = (0, 0, γ 6) from l0.symm)).trans ?_
    refine (zLet_eq (show _ = γ 6 from rfl)).trans ?_
    rfl
  exact zGoo_ato hJ hD
theorem vn75a0_48 {S : Nat → zSpc} (hS57 : ∀ x g o v gz, S 57 x g o v gz → sn57 x g o v gz) (hS73 : ∀ x g o v gz, S 73 x g o v gz → sn73 x g o v gz) {a : List Int} {g : rHp} : ∀ (ρ : Nat → Int) (γ : Nat → rHp), jn75 a g 0 (zAg (zNA a75_ 0) ρ) (γ 1) → zO 15 S a g q75a0_48 ρ γ → zGl (fun i vs g1 => jn75 a g i vs g1) (sn75 a g) q75a0_48 ρ γ := by
  intro ρ γ hJ h
  obtain ⟨ha, hg, hr, hf, hm, hc, hl⟩ := h
  have ha : a = [ρ 0, ρ 1, ρ 2, ρ 3, ρ 4, ρ 5, ρ 6, ρ 7, ρ 8, ρ 9, ρ 10, ρ 11, ρ 12, ρ 13, ρ 14] := ha
  subst ha
  subst hg
  have hJ : jn75 [ρ 0, ρ 1, ρ 2, ρ 3, ρ 4, ρ 5, ρ 6, ρ 7, ρ 8, ρ 9, ρ 10, ρ 11, ρ 12, ρ 13, ρ 14] (γ 0) 0 [ρ 0, ρ 1, ρ 2, ρ 3, ρ 4, ρ 5, ρ 6, ρ 7, ρ 8, ρ 9, ρ 10, ρ 11, ρ 12, ρ 13, ρ 14, ρ 15, ρ 16, ρ 17, ρ 18, ρ 19] (γ 1) := hJ
  obtain ⟨r0, r1, r2, r3, r4, r5, r6, r7, r8, r9, r10, r11, r12, r13, r14, r15, r16, r17, r18, r19, r20, r21, r22, r23, r24, r25, r26, r27, r28, r29, r30, r31, r32, r33, r34, -⟩ := hr
  have r0 : (0 : Int) ≤ ρ 0 ∧ ρ 0 ≤ 59 := r0
  have r1 : (0 : Int) ≤ ρ 1 ∧ ρ 1 ≤ 60 := r1
  have r2 : (0 : Int) ≤ ρ 2 ∧ ρ 2 ≤ 20 := r2
  have r3 : (1 : Int) ≤ ρ 3 ∧ ρ 3 ≤ 1 := r3
  have r4 : (0 : Int) ≤ ρ 4 ∧ ρ 4 ≤ 50001 := r4
  have r5 : (0 : Int) ≤ ρ 5 ∧ ρ 5 ≤ 3 := r5
  have r6 : (0 : Int) ≤ ρ 6 ∧ ρ 6 ≤ 2000 := r6
  have r7 : (0 : Int) ≤ ρ 7 ∧ ρ 7 ≤ 19 := r7
  have r8 : (0 : Int) ≤ ρ 8 ∧ ρ 8 ≤ 61 := r8
  have r9 : (0 : Int) ≤ ρ 9 ∧ ρ 9 ≤ 2000 := r9
  have r10 : ((-2147483648) : Int) ≤ ρ 10 ∧ ρ 10 ≤ 2147483647 := r10
  have r11 : (0 : Int) ≤ ρ 11 ∧ ρ 11 ≤ 2000 := r11
  have r12 : (0 : Int) ≤ ρ 12 ∧ ρ 12 ≤ 2000 := r12
  have r13 : (0 : Int) ≤ ρ 13 ∧ ρ 13 ≤ 2000 := r13
  have r14 : (0 : Int) ≤ ρ 14 ∧ ρ 14 ≤ 50001 := r14
  have r15 : (0 : Int) ≤ ρ 15 ∧ ρ 15 ≤ 2000 := r15
  have r16 : (0 : Int) ≤ ρ 16 ∧ ρ 16 ≤ 50001 := r16
  have r17 : (0 : Int) ≤ ρ 17 ∧ ρ 17 ≤ 0 := r17
  have r18 : (0 : Int) ≤ ρ 18 ∧ ρ 18 ≤ 2000 := r18
  have r19 : (0 : Int) ≤ ρ 19 ∧ ρ 19 ≤ 2000 := r19
  have r20 : ((-2147483648) : Int) ≤ ρ 20 ∧ ρ 20 ≤ 2147483647 := r20
  have r21 : (4 : Int) ≤ ρ 21 ∧ ρ 21 ≤ 4 := r21
  have r22 : (0 : Int) ≤ ρ 22 ∧ ρ 22 ≤ 2 := r22
  have r23 : ((-2147483648) : Int) ≤ ρ 23 ∧ ρ 23 ≤ 1099511640064 := r23
  have r24 : (3 : Int) ≤ ρ 24 ∧ ρ 24 ≤ 3 := r24
  have r25 : (3 : Int) ≤ ρ 25 ∧ ρ 25 ≤ 3 := r25
  have r26 : (3 : Int) ≤ ρ 26 ∧ ρ 26 ≤ 3 := r26
  have r27 : (0 : Int) ≤ ρ 27 ∧ ρ 27 ≤ 8 := r27
  have r28 : ((-1) : Int) ≤ ρ 28 ∧ ρ 28 ≤ 1999 := r28
  have r29 : (0 : Int) ≤ ρ 29 ∧ ρ 29 ≤ 1999 := r29
  have r30 : (1 : Int) ≤ ρ 30 ∧ ρ 30 ≤ 2000 := r30
  have r31 : (0 : Int) ≤ ρ 31 ∧ ρ 31 ≤ 8 := r31
  have r32 : ((-1) : Int) ≤ ρ 32 ∧ ρ 32 ≤ 1999 := r32
  have r33 : (0 : Int) ≤ ρ 33 ∧ ρ 33 ≤ 1999 := r33
  have r34 : (0 : Int) ≤ ρ 34 ∧ ρ 34 ≤ 3 := r34
  obtain ⟨f0, f1, f2, f3, f4, f5, f6, f7, f8, f9, -⟩ := hf
  have f0 : (0 : Int) ≤ -ρ 7 + ρ 2 + (-1) := f0
  have f1 : (0 : Int) ≤ ρ 30 + -ρ 19 := f1
  have f2 : (0 : Int) ≤ ρ 32 + -ρ 28 := f2
  have f3 : (0 : Int) ≤ ρ 18 + -ρ 15 + (-1) := f3
  have f4 : (0 : Int) ≤ ρ 17 + -ρ 16 + 50000 := f4
  have f5 : (0 : Int) ≤ ρ 1 + -ρ 0 + (-1) := f5
  have f6 : (0 : Int) ≤ ρ 19 + -ρ 9 := f6
  have f7 : (0 : Int) ≤ ρ 18 + -ρ 15 := f7
  have f8 : (0 : Int) ≤ ρ 17 + -ρ 5 := f8
  have f9 : (0 : Int) ≤ ρ 16 + -ρ 4 := f9
  obtain ⟨m0, m1, m2, m3, m4, m5, m6, m7, m8, m9, m10, m11, m12, m13, m14, m15, m16, m17, m18, m19, m20, m21, m22, m23, m24, m25, m26, m27, m28, m29, m30, m31, m32, m33, -⟩ := hm
  have m0 : γ 0 15 0 32 = ρ 1 := m0
  have m1 : γ 0 15 0 13 = ρ 2 := m1
  have m2 : γ 0 71 0 (ρ 0) = ρ 3 := m2
  have m3 : γ 0 15 0 72 = ρ 4 := m3
  have m4 : γ 0 15 0 77 = ρ 5 := m4
  have m5 : γ 0 15 0 90 = ρ 6 := m5
  have m6 : γ 0 69 0 (ρ 0) = ρ 7 := m6
  have m7 : γ 0 15 0 44 = ρ 8 := m7
  have m8 : γ 0 15 0 71 = ρ 9 := m8
  have m9 : γ 0 15 0 76 = ρ 10 := m9
  have m10 : γ 0 15 0 81 = ρ 11 := m10
  have m11 : γ 0 15 0 82 = ρ 12 := m11
  have m12 : γ 0 15 0 83 = ρ 13 := m12
  have m13 : γ 0 15 0 94 = ρ 14 := m13
  have m14 : γ 1 15 0 72 = ρ 16 := m14
  have m15 : γ 1 15 0 77 = ρ 17 := m15
  have m16 : γ 1 15 0 90 = ρ 18 := m16
  have m17 : γ 1 15 0 71 = ρ 19 := m17
  have m18 : γ 1 15 0 81 = ρ 9 := m18
  have m19 : γ 1 106 0 (ρ 15) = ρ 20 := m19
  have m20 : γ 0 66 0 (ρ 7) = ρ 21 := m20
  have m21 : γ 0 70 0 (4 * ρ 0) = ρ 22 := m21
  have m22 : γ 1 105 0 (4 * ρ 15) = ρ 23 := m22
  have m23 : γ 0 70 0 (4 * ρ 0 + 1) = ρ 24 := m23
  have m24 : γ 0 70 0 (4 * ρ 0 + 2) = ρ 25 := m24
  have m25 : γ 0 70 0 (4 * ρ 0 + 3) = ρ 26 := m25
  have m26 : γ 1 97 0 (ρ 19) = ρ 27 := m26
  have m27 : γ 1 100 0 (ρ 7) = ρ 28 := m27
  have m28 : γ 1 101 0 (ρ 7) = ρ 29 := m28
  have m29 : γ 6 15 0 71 = ρ 30 := m29
  have m30 : γ 6 97 0 (ρ 19) = ρ 31 := m30
  have m31 : γ 6 100 0 (ρ 7) = ρ 32 := m31
  have m32 : γ 6 101 0 (ρ 7) = ρ 33 := m32
  have m33 : γ 6 15 0 77 = ρ 34 := m33
  obtain ⟨⟨⟨⟨⟨⟨-, c1⟩, c2⟩, c3⟩, c4⟩, c5⟩, c6⟩ := hc
  have c1 : ∀ (G : Nat) (k j : Int), ¬ rMdP m51_ G j → γ 1 G k j = γ 0 G k j := c1
  have c2 : γ 2 = rUp (γ 1) 102 0 0 (ρ 23) := c2
  have c3 : γ 3 = rUp (γ 2) 102 0 1 (ρ 20) := c3
  have c4 : γ 4 = rUp (γ 3) 102 0 2 (ρ 20) := c4
  have c5 : γ 5 = rUp (γ 4) 102 0 3 (ρ 20) := c5
  have c6 : ∀ (G : Nat) (k j : Int), ¬ rMdP m40_ G j → γ 6 G k j = γ 5 G k j := c6
  obtain ⟨l0, -⟩ := hl
  have l0 : sn57 [ρ 7, ρ 0, ρ 2, ρ 19, ρ 27, ρ 28, ρ 29, ρ 10, ρ 17] (γ 5) 0 0 (γ 6) := hS57 _ _ _ _ _ l0
  show jn75 [ρ 0, ρ 1, ρ 2, ρ 3, ρ 4, ρ 5, ρ 6, ρ 7, ρ 8, ρ 9, ρ 10, ρ 11, ρ 12, ρ 13, ρ 14] (γ 0) 0 [ρ 0, ρ 1, ρ 2, ρ 3, ρ 4, ρ 5, ρ 6, ρ 7, ρ 8, ρ 9, ρ 10, ρ 11, ρ 12, ρ 13, ρ 14, ρ 15 + 1, ρ 16, ρ 34, ρ 18, ρ 30] (γ 6)
  have hD : en75 (γ 0) (0, [ρ 0, ρ 15], γ 1) = .inl (0, [ρ 0, ρ 15 + 1], γ 6) := by
    unfold en75
    refine (if_pos (show (0 : Nat) = 0 by decide)).trans ?_
    refine (zLet_eq (show _ = γ 1 from rfl)).trans ?_
    refine (zLet_eq (show _ = ρ 0 from rfl)).trans ?_
    refine (zLet_eq (show _ = ρ 15 from rfl)).trans ?_
    refine (zLet_eq m2).trans ?_
    refine (zLet_eq m6).trans ?_
    refine (zLet_eq m15).trans ?_
    refine (zLet_eq m16).trans ?_
    refine (if_neg (show ¬ (ρ 15 ≥ ρ 18) by omega)).trans ?_
    refine (if_neg (show ¬ (ρ 17 ≠ 0) by omega)).trans ?_
    refine (if_pos (show ρ 3 ≤ 2 by omega)).trans ?_
    refine (if_neg (show ¬ (ρ 3 ≠ 1) by omega)).trans ?_
    refine (zLet_eq m19).trans ?_
    refine (zLet_eq m20).trans ?_
    refine (if_neg (show ¬ (0 ≥ ρ 21) by omega)).trans ?_
    refine (zLet_eq m21).trans ?_
    refine (if_pos (show ρ 22 ≠ 3 by omega)).trans ?_
    refine (zLet_eq m22).trans ?_
    refine (zLet_eq c2.symm).trans ?_
    refine (if_neg (show ¬ (1 ≥ ρ 21) by omega)).trans ?_
    refine (zLet_eq m23).trans ?_
    refine (if_neg (show ¬ (ρ 24 ≠ 3) by omega)).trans ?_
    refine (zLet_eq c3.symm).trans ?_
    refine (if_neg (show ¬ (2 ≥ ρ 21) by omega)).trans ?_
    refine (zLet_eq m24).trans ?_
    refine (if_neg (show ¬ (ρ 25 ≠ 3) by omega)).trans ?_
    refine (zLet_eq c4.symm).trans ?_
    refine (if_neg (show ¬ (3 ≥ ρ 21) by omega)).trans ?_
    refine (zLet_eq m25).trans ?_
    refine (if_neg (show ¬ (ρ 26 ≠ 3) by omega)).trans ?_
    refine (zLet_eq c5.symm).trans ?_
    refine (zLet_eq (show fn57 [ρ 7, ρ 0] (γ 5) = (0, 0, γ 6) from l0.symm)).trans ?_
    refine (zLet_eq (show _ = γ 6 from rfl)).trans ?_
    rfl
  exact zGoo_ato hJ hD
theorem vn75a0_49 {S : Nat → zSpc} (hS57 : ∀ x g o v gz, S 57 x g o v gz → sn57 x g o v gz) (hS73 : ∀ x g o v gz, S 73 x g o v gz → sn73 x g o v gz) {a : List Int} {g : rHp} : ∀ (ρ : Nat → Int) (γ : Nat → rHp), jn75 a g 0 (zAg (zNA a75_ 0) ρ) (γ 1) → zO 15 S a g q75a0_49 ρ γ → zGl (fun i vs g1 => jn75 a g i vs g1) (sn75 a g) q75a0_49 ρ γ := by
  intro ρ γ hJ h
  obtain ⟨ha, hg, hr, hf, hm, hc, hl⟩ := h
  have ha : a = [ρ 0, ρ 1, ρ 2, ρ 3, ρ 4, ρ 5, ρ 6, ρ 7, ρ 8, ρ 9, ρ 10, ρ 11, ρ 12, ρ 13, ρ 14] := ha
  subst ha
  subst hg
  have hJ : jn75 [ρ 0, ρ 1, ρ 2, ρ 3, ρ 4, ρ 5, ρ 6, ρ 7, ρ 8, ρ 9, ρ 10, ρ 11, ρ 12, ρ 13, ρ 14] (γ 0) 0 [ρ 0, ρ 1, ρ 2, ρ 3, ρ 4, ρ 5, ρ 6, ρ 7, ρ 8, ρ 9, ρ 10, ρ 11, ρ 12, ρ 13, ρ 14, ρ 15, ρ 16, ρ 17, ρ 18, ρ 19] (γ 1) := hJ
  obtain ⟨r0, r1, r2, r3, r4, r5, r6, r7, r8, r9, r10, r11, r12, r13, r14, r15, r16, r17, r18, r19, r20, r21, r22, r23, r24, r25, r26, r27, r28, r29, r30, r31, r32, r33, -⟩ := hr
  have r0 : (0 : Int) ≤ ρ 0 ∧ ρ 0 ≤ 59 := r0
  have r1 : (0 : Int) ≤ ρ 1 ∧ ρ 1 ≤ 60 := r1
  have r2 : (0 : Int) ≤ ρ 2 ∧ ρ 2 ≤ 20 := r2
  have r3 : (1 : Int) ≤ ρ 3 ∧ ρ 3 ≤ 1 := r3
  have r4 : (0 : Int) ≤ ρ 4 ∧ ρ 4 ≤ 50001 := r4
  have r5 : (0 : Int) ≤ ρ 5 ∧ ρ 5 ≤ 3 := r5
  have r6 : (0 : Int) ≤ ρ 6 ∧ ρ 6 ≤ 2000 := r6
  have r7 : (0 : Int) ≤ ρ 7 ∧ ρ 7 ≤ 19 := r7
  have r8 : (0 : Int) ≤ ρ 8 ∧ ρ 8 ≤ 61 := r8
  have r9 : (0 : Int) ≤ ρ 9 ∧ ρ 9 ≤ 2000 := r9
  have r10 : ((-2147483648) : Int) ≤ ρ 10 ∧ ρ 10 ≤ 2147483647 := r10
  have r11 : (0 : Int) ≤ ρ 11 ∧ ρ 11 ≤ 2000 := r11
  have r12 : (0 : Int) ≤ ρ 12 ∧ ρ 12 ≤ 2000 := r12
  have r13 : (0 : Int) ≤ ρ 13 ∧ ρ 13 ≤ 2000 := r13
  have r14 : (0 : Int) ≤ ρ 14 ∧ ρ 14 ≤ 50001 := r14
  have r15 : (0 : Int) ≤ ρ 15 ∧ ρ 15 ≤ 2000 := r15
  have r16 : (0 : Int) ≤ ρ 16 ∧ ρ 16 ≤ 50001 := r16
  have r17 : (0 : Int) ≤ ρ 17 ∧ ρ 17 ≤ 0 := r17
  have r18 : (0 : Int) ≤ ρ 18 ∧ ρ 18 ≤ 2000 := r18
  have r19 : (0 : Int) ≤ ρ 19 ∧ ρ 19 ≤ 2000 := r19
  have r20 : ((-2147483648) : Int) ≤ ρ 20 ∧ ρ 20 ≤ 2147483647 := r20
  have r21 : (1 : Int) ≤ ρ 21 ∧ ρ 21 ≤ 1 := r21
  have r22 : (3 : Int) ≤ ρ 22 ∧ ρ 22 ≤ 3 := r22
  have r23 : ((-2147483648) : Int) ≤ ρ 23 ∧ ρ 23 ≤ 1099511640064 := r23
  have r24 : ((-2147483648) : Int) ≤ ρ 24 ∧ ρ 24 ≤ 1099511640064 := r24
  have r25 : ((-2147483648) : Int) ≤ ρ 25 ∧ ρ 25 ≤ 1099511640064 := r25
  have r26 : (0 : Int) ≤ ρ 26 ∧ ρ 26 ≤ 8 := r26
  have r27 : ((-1) : Int) ≤ ρ 27 ∧ ρ 27 ≤ 1999 := r27
  have r28 : (0 : Int) ≤ ρ 28 ∧ ρ 28 ≤ 1999 := r28
  have r29 : (1 : Int) ≤ ρ 29 ∧ ρ 29 ≤ 2000 := r29
  have r30 : (0 : Int) ≤ ρ 30 ∧ ρ 30 ≤ 8 := r30
  have r31 : ((-1) : Int) ≤ ρ 31 ∧ ρ 31 ≤ 1999 := r31
  have r32 : (0 : Int) ≤ ρ 32 ∧ ρ 32 ≤ 1999 := r32
  have r33 : (0 : Int) ≤ ρ 33 ∧ ρ 33 ≤ 3 := r33
  obtain ⟨f0, f1, f2, f3, f4, f5, f6, f7, f8, f9, -⟩ := hf
  have f0 : (0 : Int) ≤ -ρ 7 + ρ 2 + (-1) := f0
  have f1 : (0 : Int) ≤ ρ 29 + -ρ 19 := f1
  have f2 : (0 : Int) ≤ ρ 31 + -ρ 27 := f2
  have f3 : (0 : Int) ≤ ρ 18 + -ρ 15 + (-1) := f3
  have f4 : (0 : Int) ≤ ρ 17 + -ρ 16 + 50000 := f4
  have f5 : (0 : Int) ≤ ρ 1 + -ρ 0 + (-1) := f5
  have f6 : (0 : Int) ≤ ρ 19 + -ρ 9 := f6
  have f7 : (0 : Int) ≤ ρ 18 + -ρ 15 := f7
  have f8 : (0 : Int) ≤ ρ 17 + -ρ 5 := f8
  have f9 : (0 : Int) ≤ ρ 16 + -ρ 4 := f9
  obtain ⟨m0, m1, m2, m3, m4, m5, m6, m7, m8, m9, m10, m11, m12, m13, m14, m15, m16, m17, m18, m19, m20, m21, m22, m23, m24, m25, m26, m27, m28, m29, m30, m31, m32, -⟩ := hm
  have m0 : γ 0 15 0 32 = ρ 1 := m0
  have m1 : γ 0 15 0 13 = ρ 2 := m1
  have m2 : γ 0 71 0 (ρ 0) = ρ 3 := m2
  have m3 : γ 0 15 0 72 = ρ 4 := m3
  have m4 : γ 0 15 0 77 = ρ 5 := m4
  have m5 : γ 0 15 0 90 = ρ 6 := m5
  have m6 : γ 0 69 0 (ρ 0) = ρ 7 := m6
  have m7 : γ 0 15 0 44 = ρ 8 := m7
  have m8 : γ 0 15 0 71 = ρ 9 := m8
  have m9 : γ 0 15 0 76 = ρ 10 := m9
  have m10 : γ 0 15 0 81 = ρ 11 := m10
  have m11 : γ 0 15 0 82 = ρ 12 := m11
  have m12 : γ 0 15 0 83 = ρ 13 := m12
  have m13 : γ 0 15 0 94 = ρ 14 := m13
  have m14 : γ 1 15 0 72 = ρ 16 := m14
  have m15 : γ 1 15 0 77 = ρ 17 := m15
  have m16 : γ 1 15 0 90 = ρ 18 := m16
  have m17 : γ 1 15 0 71 = ρ 19 := m17
  have m18 : γ 1 15 0 81 = ρ 9 := m18
  have m19 : γ 1 106 0 (ρ 15) = ρ 20 := m19
  have m20 : γ 0 66 0 (ρ 7) = ρ 21 := m20
  have m21 : γ 0 70 0 (4 * ρ 0) = ρ 22 := m21
  have m22 : γ 1 105 0 (4 * ρ 15 + 1) = ρ 23 := m22
  have m23 : γ 1 105 0 (4 * ρ 15 + 2) = ρ 24 := m23
  have m24 : γ 1 105 0 (4 * ρ 15 + 3) = ρ 25 := m24
  have m25 : γ 1 97 0 (ρ 19) = ρ 26 := m25
  have m26 : γ 1 100 0 (ρ 7) = ρ 27 := m26
  have m27 : γ 1 101 0 (ρ 7) = ρ 28 := m27
  have m28 : γ 6 15 0 71 = ρ 29 := m28
  have m29 : γ 6 97 0 (ρ 19) = ρ 30 := m29
  have m30 : γ 6 100 0 (ρ 7) = ρ 31 := m30
  have m31 : γ 6 101 0 (ρ 7) = ρ 32 := m31
  have m32 : γ 6 15 0 77 = ρ 33 := m32
  obtain ⟨⟨⟨⟨⟨⟨-, c1⟩, c2⟩, c3⟩, c4⟩, c5⟩, c6⟩ := hc
  have c1 : ∀ (G : Nat) (k j : Int), ¬ rMdP m51_ G j → γ 1 G k j = γ 0 G k j := c1
  have c2 : γ 2 = rUp (γ 1) 102 0 0 (ρ 20) := c2
  have c3 : γ 3 = rUp (γ 2) 102 0 1 (ρ 23) := c3
  have c4 : γ 4 = rUp (γ 3) 102 0 2 (ρ 24) := c4
  have c5 : γ 5 = rUp (γ 4) 102 0 3 (ρ 25) := c5
  have c6 : ∀ (G : Nat) (k j : Int), ¬ rMdP m40_ G j → γ 6 G k j = γ 5 G k j := c6
  obtain ⟨l0, -⟩ := hl
  have l0 : sn57 [ρ 7, ρ 0, ρ 2, ρ 19, ρ 26, ρ 27, ρ 28, ρ 10, ρ 17] (γ 5) 0 0 (γ 6) := hS57 _ _ _ _ _ l0
  show jn75 [ρ 0, ρ 1, ρ 2, ρ 3, ρ 4, ρ 5, ρ 6, ρ 7, ρ 8, ρ 9, ρ 10, ρ 11, ρ 12, ρ 13, ρ 14] (γ 0) 0 [ρ 0, ρ 1, ρ 2, ρ 3, ρ 4, ρ 5, ρ 6, ρ 7, ρ 8, ρ 9, ρ 10, ρ 11, ρ 12, ρ 13, ρ 14, ρ 15 + 1, ρ 16, ρ 33, ρ 18, ρ 29] (γ 6)
  have hD : en75 (γ 0) (0, [ρ 0, ρ 15], γ 1) = .inl (0, [ρ 0, ρ 15 + 1], γ 6) := by
    unfold en75
    refine (if_pos (show (0 : Nat) = 0 by decide)).trans ?_
    refine (zLet_eq (show _ = γ 1 from rfl)).trans ?_
    refine (zLet_eq (show _ = ρ 0 from rfl)).trans ?_
    refine (zLet_eq (show _ = ρ 15 from rfl)).trans ?_
    refine (zLet_eq m2).trans ?_
    refine (zLet_eq m6).trans ?_
    refine (zLet_eq m15).trans ?_
    refine (zLet_eq m16).trans ?_
    refine (if_neg (show ¬ (ρ 15 ≥ ρ 18) by omega)).trans ?_
    refine (if_neg (show ¬ (ρ 17 ≠ 0) by omega)).trans ?_
    refine (if_pos (show ρ 3 ≤ 2 by omega)).trans ?_
    refine (if_neg (show ¬ (ρ 3 ≠ 1) by omega)).trans ?_
    refine (zLet_eq m19).trans ?_
    refine (zLet_eq m20).trans ?_
    refine (if_neg (show ¬ (0 ≥ ρ 21) by omega)).trans ?_
    refine (zLet_eq m21).trans ?_
    refine (if_neg (show ¬ (ρ 22 ≠ 3) by omega)).trans ?_
    refine (zLet_eq c2.symm).trans ?_
    refine (if_pos (show 1 ≥ ρ 21 by omega)).trans ?_
    refine (zLet_eq m22).trans ?_
    refine (zLet_eq c3.symm).trans ?_
    refine (zLet_eq m23).trans ?_
    refine (zLet_eq c4.symm).trans ?_
    refine (zLet_eq m24).trans ?_
    refine (zLet_eq c5.symm).trans ?_
    refine (zLet_eq (show fn57 [ρ 7, ρ 0] (γ 5) = (0, 0, γ 6) from l0.symm)).trans ?_
    refine (zLet_eq (show _ = γ 6 from rfl)).trans ?_
    rfl
  exact zGoo_ato hJ hD
theorem vn75a0_50 {S : Nat → zSpc} (hS57 : ∀ x g o v gz, S 57 x g o v gz → sn57 x g o v gz) (hS73 : ∀ x g o v gz, S 73 x g o v gz → sn73 x g o v gz) {a : List Int} {g : rHp} : ∀ (ρ : Nat → Int) (γ : Nat → rHp), jn75 a g 0 (zAg (zNA a75_ 0) ρ) (γ 1) → zO 15 S a g q75a0_50 ρ γ → zGl (fun i vs g1 => jn75 a g i vs g1) (sn75 a g) q75a0_50 ρ γ := by
  intro ρ γ hJ h
  obtain ⟨ha, hg, hr, hf, hm, hc, hl⟩ := h
  have ha : a = [ρ 0, ρ 1, ρ 2, ρ 3, ρ 4, ρ 5, ρ 6, ρ 7, ρ 8, ρ 9, ρ 10, ρ 11, ρ 12, ρ 13, ρ 14] := ha
  subst ha
  subst hg
  have hJ : jn75 [ρ 0, ρ 1, ρ 2, ρ 3, ρ 4, ρ 5, ρ 6, ρ 7, ρ 8, ρ 9, ρ 10, ρ 11, ρ 12, ρ 13, ρ 14] (γ 0) 0 [ρ 0, ρ 1, ρ 2, ρ 3, ρ 4, ρ 5, ρ 6, ρ 7, ρ 8, ρ 9, ρ 10, ρ 11, ρ 12, ρ 13, ρ 14, ρ 15, ρ 16, ρ 17, ρ 18, ρ 19] (γ 1) := hJ
  obtain ⟨r0, r1, r2, r3, r4, r5, r6, r7, r8, r9, r10, r11, r12, r13, r14, r15, r16, r17, r18, r19, r20, r21, r22, r23, r24, r25, r26, r27, r28, r29, r30, r31, r32, r33, r34, -⟩ := hr
  have r0 : (0 : Int) ≤ ρ 0 ∧ ρ 0 ≤ 59 := r0
  have r1 : (0 : Int) ≤ ρ 1 ∧ ρ 1 ≤ 60 := r1
  have r2 : (0 : Int) ≤ ρ 2 ∧ ρ 2 ≤ 20 := r2
  have r3 : (1 : Int) ≤ ρ 3 ∧ ρ 3 ≤ 1 := r3
  have r4 : (0 : Int) ≤ ρ 4 ∧ ρ 4 ≤ 50001 := r4
  have r5 : (0 : Int) ≤ ρ 5 ∧ ρ 5 ≤ 3 := r5
  have r6 : (0 : Int) ≤ ρ 6 ∧ ρ 6 ≤ 2000 := r6
  have r7 : (0 : Int) ≤ ρ 7 ∧ ρ 7 ≤ 19 := r7
  have r8 : (0 : Int) ≤ ρ 8 ∧ ρ 8 ≤ 61 := r8
  have r9 : (0 : Int) ≤ ρ 9 ∧ ρ 9 ≤ 2000 := r9
  have r10 : ((-2147483648) : Int) ≤ ρ 10 ∧ ρ 10 ≤ 2147483647 := r10
  have r11 : (0 : Int) ≤ ρ 11 ∧ ρ 11 ≤ 2000 := r11
  have r12 : (0 : Int) ≤ ρ 12 ∧ ρ 12 ≤ 2000 := r12
  have r13 : (0 : Int) ≤ ρ 13 ∧ ρ 13 ≤ 2000 := r13
  have r14 : (0 : Int) ≤ ρ 14 ∧ ρ 14 ≤ 50001 := r14
  have r15 : (0 : Int) ≤ ρ 15 ∧ ρ 15 ≤ 2000 := r15
  have r16 : (0 : Int) ≤ ρ 16 ∧ ρ 16 ≤ 50001 := r16
  have r17 : (0 : Int) ≤ ρ 17 ∧ ρ 17 ≤ 0 := r17
  have r18 : (0 : Int) ≤ ρ 18 ∧ ρ 18 ≤ 2000 := r18
  have r19 : (0 : Int) ≤ ρ 19 ∧ ρ 19 ≤ 2000 := r19
  have r20 : ((-2147483648) : Int) ≤ ρ 20 ∧ ρ 20 ≤ 2147483647 := r20
  have r21 : (2 : Int) ≤ ρ 21 ∧ ρ 21 ≤ 2 := r21
  have r22 : (3 : Int) ≤ ρ 22 ∧ ρ 22 ≤ 3 := r22
  have r23 : (0 : Int) ≤ ρ 23 ∧ ρ 23 ≤ 2 := r23
  have r24 : ((-2147483648) : Int) ≤ ρ 24 ∧ ρ 24 ≤ 1099511640064 := r24
  have r25 : ((-2147483648) : Int) ≤ ρ 25 ∧ ρ 25 ≤ 1099511640064 := r25
  have r26 : ((-2147483648) : Int) ≤ ρ 26 ∧ ρ 26 ≤ 1099511640064 := r26
  have r27 : (0 : Int) ≤ ρ 27 ∧ ρ 27 ≤ 8 := r27
  have r28 : ((-1) : Int) ≤ ρ 28 ∧ ρ 28 ≤ 1999 := r28
  have r29 : (0 : Int) ≤ ρ 29 ∧ ρ 29 ≤ 1999 := r29
  have r30 : (1 : Int) ≤ ρ 30 ∧ ρ 30 ≤ 2000 := r30
  have r31 : (0 : Int) ≤ ρ 31 ∧ ρ 31 ≤ 8 := r31
  have r32 : ((-1) : Int) ≤ ρ 32 ∧ ρ 32 ≤ 1999 := r32
  have r33 : (0 : Int) ≤ ρ 33 ∧ ρ 33 ≤ 1999 := r33
  have r34 : (0 : Int) ≤ ρ 34 ∧ ρ 34 ≤ 3 := r34
  obtain ⟨f0, f1, f2, f3, f4, f5, f6, f7, f8, f9, -⟩ := hf
  have f0 : (0 : Int) ≤ -ρ 7 + ρ 2 + (-1) := f0
  have f1 : (0 : Int) ≤ ρ 30 + -ρ 19 := f1
  have f2 : (0 : Int) ≤ ρ 32 + -ρ 28 := f2
  have f3 : (0 : Int) ≤ ρ 18 + -ρ 15 + (-1) := f3
  have f4 : (0 : Int) ≤ ρ 17 + -ρ 16 + 50000 := f4
  have f5 : (0 : Int) ≤ ρ 1 + -ρ 0 + (-1) := f5
  have f6 : (0 : Int) ≤ ρ 19 + -ρ 9 := f6
  have f7 : (0 : Int) ≤ ρ 18 + -ρ 15 := f7
  have f8 : (0 : Int) ≤ ρ 17 + -ρ 5 := f8
  have f9 : (0 : Int) ≤ ρ 16 + -ρ 4 := f9
  obtain ⟨m0, m1, m2, m3, m4, m5, m6, m7, m8, m9, m10, m11, m12, m13, m14, m15, m16, m17, m18, m19, m20, m21, m22, m23, m24, m25, m26, m27, m28, m29, m30, m31, m32, m33, -⟩ := hm
  have m0 : γ 0 15 0 32 = ρ 1 := m0
  have m1 : γ 0 15 0 13 = ρ 2 := m1
  have m2 : γ 0 71 0 (ρ 0) = ρ 3 := m2
  have m3 : γ 0 15 0 72 = ρ 4 := m3
  have m4 : γ 0 15 0 77 = ρ 5 := m4
  have m5 : γ 0 15 0 90 = ρ 6 := m5
  have m6 : γ 0 69 0 (ρ 0) = ρ 7 := m6
  have m7 : γ 0 15 0 44 = ρ 8 := m7
  have m8 : γ 0 15 0 71 = ρ 9 := m8
  have m9 : γ 0 15 0 76 = ρ 10 := m9
  have m10 : γ 0 15 0 81 = ρ 11 := m10
  have m11 : γ 0 15 0 82 = ρ 12 := m11
  have m12 : γ 0 15 0 83 = ρ 13 := m12
  have m13 : γ 0 15 0 94 = ρ 14 := m13
  have m14 : γ 1 15 0 72 = ρ 16 := m14
  have m15 : γ 1 15 0 77 = ρ 17 := m15
  have m16 : γ 1 15 0 90 = ρ 18 := m16
  have m17 : γ 1 15 0 71 = ρ 19 := m17
  have m18 : γ 1 15 0 81 = ρ 9 := m18
  have m19 : γ 1 106 0 (ρ 15) = ρ 20 := m19
  have m20 : γ 0 66 0 (ρ 7) = ρ 21 := m20
  have m21 : γ 0 70 0 (4 * ρ 0) = ρ 22 := m21
  have m22 : γ 0 70 0 (4 * ρ 0 + 1) = ρ 23 := m22
  have m23 : γ 1 105 0 (4 * ρ 15 + 1) = ρ 24 := m23
  have m24 : γ 1 105 0 (4 * ρ 15 + 2) = ρ 25 := m24
  have m25 : γ 1 105 0 (4 * ρ 15 + 3) = ρ 26 := m25
  have m26 : γ 1 97 0 (ρ 19) = ρ 27 := m26
  have m27 : γ 1 100 0 (ρ 7) = ρ 28 := m27
  have m28 : γ 1 101 0 (ρ 7) = ρ 29 := m28
  have m29 : γ 6 15 0 71 = ρ 30 := m29
  have m30 : γ 6 97 0 (ρ 19) = ρ 31 := m30
  have m31 : γ 6 100 0 (ρ 7) = ρ 32 := m31
  have m32 : γ 6 101 0 (ρ 7) = ρ 33 := m32
  have m33 : γ 6 15 0 77 = ρ 34 := m33
  obtain ⟨⟨⟨⟨⟨⟨-, c1⟩, c2⟩, c3⟩, c4⟩, c5⟩, c6⟩ := hc
  have c1 : ∀ (G : Nat) (k j : Int), ¬ rMdP m51_ G j → γ 1 G k j = γ 0 G k j := c1
  have c2 : γ 2 = rUp (γ 1) 102 0 0 (ρ 20) := c2
  have c3 : γ 3 = rUp (γ 2) 102 0 1 (ρ 24) := c3
  have c4 : γ 4 = rUp (γ 3) 102 0 2 (ρ 25) := c4
  have c5 : γ 5 = rUp (γ 4) 102 0 3 (ρ 26) := c5
  have c6 : ∀ (G : Nat) (k j : Int), ¬ rMdP m40_ G j → γ 6 G k j = γ 5 G k j := c6
  obtain ⟨l0, -⟩ := hl
  have l0 : sn57 [ρ 7, ρ 0, ρ 2, ρ 19, ρ 27, ρ 28, ρ 29, ρ 10, ρ 17] (γ 5) 0 0 (γ 6) := hS57 _ _ _ _ _ l0
  show jn75 [ρ 0, ρ 1, ρ 2, ρ 3, ρ 4, ρ 5, ρ 6, ρ 7, ρ 8, ρ 9, ρ 10, ρ 11, ρ 12, ρ 13, ρ 14] (γ 0) 0 [ρ 0, ρ 1, ρ 2, ρ 3, ρ 4, ρ 5, ρ 6, ρ 7, ρ 8, ρ 9, ρ 10, ρ 11, ρ 12, ρ 13, ρ 14, ρ 15 + 1, ρ 16, ρ 34, ρ 18, ρ 30] (γ 6)
  have hD : en75 (γ 0) (0, [ρ 0, ρ 15], γ 1) = .inl (0, [ρ 0, ρ 15 + 1], γ 6) := by
    unfold en75
    refine (if_pos (show (0 : Nat) = 0 by decide)).trans ?_
    refine (zLet_eq (show _ = γ 1 from rfl)).trans ?_
    refine (zLet_eq (show _ = ρ 0 from rfl)).trans ?_
    refine (zLet_eq (show _ = ρ 15 from rfl)).trans ?_
    refine (zLet_eq m2).trans ?_
    refine (zLet_eq m6).trans ?_
    refine (zLet_eq m15).trans ?_
    refine (zLet_eq m16).trans ?_
    refine (if_neg (show ¬ (ρ 15 ≥ ρ 18) by omega)).trans ?_
    refine (if_neg (show ¬ (ρ 17 ≠ 0) by omega)).trans ?_
    refine (if_pos (show ρ 3 ≤ 2 by omega)).trans ?_
    refine (if_neg (show ¬ (ρ 3 ≠ 1) by omega)).trans ?_
    refine (zLet_eq m19).trans ?_
    refine (zLet_eq m20).trans ?_
    refine (if_neg (show ¬ (0 ≥ ρ 21) by omega)).trans ?_
    refine (zLet_eq m21).trans ?_
    refine (if_neg (show ¬ (ρ 22 ≠ 3) by omega)).trans ?_
    refine (zLet_eq c2.symm).trans ?_
    refine (if_neg (show ¬ (1 ≥ ρ 21) by omega)).trans ?_
    refine (zLet_eq m22).trans ?_
    refine (if_pos (show ρ 23 ≠ 3 by omega)).trans ?_
    refine (zLet_eq m23).trans ?_
    refine (zLet_eq c3.symm).trans ?_
    refine (if_pos (show 2 ≥ ρ 21 by omega)).trans ?_
    refine (zLet_eq m24).trans ?_
    refine (zLet_eq c4.symm).trans ?_
    refine (zLet_eq m25).trans ?_
    refine (zLet_eq c5.symm).trans ?_
    refine (zLet_eq (show fn57 [ρ 7, ρ 0] (γ 5) = (0, 0, γ 6) from l0.symm)).trans ?_
    refine (zLet_eq (show _ = γ 6 from rfl)).trans ?_
    rfl
  exact zGoo_ato hJ hD
theorem vn75a0_51 {S : Nat → zSpc} (hS57 : ∀ x g o v gz, S 57 x g o v gz → sn57 x g o v gz) (hS73 : ∀ x g o v gz, S 73 x g o v gz → sn73 x g o v gz) {a : List Int} {g : rHp} : ∀ (ρ : Nat → Int) (γ : Nat → rHp), jn75 a g 0 (zAg (zNA a75_ 0) ρ) (γ 1) → zO 15 S a g q75a0_51 ρ γ → zGl (fun i vs g1 => jn75 a g i vs g1) (sn75 a g) q75a0_51 ρ γ := by
  intro ρ γ hJ h
  obtain ⟨ha, hg, hr, hf, hm, hc, hl⟩ := h
  have ha : a = [ρ 0, ρ 1, ρ 2, ρ 3, ρ 4, ρ 5, ρ 6, ρ 7, ρ 8, ρ 9, ρ 10, ρ 11, ρ 12, ρ 13, ρ 14] := ha
  subst ha
  subst hg
  have hJ : jn75 [ρ 0, ρ 1, ρ 2, ρ 3, ρ 4, ρ 5, ρ 6, ρ 7, ρ 8, ρ 9, ρ 10, ρ 11, ρ 12, ρ 13, ρ 14] (γ 0) 0 [ρ 0, ρ 1, ρ 2, ρ 3, ρ 4, ρ 5, ρ 6, ρ 7, ρ 8, ρ 9, ρ 10, ρ 11, ρ 12, ρ 13, ρ 14, ρ 15, ρ 16, ρ 17, ρ 18, ρ 19] (γ 1) := hJ
  obtain ⟨r0, r1, r2, r3, r4, r5, r6, r7, r8, r9, r10, r11, r12, r13, r14, r15, r16, r17, r18, r19, r20, r21, r22, r23, r24, r25, r26, r27, r28, r29, r30, r31, r32, r33, r34, r35, -⟩ := hr
  have r0 : (0 : Int) ≤ ρ 0 ∧ ρ 0 ≤ 59 := r0
  have r1 : (0 : Int) ≤ ρ 1 ∧ ρ 1 ≤ 60 := r1
  have r2 : (0 : Int) ≤ ρ 2 ∧ ρ 2 ≤ 20 := r2
  have r3 : (1 : Int) ≤ ρ 3 ∧ ρ 3 ≤ 1 := r3
  have r4 : (0 : Int) ≤ ρ 4 ∧ ρ 4 ≤ 50001 := r4
  have r5 : (0 : Int) ≤ ρ 5 ∧ ρ 5 ≤ 3 := r5
  have r6 : (0 : Int) ≤ ρ 6 ∧ ρ 6 ≤ 2000 := r6
  have r7 : (0 : Int) ≤ ρ 7 ∧ ρ 7 ≤ 19 := r7
  have r8 : (0 : Int) ≤ ρ 8 ∧ ρ 8 ≤ 61 := r8
  have r9 : (0 : Int) ≤ ρ 9 ∧ ρ 9 ≤ 2000 := r9
  have r10 : ((-2147483648) : Int) ≤ ρ 10 ∧ ρ 10 ≤ 2147483647 := r10
  have r11 : (0 : Int) ≤ ρ 11 ∧ ρ 11 ≤ 2000 := r11
  have r12 : (0 : Int) ≤ ρ 12 ∧ ρ 12 ≤ 2000 := r12
  have r13 : (0 : Int) ≤ ρ 13 ∧ ρ 13 ≤ 2000 := r13
  have r14 : (0 : Int) ≤ ρ 14 ∧ ρ 14 ≤ 50001 := r14
  have r15 : (0 : Int) ≤ ρ 15 ∧ ρ 15 ≤ 2000 := r15
  have r16 : (0 : Int) ≤ ρ 16 ∧ ρ 16 ≤ 50001 := r16
  have r17 : (0 : Int) ≤ ρ 17 ∧ ρ 17 ≤ 0 := r17
  have r18 : (0 : Int) ≤ ρ 18 ∧ ρ 18 ≤ 2000 := r18
  have r19 : (0 : Int) ≤ ρ 19 ∧ ρ 19 ≤ 2000 := r19
  have r20 : ((-2147483648) : Int) ≤ ρ 20 ∧ ρ 20 ≤ 2147483647 := r20
  have r21 : (3 : Int) ≤ ρ 21 ∧ ρ 21 ≤ 3 := r21
  have r22 : (3 : Int) ≤ ρ 22 ∧ ρ 22 ≤ 3 := r22
  have r23 : (0 : Int) ≤ ρ 23 ∧ ρ 23 ≤ 2 := r23
  have r24 : ((-2147483648) : Int) ≤ ρ 24 ∧ ρ 24 ≤ 1099511640064 := r24
  have r25 : (0 : Int) ≤ ρ 25 ∧ ρ 25 ≤ 2 := r25
  have r26 : ((-2147483648) : Int) ≤ ρ 26 ∧ ρ 26 ≤ 1099511640064 := r26
  have r27 : ((-2147483648) : Int) ≤ ρ 27 ∧ ρ 27 ≤ 1099511640064 := r27
  have r28 : (0 : Int) ≤ ρ 28 ∧ ρ 28 ≤ 8 := r28
  have r29 : ((-1) : Int) ≤ ρ 29 ∧ ρ 29 ≤ 1999 := r29
  have r30 : (0 : Int) ≤ ρ 30 ∧ ρ 30 ≤ 1999 := r30
  have r31 : (1 : Int) ≤ ρ 31 ∧ ρ 31 ≤ 2000 := r31
  have r32 : (0 : Int) ≤ ρ 32 ∧ ρ 32 ≤ 8 := r32
  have r33 : ((-1) : Int) ≤ ρ 33 ∧ ρ 33 ≤ 1999 := r33
  have r34 : (0 : Int) ≤ ρ 34 ∧ ρ 34 ≤ 1999 := r34
  have r35 : (0 : Int) ≤ ρ 35 ∧ ρ 35 ≤ 3 := r35
  obtain ⟨f0, f1, f2, f3, f4, f5, f6, f7, f8, f9, -⟩ := hf
  have f0 : (0 : Int) ≤ -ρ 7 + ρ 2 + (-1) := f0
  have f1 : (0 : Int) ≤ ρ 31 + -ρ 19 := f1
  have f2 : (0 : Int) ≤ ρ 33 + -ρ 29 := f2
  have f3 : (0 : Int) ≤ ρ 18 + -ρ 15 + (-1) := f3
  have f4 : (0 : Int) ≤ ρ 17 + -ρ 16 + 50000 := f4
  have f5 : (0 : Int) ≤ ρ 1 + -ρ 0 + (-1) := f5
  have f6 : (0 : Int) ≤ ρ 19 + -ρ 9 := f6
  have f7 : (0 : Int) ≤ ρ 18 + -ρ 15 := f7
  have f8 : (0 : Int) ≤ ρ 17 + -ρ 5 := f8
  have f9 : (0 : Int) ≤ ρ 16 + -ρ 4 := f9
  obtain ⟨m0, m1, m2, m3, m4, m5, m6, m7, m8, m9, m10, m11, m12, m13, m14, m15, m16, m17, m18, m19, m20, m21, m22, m23, m24, m25, m26, m27, m28, m29, m30, m31, m32, m33, m34, -⟩ := hm
  have m0 : γ 0 15 0 32 = ρ 1 := m0
  have m1 : γ 0 15 0 13 = ρ 2 := m1
  have m2 : γ 0 71 0 (ρ 0) = ρ 3 := m2
  have m3 : γ 0 15 0 72 = ρ 4 := m3
  have m4 : γ 0 15 0 77 = ρ 5 := m4
  have m5 : γ 0 15 0 90 = ρ 6 := m5
  have m6 : γ 0 69 0 (ρ 0) = ρ 7 := m6
  have m7 : γ 0 15 0 44 = ρ 8 := m7
  have m8 : γ 0 15 0 71 = ρ 9 := m8
  have m9 : γ 0 15 0 76 = ρ 10 := m9
  have m10 : γ 0 15 0 81 = ρ 11 := m10
  have m11 : γ 0 15 0 82 = ρ 12 := m11
  have m12 : γ 0 15 0 83 = ρ 13 := m12
  have m13 : γ 0 15 0 94 = ρ 14 := m13
  have m14 : γ 1 15 0 72 = ρ 16 := m14
  have m15 : γ 1 15 0 77 = ρ 17 := m15
  have m16 : γ 1 15 0 90 = ρ 18 := m16
  have m17 : γ 1 15 0 71 = ρ 19 := m17
  have m18 : γ 1 15 0 81 = ρ 9 := m18
  have m19 : γ 1 106 0 (ρ 15) = ρ 20 := m19
  have m20 : γ 0 66 0 (ρ 7) = ρ 21 := m20
  have m21 : γ 0 70 0 (4 * ρ 0) = ρ 22 := m21
  have m22 : γ 0 70 0 (4 * ρ 0 + 1) = ρ 23 := m22
  have m23 : γ 1 105 0 (4 * ρ 15 + 1) = ρ 24 := m23
  have m24 : γ 0 70 0 (4 * ρ 0 + 2) = ρ 25 := m24
  have m25 : γ 1 105 0 (4 * ρ 15 + 2) = ρ 26 := m25
  have m26 : γ 1 105 0 (4 * ρ 15 + 3) = ρ 27 := m26
  have m27 : γ 1 97 0 (ρ 19) = ρ 28 := m27
  have m28 : γ 1 100 0 (ρ 7) = ρ 29 := m28
  have m29 : γ 1 101 0 (ρ 7) = ρ 30 := m29
  have m30 : γ 6 15 0 71 = ρ 31 := m30
  have m31 : γ 6 97 0 (ρ 19) = ρ 32 := m31
  have m32 : γ 6 100 0 (ρ 7) = ρ 33 := m32
  have m33 : γ 6 101 0 (ρ 7) = ρ 34 := m33
  have m34 : γ 6 15 0 77 = ρ 35 := m34
  obtain ⟨⟨⟨⟨⟨⟨-, c1⟩, c2⟩, c3⟩, c4⟩, c5⟩, c6⟩ := hc
  have c1 : ∀ (G : Nat) (k j : Int), ¬ rMdP m51_ G j → γ 1 G k j = γ 0 G k j := c1
  have c2 : γ 2 = rUp (γ 1) 102 0 0 (ρ 20) := c2
  have c3 : γ 3 = rUp (γ 2) 102 0 1 (ρ 24) := c3
  have c4 : γ 4 = rUp (γ 3) 102 0 2 (ρ 26) := c4
  have c5 : γ 5 = rUp (γ 4) 102 0 3 (ρ 27) := c5
  have c6 : ∀ (G : Nat) (k j : Int), ¬ rMdP m40_ G j → γ 6 G k j = γ 5 G k j := c6
  obtain ⟨l0, -⟩ := hl
  have l0 : sn57 [ρ 7, ρ 0, ρ 2, ρ 19, ρ 28, ρ 29, ρ 30, ρ 10, ρ 17] (γ 5) 0 0 (γ 6) := hS57 _ _ _ _ _ l0
  show jn75 [ρ 0, ρ 1, ρ 2, ρ 3, ρ 4, ρ 5, ρ 6, ρ 7, ρ 8, ρ 9, ρ 10, ρ 11, ρ 12, ρ 13, ρ 14] (γ 0) 0 [ρ 0, ρ 1, ρ 2, ρ 3, ρ 4, ρ 5, ρ 6, ρ 7, ρ 8, ρ 9, ρ 10, ρ 11, ρ 12, ρ 13, ρ 14, ρ 15 + 1, ρ 16, ρ 35, ρ 18, ρ 31] (γ 6)
  have hD : en75 (γ 0) (0, [ρ 0, ρ 15], γ 1) = .inl (0, [ρ 0, ρ 15 + 1], γ 6) := by
    unfold en75
    refine (if_pos (show (0 : Nat) = 0 by decide)).trans ?_
    refine (zLet_eq (show _ = γ 1 from rfl)).trans ?_
    refine (zLet_eq (show _ = ρ 0 from rfl)).trans ?_
    refine (zLet_eq (show _ = ρ 15 from rfl)).trans ?_
    refine (zLet_eq m2).trans ?_
    refine (zLet_eq m6).trans ?_
    refine (zLet_eq m15).trans ?_
    refine (zLet_eq m16).trans ?_
    refine (if_neg (show ¬ (ρ 15 ≥ ρ 18) by omega)).trans ?_
    refine (if_neg (show ¬ (ρ 17 ≠ 0) by omega)).trans ?_
    refine (if_pos (show ρ 3 ≤ 2 by omega)).trans ?_
    refine (if_neg (show ¬ (ρ 3 ≠ 1) by omega)).trans ?_
    refine (zLet_eq m19).trans ?_
    refine (zLet_eq m20).trans ?_
    refine (if_neg (show ¬ (0 ≥ ρ 21) by omega)).trans ?_
    refine (zLet_eq m21).trans ?_
    refine (if_neg (show ¬ (ρ 22 ≠ 3) by omega)).trans ?_
    refine (zLet_eq c2.symm).trans ?_
    refine (if_neg (show ¬ (1 ≥ ρ 21) by omega)).trans ?_
    refine (zLet_eq m22).trans ?_
    refine (if_pos (show ρ 23 ≠ 3 by omega)).trans ?_
    refine (zLet_eq m23).trans ?_
    refine (zLet_eq c3.symm).trans ?_
    refine (if_neg (show ¬ (2 ≥ ρ 21) by omega)).trans ?_
    refine (zLet_eq m24).trans ?_
    refine (if_pos (show ρ 25 ≠ 3 by omega)).trans ?_
    refine (zLet_eq m25).trans ?_
    refine (zLet_eq c4.symm).trans ?_
    refine (if_pos (show 3 ≥ ρ 21 by omega)).trans ?_
    refine (zLet_eq m26).trans ?_
    refine (zLet_eq c5.symm).trans ?_
    refine (zLet_eq (show fn57 [ρ 7, ρ 0] (γ 5) = (0, 0, γ 6) from l0.symm)).trans ?_
    refine (zLet_eq (show _ = γ 6 from rfl)).trans ?_
    rfl
  exact zGoo_ato hJ hD
theorem vn75a0_52 {S : Nat → zSpc} (hS57 : ∀ x g o v gz, S 57 x g o v gz → sn57 x g o v gz) (hS73 : ∀ x g o v gz, S 73 x g o v gz → sn73 x g o v gz) {a : List Int} {g : rHp} : ∀ (ρ : Nat → Int) (γ : Nat → rHp), jn75 a g 0 (zAg (zNA a75_ 0) ρ) (γ 1) → zO 15 S a g q75a0_52 ρ γ → zGl (fun i vs g1 => jn75 a g i vs g1) (sn75 a g) q75a0_52 ρ γ := by
  intro ρ γ hJ h
  obtain ⟨ha, hg, hr, hf, hm, hc, hl⟩ := h
  have ha : a = [ρ 0, ρ 1, ρ 2, ρ 3, ρ 4, ρ 5, ρ 6, ρ 7, ρ 8, ρ 9, ρ 10, ρ 11, ρ 12, ρ 13, ρ 14] := ha
  subst ha
  subst hg
  have hJ : jn75 [ρ 0, ρ 1, ρ 2, ρ 3, ρ 4, ρ 5, ρ 6, ρ 7, ρ 8, ρ 9, ρ 10, ρ 11, ρ 12, ρ 13, ρ 14] (γ 0) 0 [ρ 0, ρ 1, ρ 2, ρ 3, ρ 4, ρ 5, ρ 6, ρ 7, ρ 8, ρ 9, ρ 10, ρ 11, ρ 12, ρ 13, ρ 14, ρ 15, ρ 16, ρ 17, ρ 18, ρ 19] (γ 1) := hJ
  obtain ⟨r0, r1, r2, r3, r4, r5, r6, r7, r8, r9, r10, r11, r12, r13, r14, r15, r16, r17, r18, r19, r20, r21, r22, r23, r24, r25, r26, r27, r28, r29, r30, r31, r32, r33, r34, r35, r36, -⟩ := hr
  have r0 : (0 : Int) ≤ ρ 0 ∧ ρ 0 ≤ 59 := r0
  have r1 : (0 : Int) ≤ ρ 1 ∧ ρ 1 ≤ 60 := r1
  have r2 : (0 : Int) ≤ ρ 2 ∧ ρ 2 ≤ 20 := r2
  have r3 : (1 : Int) ≤ ρ 3 ∧ ρ 3 ≤ 1 := r3
  have r4 : (0 : Int) ≤ ρ 4 ∧ ρ 4 ≤ 50001 := r4
  have r5 : (0 : Int) ≤ ρ 5 ∧ ρ 5 ≤ 3 := r5
  have r6 : (0 : Int) ≤ ρ 6 ∧ ρ 6 ≤ 2000 := r6
  have r7 : (0 : Int) ≤ ρ 7 ∧ ρ 7 ≤ 19 := r7
  have r8 : (0 : Int) ≤ ρ 8 ∧ ρ 8 ≤ 61 := r8
  have r9 : (0 : Int) ≤ ρ 9 ∧ ρ 9 ≤ 2000 := r9
  have r10 : ((-2147483648) : Int) ≤ ρ 10 ∧ ρ 10 ≤ 2147483647 := r10
  have r11 : (0 : Int) ≤ ρ 11 ∧ ρ 11 ≤ 2000 := r11
  have r12 : (0 : Int) ≤ ρ 12 ∧ ρ 12 ≤ 2000 := r12
  have r13 : (0 : Int) ≤ ρ 13 ∧ ρ 13 ≤ 2000 := r13
  have r14 : (0 : Int) ≤ ρ 14 ∧ ρ 14 ≤ 50001 := r14
  have r15 : (0 : Int) ≤ ρ 15 ∧ ρ 15 ≤ 2000 := r15
  have r16 : (0 : Int) ≤ ρ 16 ∧ ρ 16 ≤ 50001 := r16
  have r17 : (0 : Int) ≤ ρ 17 ∧ ρ 17 ≤ 0 := r17
  have r18 : (0 : Int) ≤ ρ 18 ∧ ρ 18 ≤ 2000 := r18
  have r19 : (0 : Int) ≤ ρ 19 ∧ ρ 19 ≤ 2000 := r19
  have r20 : ((-2147483648) : Int) ≤ ρ 20 ∧ ρ 20 ≤ 2147483647 := r20
  have r21 : (4 : Int) ≤ ρ 21 ∧ ρ 21 ≤ 4 := r21
  have r22 : (3 : Int) ≤ ρ 22 ∧ ρ 22 ≤ 3 := r22
  have r23 : (0 : Int) ≤ ρ 23 ∧ ρ 23 ≤ 2 := r23
  have r24 : ((-2147483648) : Int) ≤ ρ 24 ∧ ρ 24 ≤ 1099511640064 := r24
  have r25 : (0 : Int) ≤ ρ 25 ∧ ρ 25 ≤ 2 := r25
  have r26 : ((-2147483648) : Int) ≤ ρ 26 ∧ ρ 26 ≤ 1099511640064 := r26
  have r27 : (0 : Int) ≤ ρ 27 ∧ ρ 27 ≤ 2 := r27
  have r28 : ((-2147483648) : Int) ≤ ρ 28 ∧ ρ 28 ≤ 1099511640064 := r28
  have r29 : (0 : Int) ≤ ρ 29 ∧ ρ 29 ≤ 8 := r29
  have r30 : ((-1) : Int) ≤ ρ 30 ∧ ρ 30 ≤ 1999 := r30
  have r31 : (0 : Int) ≤ ρ 31 ∧ ρ 31 ≤ 1999 := r31
  have r32 : (1 : Int) ≤ ρ 32 ∧ ρ 32 ≤ 2000 := r32
  have r33 : (0 : Int) ≤ ρ 33 ∧ ρ 33 ≤ 8 := r33
  have r34 : ((-1) : Int) ≤ ρ 34 ∧ ρ 34 ≤ 1999 := r34
  have r35 : (0 : Int) ≤ ρ 35 ∧ ρ 35 ≤ 1999 := r35
  have r36 : (0 : Int) ≤ ρ 36 ∧ ρ 36 ≤ 3 := r36
  obtain ⟨f0, f1, f2, f3, f4, f5, f6, f7, f8, f9, -⟩ := hf
  have f0 : (0 : Int) ≤ -ρ 7 + ρ 2 + (-1) := f0
  have f1 : (0 : Int) ≤ ρ 32 + -ρ 19 := f1
  have f2 : (0 : Int) ≤ ρ 34 + -ρ 30 := f2
  have f3 : (0 : Int) ≤ ρ 18 + -ρ 15 + (-1) := f3
  have f4 : (0 : Int) ≤ ρ 17 + -ρ 16 + 50000 := f4
  have f5 : (0 : Int) ≤ ρ 1 + -ρ 0 + (-1) := f5
  have f6 : (0 : Int) ≤ ρ 19 + -ρ 9 := f6
  have f7 : (0 : Int) ≤ ρ 18 + -ρ 15 := f7
  have f8 : (0 : Int) ≤ ρ 17 + -ρ 5 := f8
  have f9 : (0 : Int) ≤ ρ 16 + -ρ 4 := f9
  obtain ⟨m0, m1, m2, m3, m4, m5, m6, m7, m8, m9, m10, m11, m12, m13, m14, m15, m16, m17, m18, m19, m20, m21, m22, m23, m24, m25, m26, m27, m28, m29, m30, m31, m32, m33, m34, m35, -⟩ := hm
  have m0 : γ 0 15 0 32 = ρ 1 := m0
  have m1 : γ 0 15 0 13 = ρ 2 := m1
  have m2 : γ 0 71 0 (ρ 0) = ρ 3 := m2
  have m3 : γ 0 15 0 72 = ρ 4 := m3
  have m4 : γ 0 15 0 77 = ρ 5 := m4
  have m5 : γ 0 15 0 90 = ρ 6 := m5
  have m6 : γ 0 69 0 (ρ 0) = ρ 7 := m6
  have m7 : γ 0 15 0 44 = ρ 8 := m7
  have m8 : γ 0 15 0 71 = ρ 9 := m8
  have m9 : γ 0 15 0 76 = ρ 10 := m9
  have m10 : γ 0 15 0 81 = ρ 11 := m10
  have m11 : γ 0 15 0 82 = ρ 12 := m11
  have m12 : γ 0 15 0 83 = ρ 13 := m12
  have m13 : γ 0 15 0 94 = ρ 14 := m13
  have m14 : γ 1 15 0 72 = ρ 16 := m14
  have m15 : γ 1 15 0 77 = ρ 17 := m15
  have m16 : γ 1 15 0 90 = ρ 18 := m16
  have m17 : γ 1 15 0 71 = ρ 19 := m17
  have m18 : γ 1 15 0 81 = ρ 9 := m18
  have m19 : γ 1 106 0 (ρ 15) = ρ 20 := m19
  have m20 : γ 0 66 0 (ρ 7) = ρ 21 := m20
  have m21 : γ 0 70 0 (4 * ρ 0) = ρ 22 := m21
  have m22 : γ 0 70 0 (4 * ρ 0 + 1) = ρ 23 := m22
  have m23 : γ 1 105 0 (4 * ρ 15 + 1) = ρ 24 := m23
  have m24 : γ 0 70 0 (4 * ρ 0 + 2) = ρ 25 := m24
  have m25 : γ 1 105 0 (4 * ρ 15 + 2) = ρ 26 := m25
  have m26 : γ 0 70 0 (4 * ρ 0 + 3) = ρ 27 := m26
  have m27 : γ 1 105 0 (4 * ρ 15 + 3) = ρ 28 := m27
  have m28 : γ 1 97 0 (ρ 19) = ρ 29 := m28
  have m29 : γ 1 100 0 (ρ 7) = ρ 30 := m29
  have m30 : γ 1 101 0 (ρ 7) = ρ 31 := m30
  have m31 : γ 6 15 0 71 = ρ 32 := m31
  have m32 : γ 6 97 0 (ρ 19) = ρ 33 := m32
  have m33 : γ 6 100 0 (ρ 7) = ρ 34 := m33
  have m34 : γ 6 101 0 (ρ 7) = ρ 35 := m34
  have m35 : γ 6 15 0 77 = ρ 36 := m35
  obtain ⟨⟨⟨⟨⟨⟨-, c1⟩, c2⟩, c3⟩, c4⟩, c5⟩, c6⟩ := hc
  have c1 : ∀ (G : Nat) (k j : Int), ¬ rMdP m51_ G j → γ 1 G k j = γ 0 G k j := c1
  have c2 : γ 2 = rUp (γ 1) 102 0 0 (ρ 20) := c2
  have c3 : γ 3 = rUp (γ 2) 102 0 1 (ρ 24) := c3
  have c4 : γ 4 = rUp (γ 3) 102 0 2 (ρ 26) := c4
  have c5 : γ 5 = rUp (γ 4) 102 0 3 (ρ 28) := c5
  have c6 : ∀ (G : Nat) (k j : Int), ¬ rMdP m40_ G j → γ 6 G k j = γ 5 G k j := c6
  obtain ⟨l0, -⟩ := hl
  have l0 : sn57 [ρ 7, ρ 0, ρ 2, ρ 19, ρ 29, ρ 30, ρ 31, ρ 10, ρ 17] (γ 5) 0 0 (γ 6) := hS57 _ _ _ _ _ l0
  show jn75 [ρ 0, ρ 1, ρ 2, ρ 3, ρ 4, ρ 5, ρ 6, ρ 7, ρ 8, ρ 9, ρ 10, ρ 11, ρ 12, ρ 13, ρ 14] (γ 0) 0 [ρ 0, ρ 1, ρ 2, ρ 3, ρ 4, ρ 5, ρ 6, ρ 7, ρ 8, ρ 9, ρ 10, ρ 11, ρ 12, ρ 13, ρ 14, ρ 15 + 1, ρ 16, ρ 36, ρ 18, ρ 32] (γ 6)
  have hD : en75 (γ 0) (0, [ρ 0, ρ 15], γ 1) = .inl (0, [ρ 0, ρ 15 + 1], γ 6) := by
    unfold en75
    refine (if_pos (show (0 : Nat) = 0 by decide)).trans ?_
    refine (zLet_eq (show _ = γ 1 from rfl)).trans ?_
    refine (zLet_eq (show _ = ρ 0 from rfl)).trans ?_
    refine (zLet_eq (show _ = ρ 15 from rfl)).trans ?_
    refine (zLet_eq m2).trans ?_
    refine (zLet_eq m6).trans ?_
    refine (zLet_eq m15).trans ?_
    refine (zLet_eq m16).trans ?_
    refine (if_neg (show ¬ (ρ 15 ≥ ρ 18) by omega)).trans ?_
    refine (if_neg (show ¬ (ρ 17 ≠ 0) by omega)).trans ?_
    refine (if_pos (show ρ 3 ≤ 2 by omega)).trans ?_
    refine (if_neg (show ¬ (ρ 3 ≠ 1) by omega)).trans ?_
    refine (zLet_eq m19).trans ?_
    refine (zLet_eq m20).trans ?_
    refine (if_neg (show ¬ (0 ≥ ρ 21) by omega)).trans ?_
    refine (zLet_eq m21).trans ?_
    refine (if_neg (show ¬ (ρ 22 ≠ 3) by omega)).trans ?_
    refine (zLet_eq c2.symm).trans ?_
    refine (if_neg (show ¬ (1 ≥ ρ 21) by omega)).trans ?_
    refine (zLet_eq m22).trans ?_
    refine (if_pos (show ρ 23 ≠ 3 by omega)).trans ?_
    refine (zLet_eq m23).trans ?_
    refine (zLet_eq c3.symm).trans ?_
    refine (if_neg (show ¬ (2 ≥ ρ 21) by omega)).trans ?_
    refine (zLet_eq m24).trans ?_
    refine (if_pos (show ρ 25 ≠ 3 by omega)).trans ?_
    refine (zLet_eq m25).trans ?_
    refine (zLet_eq c4.symm).trans ?_
    refine (if_neg (show ¬ (3 ≥ ρ 21) by omega)).trans ?_
    refine (zLet_eq m26).trans ?_
    refine (if_pos (show ρ 27 ≠ 3 by omega)).trans ?_
    refine (zLet_eq m27).trans ?_
    refine (zLet_eq c5.symm).trans ?_
    refine (zLet_eq (show fn57 [ρ 7, ρ 0] (γ 5) = (0, 0, γ 6) from l0.symm)).trans ?_
    refine (zLet_eq (show _ = γ 6 from rfl)).trans ?_
    rfl
  exact zGoo_ato hJ hD
theorem vn75a0_53 {S : Nat → zSpc} (hS57 : ∀ x g o v gz, S 57 x g o v gz → sn57 x g o v gz) (hS73 : ∀ x g o v gz, S 73 x g o v gz → sn73 x g o v gz) {a : List Int} {g : rHp} : ∀ (ρ : Nat → Int) (γ : Nat → rHp), jn75 a g 0 (zAg (zNA a75_ 0) ρ) (γ 1) → zO 15 S a g q75a0_53 ρ γ → zGl (fun i vs g1 => jn75 a g i vs g1) (sn75 a g) q75a0_53 ρ γ := by
  intro ρ γ hJ h
  obtain ⟨ha, hg, hr, hf, hm, hc, hl⟩ := h
  have ha : a = [ρ 0, ρ 1, ρ 2, ρ 3, ρ 4, ρ 5, ρ 6, ρ 7, ρ 8, ρ 9, ρ 10, ρ 11, ρ 12, ρ 13, ρ 14] := ha
  subst ha
  subst hg
  have hJ : jn75 [ρ 0, ρ 1, ρ 2, ρ 3, ρ 4, ρ 5, ρ 6, ρ 7, ρ 8, ρ 9, ρ 10, ρ 11, ρ 12, ρ 13, ρ 14] (γ 0) 0 [ρ 0, ρ 1, ρ 2, ρ 3, ρ 4, ρ 5, ρ 6, ρ 7, ρ 8, ρ 9, ρ 10, ρ 11, ρ 12, ρ 13, ρ 14, ρ 15, ρ 16, ρ 17, ρ 18, ρ 19] (γ 1) := hJ
  obtain ⟨r0, r1, r2, r3, r4, r5, r6, r7, r8, r9, r10, r11, r12, r13, r14, r15, r16, r17, r18, r19, r20, r21, r22, r23, r24, r25, r26, r27, r28, r29, r30, r31, r32, r33, r34, r35, -⟩ := hr
  have r0 : (0 : Int) ≤ ρ 0 ∧ ρ 0 ≤ 59 := r0
  have r1 : (0 : Int) ≤ ρ 1 ∧ ρ 1 ≤ 60 := r1
  have r2 : (0 : Int) ≤ ρ 2 ∧ ρ 2 ≤ 20 := r2
  have r3 : (1 : Int) ≤ ρ 3 ∧ ρ 3 ≤ 1 := r3
  have r4 : (0 : Int) ≤ ρ 4 ∧ ρ 4 ≤ 50001 := r4
  have r5 : (0 : Int) ≤ ρ 5 ∧ ρ 5 ≤ 3 := r5
  have r6 : (0 : Int) ≤ ρ 6 ∧ ρ 6 ≤ 2000 := r6
  have r7 : (0 : Int) ≤ ρ 7 ∧ ρ 7 ≤ 19 := r7
  have r8 : (0 : Int) ≤ ρ 8 ∧ ρ 8 ≤ 61 := r8
  have r9 : (0 : Int) ≤ ρ 9 ∧ ρ 9 ≤ 2000 := r9
  have r10 : ((-2147483648) : Int) ≤ ρ 10 ∧ ρ 10 ≤ 2147483647 := r10
  have r11 : (0 : Int) ≤ ρ 11 ∧ ρ 11 ≤ 2000 := r11
  have r12 : (0 : Int) ≤ ρ 12 ∧ ρ 12 ≤ 2000 := r12
  have r13 : (0 : Int) ≤ ρ 13 ∧ ρ 13 ≤ 2000 := r13
  have r14 : (0 : Int) ≤ ρ 14 ∧ ρ 14 ≤ 50001 := r14
  have r15 : (0 : Int) ≤ ρ 15 ∧ ρ 15 ≤ 2000 := r15
  have r16 : (0 : Int) ≤ ρ 16 ∧ ρ 16 ≤ 50001 := r16
  have r17 : (0 : Int) ≤ ρ 17 ∧ ρ 17 ≤ 0 := r17
  have r18 : (0 : Int) ≤ ρ 18 ∧ ρ 18 ≤ 2000 := r18
  have r19 : (0 : Int) ≤ ρ 19 ∧ ρ 19 ≤ 2000 := r19
  have r20 : ((-2147483648) : Int) ≤ ρ 20 ∧ ρ 20 ≤ 2147483647 := r20
  have r21 : (4 : Int) ≤ ρ 21 ∧ ρ 21 ≤ 4 := r21
  have r22 : (3 : Int) ≤ ρ 22 ∧ ρ 22 ≤ 3 := r22
  have r23 : (0 : Int) ≤ ρ 23 ∧ ρ 23 ≤ 2 := r23
  have r24 : ((-2147483648) : Int) ≤ ρ 24 ∧ ρ 24 ≤ 1099511640064 := r24
  have r25 : (0 : Int) ≤ ρ 25 ∧ ρ 25 ≤ 2 := r25
  have r26 : ((-2147483648) : Int) ≤ ρ 26 ∧ ρ 26 ≤ 1099511640064 := r26
  have r27 : (3 : Int) ≤ ρ 27 ∧ ρ 27 ≤ 3 := r27
  have r28 : (0 : Int) ≤ ρ 28 ∧ ρ 28 ≤ 8 := r28
  have r29 : ((-1) : Int) ≤ ρ 29 ∧ ρ 29 ≤ 1999 := r29
  have r30 : (0 : Int) ≤ ρ 30 ∧ ρ 30 ≤ 1999 := r30
  have r31 : (1 : Int) ≤ ρ 31 ∧ ρ 31 ≤ 2000 := r31
  have r32 : (0 : Int) ≤ ρ 32 ∧ ρ 32 ≤ 8 := r32
  have r33 : ((-1) : Int) ≤ ρ 33 ∧ ρ 33 ≤ 1999 := r33
  have r34 : (0 : Int) ≤ ρ 34 ∧ ρ 34 ≤ 1999 := r34
  have r35 : (0 : Int) ≤ ρ 35 ∧ ρ 35 ≤ 3 := r35
  obtain ⟨f0, f1, f2, f3, f4, f5, f6, f7, f8, f9, -⟩ := hf
  have f0 : (0 : Int) ≤ -ρ 7 + ρ 2 + (-1) := f0
  have f1 : (0 : Int) ≤ ρ 31 + -ρ 19 := f1
  have f2 : (0 : Int) ≤ ρ 33 + -ρ 29 := f2
  have f3 : (0 : Int) ≤ ρ 18 + -ρ 15 + (-1) := f3
  have f4 : (0 : Int) ≤ ρ 17 + -ρ 16 + 50000 := f4
  have f5 : (0 : Int) ≤ ρ 1 + -ρ 0 + (-1) := f5
  have f6 : (0 : Int) ≤ ρ 19 + -ρ 9 := f6
  have f7 : (0 : Int) ≤ ρ 18 + -ρ 15 := f7
  have f8 : (0 : Int) ≤ ρ 17 + -ρ 5 := f8
  have f9 : (0 : Int) ≤ ρ 16 + -ρ 4 := f9
  obtain ⟨m0, m1, m2, m3, m4, m5, m6, m7, m8, m9, m10, m11, m12, m13, m14, m15, m16, m17, m18, m19, m20, m21, m22, m23, m24, m25, m26, m27, m28, m29, m30, m31, m32, m33, m34, -⟩ := hm
  have m0 : γ 0 15 0 32 = ρ 1 := m0
  have m1 : γ 0 15 0 13 = ρ 2 := m1
  have m2 : γ 0 71 0 (ρ 0) = ρ 3 := m2
  have m3 : γ 0 15 0 72 = ρ 4 := m3
  have m4 : γ 0 15 0 77 = ρ 5 := m4
  have m5 : γ 0 15 0 90 = ρ 6 := m5
  have m6 : γ 0 69 0 (ρ 0) = ρ 7 := m6
  have m7 : γ 0 15 0 44 = ρ 8 := m7
  have m8 : γ 0 15 0 71 = ρ 9 := m8
  have m9 : γ 0 15 0 76 = ρ 10 := m9
  have m10 : γ 0 15 0 81 = ρ 11 := m10
  have m11 : γ 0 15 0 82 = ρ 12 := m11
  have m12 : γ 0 15 0 83 = ρ 13 := m12
  have m13 : γ 0 15 0 94 = ρ 14 := m13
  have m14 : γ 1 15 0 72 = ρ 16 := m14
  have m15 : γ 1 15 0 77 = ρ 17 := m15
  have m16 : γ 1 15 0 90 = ρ 18 := m16
  have m17 : γ 1 15 0 71 = ρ 19 := m17
  have m18 : γ 1 15 0 81 = ρ 9 := m18
  have m19 : γ 1 106 0 (ρ 15) = ρ 20 := m19
  have m20 : γ 0 66 0 (ρ 7) = ρ 21 := m20
  have m21 : γ 0 70 0 (4 * ρ 0) = ρ 22 := m21
  have m22 : γ 0 70 0 (4 * ρ 0 + 1) = ρ 23 := m22
  have m23 : γ 1 105 0 (4 * ρ 15 + 1) = ρ 24 := m23
  have m24 : γ 0 70 0 (4 * ρ 0 + 2) = ρ 25 := m24
  have m25 : γ 1 105 0 (4 * ρ 15 + 2) = ρ 26 := m25
  have m26 : γ 0 70 0 (4 * ρ 0 + 3) = ρ 27 := m26
  have m27 : γ 1 97 0 (ρ 19) = ρ 28 := m27
  have m28 : γ 1 100 0 (ρ 7) = ρ 29 := m28
  have m29 : γ 1 101 0 (ρ 7) = ρ 30 := m29
  have m30 : γ 6 15 0 71 = ρ 31 := m30
  have m31 : γ 6 97 0 (ρ 19) = ρ 32 := m31
  have m32 : γ 6 100 0 (ρ 7) = ρ 33 := m32
  have m33 : γ 6 101 0 (ρ 7) = ρ 34 := m33
  have m34 : γ 6 15 0 77 = ρ 35 := m34
  obtain ⟨⟨⟨⟨⟨⟨-, c1⟩, c2⟩, c3⟩, c4⟩, c5⟩, c6⟩ := hc
  have c1 : ∀ (G : Nat) (k j : Int), ¬ rMdP m51_ G j → γ 1 G k j = γ 0 G k j := c1
  have c2 : γ 2 = rUp (γ 1) 102 0 0 (ρ 20) := c2
  have c3 : γ 3 = rUp (γ 2) 102 0 1 (ρ 24) := c3
  have c4 : γ 4 = rUp (γ 3) 102 0 2 (ρ 26) := c4
  have c5 : γ 5 = rUp (γ 4) 102 0 3 (ρ 20) := c5
  have c6 : ∀ (G : Nat) (k j : Int), ¬ rMdP m40_ G j → γ 6 G k j = γ 5 G k j := c6
  obtain ⟨l0, -⟩ := hl
  have l0 : sn57 [ρ 7, ρ 0, ρ 2, ρ 19, ρ 28, ρ 29, ρ 30, ρ 10, ρ 17] (γ 5) 0 0 (γ 6) := hS57 _ _ _ _ _ l0
  show jn75 [ρ 0, ρ 1, ρ 2, ρ 3, ρ 4, ρ 5, ρ 6, ρ 7, ρ 8, ρ 9, ρ 10, ρ 11, ρ 12, ρ 13, ρ 14] (γ 0) 0 [ρ 0, ρ 1, ρ 2, ρ 3, ρ 4, ρ 5, ρ 6, ρ 7, ρ 8, ρ 9, ρ 10, ρ 11, ρ 12, ρ 13, ρ 14, ρ 15 + 1, ρ 16, ρ 35, ρ 18, ρ 31] (γ 6)
  have hD : en75 (γ 0) (0, [ρ 0, ρ 15], γ 1) = .inl (0, [ρ 0, ρ 15 + 1], γ 6) := by
    unfold en75
    refine (if_pos (show (0 : Nat) = 0 by decide)).trans ?_
    refine (zLet_eq (show _ = γ 1 from rfl)).trans ?_
    refine (zLet_eq (show _ = ρ 0 from rfl)).trans ?_
    refine (zLet_eq (show _ = ρ 15 from rfl)).trans ?_
    refine (zLet_eq m2).trans ?_
    refine (zLet_eq m6).trans ?_
    refine (zLet_eq m15).trans ?_
    refine (zLet_eq m16).trans ?_
    refine (if_neg (show ¬ (ρ 15 ≥ ρ 18) by omega)).trans ?_
    refine (if_neg (show ¬ (ρ 17 ≠ 0) by omega)).trans ?_
    refine (if_pos (show ρ 3 ≤ 2 by omega)).trans ?_
    refine (if_neg (show ¬ (ρ 3 ≠ 1) by omega)).trans ?_
    refine (zLet_eq m19).trans ?_
    refine (zLet_eq m20).trans ?_
    refine (if_neg (show ¬ (0 ≥ ρ 21) by omega)).trans ?_
    refine (zLet_eq m21).trans ?_
    refine (if_neg (show ¬ (ρ 22 ≠ 3) by omega)).trans ?_
    refine (zLet_eq c2.symm).trans ?_
    refine (if_neg (show ¬ (1 ≥ ρ 21) by omega)).trans ?_
    refine (zLet_eq m22).trans ?_
    refine (if_pos (show ρ 23 ≠ 3 by omega)).trans ?_
    refine (zLet_eq m23).trans ?_
    refine (zLet_eq c3.symm).trans ?_
    refine (if_neg (show ¬ (2 ≥ ρ 21) by omega)).trans ?_
    refine (zLet_eq m24).trans ?_
    refine (if_pos (show ρ 25 ≠ 3 by omega)).trans ?_
    refine (zLet_eq m25).trans ?_
    refine (zLet_eq c4.symm).trans ?_
    refine (if_neg (show ¬ (3 ≥ ρ 21) by omega)).trans ?_
    refine (zLet_eq m26).trans ?_
    refine (if_neg (show ¬ (ρ 27 ≠ 3) by omega)).trans ?_
    refine (zLet_eq c5.symm).trans ?_
    refine (zLet_eq (show fn57 [ρ 7, ρ 0] (γ 5) = (0, 0, γ 6) from l0.symm)).trans ?_
    refine (zLet_eq (show _ = γ 6 from rfl)).trans ?_
    rfl
  exact zGoo_ato hJ hD
theorem vn75a0_54 {S : Nat → zSpc} (hS57 : ∀ x g o v gz, S 57 x g o v gz → sn57 x g o v gz) (hS73 : ∀ x g o v gz, S 73 x g o v gz → sn73 x g o v gz) {a : List Int} {g : rHp} : ∀ (ρ : Nat → Int) (γ : Nat → rHp), jn75 a g 0 (zAg (zNA a75_ 0) ρ) (γ 1) → zO 15 S a g q75a0_54 ρ γ → zGl (fun i vs g1 => jn75 a g i vs g1) (sn75 a g) q75a0_54 ρ γ := by
  intro ρ γ hJ h
  obtain ⟨ha, hg, hr, hf, hm, hc, hl⟩ := h
  have ha : a = [ρ 0, ρ 1, ρ 2, ρ 3, ρ 4, ρ 5, ρ 6, ρ 7, ρ 8, ρ 9, ρ 10, ρ 11, ρ 12, ρ 13, ρ 14] := ha
  subst ha
  subst hg
  have hJ : jn75 [ρ 0, ρ 1, ρ 2, ρ 3, ρ 4, ρ 5, ρ 6, ρ 7, ρ 8, ρ 9, ρ 10, ρ 11, ρ 12, ρ 13, ρ 14] (γ 0) 0 [ρ 0, ρ 1, ρ 2, ρ 3, ρ 4, ρ 5, ρ 6, ρ 7, ρ 8, ρ 9, ρ 10, ρ 11, ρ 12, ρ 13, ρ 14, ρ 15, ρ 16, ρ 17, ρ 18, ρ 19] (γ 1) := hJ
  obtain ⟨r0, r1, r2, r3, r4, r5, r6, r7, r8, r9, r10, r11, r12, r13, r14, r15, r16, r17, r18, r19, r20, r21, r22, r23, r24, r25, r26, r27, r28, r29, r30, r31, r32, r33, r34, -⟩ := hr
  have r0 : (0 : Int) ≤ ρ 0 ∧ ρ 0 ≤ 59 := r0
  have r1 : (0 : Int) ≤ ρ 1 ∧ ρ 1 ≤ 60 := r1
  have r2 : (0 : Int) ≤ ρ 2 ∧ ρ 2 ≤ 20 := r2
  have r3 : (1 : Int) ≤ ρ 3 ∧ ρ 3 ≤ 1 := r3
  have r4 : (0 : Int) ≤ ρ 4 ∧ ρ 4 ≤ 50001 := r4
  have r5 : (0 : Int) ≤ ρ 5 ∧ ρ 5 ≤ 3 := r5
  have r6 : (0 : Int) ≤ ρ 6 ∧ ρ 6 ≤ 2000 := r6
  have r7 : (0 : Int) ≤ ρ 7 ∧ ρ 7 ≤ 19 := r7
  have r8 : (0 : Int) ≤ ρ 8 ∧ ρ 8 ≤ 61 := r8
  have r9 : (0 : Int) ≤ ρ 9 ∧ ρ 9 ≤ 2000 := r9
  have r10 : ((-2147483648) : Int) ≤ ρ 10 ∧ ρ 10 ≤ 2147483647 := r10
  have r11 : (0 : Int) ≤ ρ 11 ∧ ρ 11 ≤ 2000 := r11
  have r12 : (0 : Int) ≤ ρ 12 ∧ ρ 12 ≤ 2000 := r12
  have r13 : (0 : Int) ≤ ρ 13 ∧ ρ 13 ≤ 2000 := r13
  have r14 : (0 : Int) ≤ ρ 14 ∧ ρ 14 ≤ 50001 := r14
  have r15 : (0 : Int) ≤ ρ 15 ∧ ρ 15 ≤ 2000 := r15
  have r16 : (0 : Int) ≤ ρ 16 ∧ ρ 16 ≤ 50001 := r16
  have r17 : (0 : Int) ≤ ρ 17 ∧ ρ 17 ≤ 0 := r17
  have r18 : (0 : Int) ≤ ρ 18 ∧ ρ 18 ≤ 2000 := r18
  have r19 : (0 : Int) ≤ ρ 19 ∧ ρ 19 ≤ 2000 := r19
  have r20 : ((-2147483648) : Int) ≤ ρ 20 ∧ ρ 20 ≤ 2147483647 := r20
  have r21 : (3 : Int) ≤ ρ 21 ∧ ρ 21 ≤ 3 := r21
  have r22 : (3 : Int) ≤ ρ 22 ∧ ρ 22 ≤ 3 := r22
  have r23 : (0 : Int) ≤ ρ 23 ∧ ρ 23 ≤ 2 := r23
  have r24 : ((-2147483648) : Int) ≤ ρ 24 ∧ ρ 24 ≤ 1099511640064 := r24
  have r25 : (3 : Int) ≤ ρ 25 ∧ ρ 25 ≤ 3 := r25
  have r26 : ((-2147483648) : Int) ≤ ρ 26 ∧ ρ 26 ≤ 1099511640064 := r26
  have r27 : (0 : Int) ≤ ρ 27 ∧ ρ 27 ≤ 8 := r27
  have r28 : ((-1) : Int) ≤ ρ 28 ∧ ρ 28 ≤ 1999 := r28
  have r29 : (0 : Int) ≤ ρ 29 ∧ ρ 29 ≤ 1999 := r29
  have r30 : (1 : Int) ≤ ρ 30 ∧ ρ 30 ≤ 2000 := r30
  have r31 : (0 : Int) ≤ ρ 31 ∧ ρ 31 ≤ 8 := r31
  have r32 : ((-1) : Int) ≤ ρ 32 ∧ ρ 32 ≤ 1999 := r32
  have r33 : (0 : Int) ≤ ρ 33 ∧ ρ 33 ≤ 1999 := r33
  have r34 : (0 : Int) ≤ ρ 34 ∧ ρ 34 ≤ 3 := r34
  obtain ⟨f0, f1, f2, f3, f4, f5, f6, f7, f8, f9, -⟩ := hf
  have f0 : (0 : Int) ≤ -ρ 7 + ρ 2 + (-1) := f0
  have f1 : (0 : Int) ≤ ρ 30 + -ρ 19 := f1
  have f2 : (0 : Int) ≤ ρ 32 + -ρ 28 := f2
  have f3 : (0 : Int) ≤ ρ 18 + -ρ 15 + (-1) := f3
  have f4 : (0 : Int) ≤ ρ 17 + -ρ 16 + 50000 := f4
  have f5 : (0 : Int) ≤ ρ 1 + -ρ 0 + (-1) := f5
  have f6 : (0 : Int) ≤ ρ 19 + -ρ 9 := f6
  have f7 : (0 : Int) ≤ ρ 18 + -ρ 15 := f7
  have f8 : (0 : Int) ≤ ρ 17 + -ρ 5 := f8
  have f9 : (0 : Int) ≤ ρ 16 + -ρ 4 := f9
  obtain ⟨m0, m1, m2, m3, m4, m5, m6, m7, m8, m9, m10, m11, m12, m13, m14, m15, m16, m17, m18, m19, m20, m21, m22, m23, m24, m25, m26, m27, m28, m29, m30, m31, m32, m33, -⟩ := hm
  have m0 : γ 0 15 0 32 = ρ 1 := m0
  have m1 : γ 0 15 0 13 = ρ 2 := m1
  have m2 : γ 0 71 0 (ρ 0) = ρ 3 := m2
  have m3 : γ 0 15 0 72 = ρ 4 := m3
  have m4 : γ 0 15 0 77 = ρ 5 := m4
  have m5 : γ 0 15 0 90 = ρ 6 := m5
  have m6 : γ 0 69 0 (ρ 0) = ρ 7 := m6
  have m7 : γ 0 15 0 44 = ρ 8 := m7
  have m8 : γ 0 15 0 71 = ρ 9 := m8
  have m9 : γ 0 15 0 76 = ρ 10 := m9
  have m10 : γ 0 15 0 81 = ρ 11 := m10
  have m11 : γ 0 15 0 82 = ρ 12 := m11
  have m12 : γ 0 15 0 83 = ρ 13 := m12
  have m13 : γ 0 15 0 94 = ρ 14 := m13
  have m14 : γ 1 15 0 72 = ρ 16 := m14
  have m15 : γ 1 15 0 77 = ρ 17 := m15
  have m16 : γ 1 15 0 90 = ρ 18 := m16
  have m17 : γ 1 15 0 71 = ρ 19 := m17
  have m18 : γ 1 15 0 81 = ρ 9 := m18
  have m19 : γ 1 106 0 (ρ 15) = ρ 20 := m19
  have m20 : γ 0 66 0 (ρ 7) = ρ 21 := m20
  have m21 : γ 0 70 0 (4 * ρ 0) = ρ 22 := m21
  have m22 : γ 0 70 0 (4 * ρ 0 + 1) = ρ 23 := m22
  have m23 : γ 1 105 0 (4 * ρ 15 + 1) = ρ 24 := m23
  have m24 : γ 0 70 0 (4 * ρ 0 + 2) = ρ 25 := m24
  have m25 : γ 1 105 0 (4 * ρ 15 + 3) = ρ 26 := m25
  have m26 : γ 1 97 0 (ρ 19) = ρ 27 := m26
  have m27 : γ 1 100 0 (ρ 7) = ρ 28 := m27
  have m28 : γ 1 101 0 (ρ 7) = ρ 29 := m28
  have m29 : γ 6 15 0 71 = ρ 30 := m29
  have m30 : γ 6 97 0 (ρ 19) = ρ 31 := m30
  have m31 : γ 6 100 0 (ρ 7) = ρ 32 := m31
  have m32 : γ 6 101 0 (ρ 7) = ρ 33 := m32
  have m33 : γ 6 15 0 77 = ρ 34 := m33
  obtain ⟨⟨⟨⟨⟨⟨-, c1⟩, c2⟩, c3⟩, c4⟩, c5⟩, c6⟩ := hc
  have c1 : ∀ (G : Nat) (k j : Int), ¬ rMdP m51_ G j → γ 1 G k j = γ 0 G k j := c1
  have c2 : γ 2 = rUp (γ 1) 102 0 0 (ρ 20) := c2
  have c3 : γ 3 = rUp (γ 2) 102 0 1 (ρ 24) := c3
  have c4 : γ 4 = rUp (γ 3) 102 0 2 (ρ 20) := c4
  have c5 : γ 5 = rUp (γ 4) 102 0 3 (ρ 26) := c5
  have c6 : ∀ (G : Nat) (k j : Int), ¬ rMdP m40_ G j → γ 6 G k j = γ 5 G k j := c6
  obtain ⟨l0, -⟩ := hl
  have l0 : sn57 [ρ 7, ρ 0, ρ 2, ρ 19, ρ 27, ρ 28, ρ 29, ρ 10, ρ 17] (γ 5) 0 0 (γ 6) := hS57 _ _ _ _ _ l0
  show jn75 [ρ 0, ρ 1, ρ 2, ρ 3, ρ 4, ρ 5, ρ 6, ρ 7, ρ 8, ρ 9, ρ 10, ρ 11, ρ 12, ρ 13, ρ 14] (γ 0) 0 [ρ 0, ρ 1, ρ 2, ρ 3, ρ 4, ρ 5, ρ 6, ρ 7, ρ 8, ρ 9, ρ 10, ρ 11, ρ 12, ρ 13, ρ 14, ρ 15 + 1, ρ 16, ρ 34, ρ 18, ρ 30] (γ 6)
  have hD : en75 (γ 0) (0, [ρ 0, ρ 15], γ 1) = .inl (0, [ρ 0, ρ 15 + 1], γ 6) := by
    unfold en75
    refine (if_pos (show (0 : Nat) = 0 by decide)).trans ?_
    refine (zLet_eq (show _ = γ 1 from rfl)).trans ?_
    refine (zLet_eq (show _ = ρ 0 from rfl)).trans ?_
    refine (zLet_eq (show _ = ρ 15 from rfl)).trans ?_
    refine (zLet_eq m2).trans ?_
    refine (zLet_eq m6).trans ?_
    refine (zLet_eq m15).trans ?_
    refine (zLet_eq m16).trans ?_
    refine (if_neg (show ¬ (ρ 15 ≥ ρ 18) by omega)).trans ?_
    refine (if_neg (show ¬ (ρ 17 ≠ 0) by omega)).trans ?_
    refine (if_pos (show ρ 3 ≤ 2 by omega)).trans ?_
    refine (if_neg (show ¬ (ρ 3 ≠ 1) by omega)).trans ?_
    refine (zLet_eq m19).trans ?_
    refine (zLet_eq m20).trans ?_
    refine (if_neg (show ¬ (0 ≥ ρ 21) by omega)).trans ?_
    refine (zLet_eq m21).trans ?_
    refine (if_neg (show ¬ (ρ 22 ≠ 3) by omega)).trans ?_
    refine (zLet_eq c2.symm).trans ?_
    refine (if_neg (show ¬ (1 ≥ ρ 21) by omega)).trans ?_
    refine (zLet_eq m22).trans ?_
    refine (if_pos (show ρ 23 ≠ 3 by omega)).trans ?_
    refine (zLet_eq m23).trans ?_
    refine (zLet_eq c3.symm).trans ?_
    refine (if_neg (show ¬ (2 ≥ ρ 21) by omega)).trans ?_
    refine (zLet_eq m24).trans ?_
    refine (if_neg (show ¬ (ρ 25 ≠ 3) by omega)).trans ?_
    refine (zLet_eq c4.symm).trans ?_
    refine (if_pos (show 3 ≥ ρ 21 by omega)).trans ?_
    refine (zLet_eq m25).trans ?_
    refine (zLet_eq c5.symm).trans ?_
    refine (zLet_eq (show fn57 [ρ 7, ρ 0] (γ 5) = (0, 0, γ 6) from l0.symm)).trans ?_
    refine (zLet_eq (show _ = γ 6 from rfl)).trans ?_
    rfl
  exact zGoo_ato hJ hD
theorem vn75a0_55 {S : Nat → zSpc} (hS57 : ∀ x g o v gz, S 57 x g o v gz → sn57 x g o v gz) (hS73 : ∀ x g o v gz, S 73 x g o v gz → sn73 x g o v gz) {a : List Int} {g : rHp} : ∀ (ρ : Nat → Int) (γ : Nat → rHp), jn75 a g 0 (zAg (zNA a75_ 0) ρ) (γ 1) → zO 15 S a g q75a0_55 ρ γ → zGl (fun i vs g1 => jn75 a g i vs g1) (sn75 a g) q75a0_55 ρ γ := by
  intro ρ γ hJ h
  obtain ⟨ha, hg, hr, hf, hm, hc, hl⟩ := h
  have ha : a = [ρ 0, ρ 1, ρ 2, ρ 3, ρ 4, ρ 5, ρ 6, ρ 7, ρ 8, ρ 9, ρ 10, ρ 11, ρ 12, ρ 13, ρ 14] := ha
  subst ha
  subst hg
  have hJ : jn75 [ρ 0, ρ 1, ρ 2, ρ 3, ρ 4, ρ 5, ρ 6, ρ 7, ρ 8, ρ 9, ρ 10, ρ 11, ρ 12, ρ 13, ρ 14] (γ 0) 0 [ρ 0, ρ 1, ρ 2, ρ 3, ρ 4, ρ 5, ρ 6, ρ 7, ρ 8, ρ 9, ρ 10, ρ 11, ρ 12, ρ 13, ρ 14, ρ 15, ρ 16, ρ 17, ρ 18, ρ 19] (γ 1) := hJ
  obtain ⟨r0, r1, r2, r3, r4, r5, r6, r7, r8, r9, r10, r11, r12, r13, r14, r15, r16, r17, r18, r19, r20, r21, r22, r23, r24, r25, r26, r27, r28, r29, r30, r31, r32, r33, r34, r35, -⟩ := hr
  have r0 : (0 : Int) ≤ ρ 0 ∧ ρ 0 ≤ 59 := r0
  have r1 : (0 : Int) ≤ ρ 1 ∧ ρ 1 ≤ 60 := r1
  have r2 : (0 : Int) ≤ ρ 2 ∧ ρ 2 ≤ 20 := r2
  have r3 : (1 : Int) ≤ ρ 3 ∧ ρ 3 ≤ 1 := r3
  have r4 : (0 : Int) ≤ ρ 4 ∧ ρ 4 ≤ 50001 := r4
  have r5 : (0 : Int) ≤ ρ 5 ∧ ρ 5 ≤ 3 := r5
  have r6 : (0 : Int) ≤ ρ 6 ∧ ρ 6 ≤ 2000 := r6
  have r7 : (0 : Int) ≤ ρ 7 ∧ ρ 7 ≤ 19 := r7
  have r8 : (0 : Int) ≤ ρ 8 ∧ ρ 8 ≤ 61 := r8
  have r9 : (0 : Int) ≤ ρ 9 ∧ ρ 9 ≤ 2000 := r9
  have r10 : ((-2147483648) : Int) ≤ ρ 10 ∧ ρ 10 ≤ 2147483647 := r10
  have r11 : (0 : Int) ≤ ρ 11 ∧ ρ 11 ≤ 2000 := r11
  have r12 : (0 : Int) ≤ ρ 12 ∧ ρ 12 ≤ 2000 := r12
  have r13 : (0 : Int) ≤ ρ 13 ∧ ρ 13 ≤ 2000 := r13
  have r14 : (0 : Int) ≤ ρ 14 ∧ ρ 14 ≤ 50001 := r14
  have r15 : (0 : Int) ≤ ρ 15 ∧ ρ 15 ≤ 2000 := r15
  have r16 : (0 : Int) ≤ ρ 16 ∧ ρ 16 ≤ 50001 := r16
  have r17 : (0 : Int) ≤ ρ 17 ∧ ρ 17 ≤ 0 := r17
  have r18 : (0 : Int) ≤ ρ 18 ∧ ρ 18 ≤ 2000 := r18
  have r19 : (0 : Int) ≤ ρ 19 ∧ ρ 19 ≤ 2000 := r19
  have r20 : ((-2147483648) : Int) ≤ ρ 20 ∧ ρ 20 ≤ 2147483647 := r20
  have r21 : (4 : Int) ≤ ρ 21 ∧ ρ 21 ≤ 4 := r21
  have r22 : (3 : Int) ≤ ρ 22 ∧ ρ 22 ≤ 3 := r22
  have r23 : (0 : Int) ≤ ρ 23 ∧ ρ 23 ≤ 2 := r23
  have r24 : ((-2147483648) : Int) ≤ ρ 24 ∧ ρ 24 ≤ 1099511640064 := r24
  have r25 : (3 : Int) ≤ ρ 25 ∧ ρ 25 ≤ 3 := r25
  have r26 : (0 : Int) ≤ ρ 26 ∧ ρ 26 ≤ 2 := r26
  have r27 : ((-2147483648) : Int) ≤ ρ 27 ∧ ρ 27 ≤ 1099511640064 := r27
  have r28 : (0 : Int) ≤ ρ 28 ∧ ρ 28 ≤ 8 := r28
  have r29 : ((-1) : Int) ≤ ρ 29 ∧ ρ 29 ≤ 1999 := r29
  have r30 : (0 : Int) ≤ ρ 30 ∧ ρ 30 ≤ 1999 := r30
  have r31 : (1 : Int) ≤ ρ 31 ∧ ρ 31 ≤ 2000 := r31
  have r32 : (0 : Int) ≤ ρ 32 ∧ ρ 32 ≤ 8 := r32
  have r33 : ((-1) : Int) ≤ ρ 33 ∧ ρ 33 ≤ 1999 := r33
  have r34 : (0 : Int) ≤ ρ 34 ∧ ρ 34 ≤ 1999 := r34
  have r35 : (0 : Int) ≤ ρ 35 ∧ ρ 35 ≤ 3 := r35
  obtain ⟨f0, f1, f2, f3, f4, f5, f6, f7, f8, f9, -⟩ := hf
  have f0 : (0 : Int) ≤ -ρ 7 + ρ 2 + (-1) := f0
  have f1 : (0 : Int) ≤ ρ 31 + -ρ 19 := f1
  have f2 : (0 : Int) ≤ ρ 33 + -ρ 29 := f2
  have f3 : (0 : Int) ≤ ρ 18 + -ρ 15 + (-1) := f3
  have f4 : (0 : Int) ≤ ρ 17 + -ρ 16 + 50000 := f4
  have f5 : (0 : Int) ≤ ρ 1 + -ρ 0 + (-1) := f5
  have f6 : (0 : Int) ≤ ρ 19 + -ρ 9 := f6
  have f7 : (0 : Int) ≤ ρ 18 + -ρ 15 := f7
  have f8 : (0 : Int) ≤ ρ 17 + -ρ 5 := f8
  have f9 : (0 : Int) ≤ ρ 16 + -ρ 4 := f9
  obtain ⟨m0, m1, m2, m3, m4, m5, m6, m7, m8, m9, m10, m11, m12, m13, m14, m15, m16, m17, m18, m19, m20, m21, m22, m23, m24, m25, m26, m27, m28, m29, m30, m31, m32, m33, m34, -⟩ := hm
  have m0 : γ 0 15 0 32 = ρ 1 := m0
  have m1 : γ 0 15 0 13 = ρ 2 := m1
  have m2 : γ 0 71 0 (ρ 0) = ρ 3 := m2
  have m3 : γ 0 15 0 72 = ρ 4 := m3
  have m4 : γ 0 15 0 77 = ρ 5 := m4
  have m5 : γ 0 15 0 90 = ρ 6 := m5
  have m6 : γ 0 69 0 (ρ 0) = ρ 7 := m6
  have m7 : γ 0 15 0 44 = ρ 8 := m7
  have m8 : γ 0 15 0 71 = ρ 9 := m8
  have m9 : γ 0 15 0 76 = ρ 10 := m9
  have m10 : γ 0 15 0 81 = ρ 11 := m10
  have m11 : γ 0 15 0 82 = ρ 12 := m11
  have m12 : γ 0 15 0 83 = ρ 13 := m12
  have m13 : γ 0 15 0 94 = ρ 14 := m13
  have m14 : γ 1 15 0 72 = ρ 16 := m14
  have m15 : γ 1 15 0 77 = ρ 17 := m15
  have m16 : γ 1 15 0 90 = ρ 18 := m16
  have m17 : γ 1 15 0 71 = ρ 19 := m17
  have m18 : γ 1 15 0 81 = ρ 9 := m18
  have m19 : γ 1 106 0 (ρ 15) = ρ 20 := m19
  have m20 : γ 0 66 0 (ρ 7) = ρ 21 := m20
  have m21 : γ 0 70 0 (4 * ρ 0) = ρ 22 := m21
  have m22 : γ 0 70 0 (4 * ρ 0 + 1) = ρ 23 := m22
  have m23 : γ 1 105 0 (4 * ρ 15 + 1) = ρ 24 := m23
  have m24 : γ 0 70 0 (4 * ρ 0 + 2) = ρ 25 := m24
  have m25 : γ 0 70 0 (4 * ρ 0 + 3) = ρ 26 := m25
  have m26 : γ 1 105 0 (4 * ρ 15 + 3) = ρ 27 := m26
  have m27 : γ 1 97 0 (ρ 19) = ρ 28 := m27
  have m28 : γ 1 100 0 (ρ 7) = ρ 29 := m28
  have m29 : γ 1 101 0 (ρ 7) = ρ 30 := m29
  have m30 : γ 6 15 0 71 = ρ 31 := m30
  have m31 : γ 6 97 0 (ρ 19) = ρ 32 := m31
  have m32 : γ 6 100 0 (ρ 7) = ρ 33 := m32
  have m33 : γ 6 101 0 (ρ 7) = ρ 34 := m33
  have m34 : γ 6 15 0 77 = ρ 35 := m34
  obtain ⟨⟨⟨⟨⟨⟨-, c1⟩, c2⟩, c3⟩, c4⟩, c5⟩, c6⟩ := hc
  have c1 : ∀ (G : Nat) (k j : Int), ¬ rMdP m51_ G j → γ 1 G k j = γ 0 G k j := c1
  have c2 : γ 2 = rUp (γ 1) 102 0 0 (ρ 20) := c2
  have c3 : γ 3 = rUp (γ 2) 102 0 1 (ρ 24) := c3
  have c4 : γ 4 = rUp (γ 3) 102 0 2 (ρ 20) := c4
  have c5 : γ 5 = rUp (γ 4) 102 0 3 (ρ 27) := c5
  have c6 : ∀ (G : Nat) (k j : Int), ¬ rMdP m40_ G j → γ 6 G k j = γ 5 G k j := c6
  obtain ⟨l0, -⟩ := hl
  have l0 : sn57 [ρ 7, ρ 0, ρ 2, ρ 19, ρ 28, ρ 29, ρ 30, ρ 10, ρ 17] (γ 5) 0 0 (γ 6) := hS57 _ _ _ _ _ l0
  show jn75 [ρ 0, ρ 1, ρ 2, ρ 3, ρ 4, ρ 5, ρ 6, ρ 7, ρ 8, ρ 9, ρ 10, ρ 11, ρ 12, ρ 13, ρ 14] (γ 0) 0 [ρ 0, ρ 1, ρ 2, ρ 3, ρ 4, ρ 5, ρ 6, ρ 7, ρ 8, ρ 9, ρ 10, ρ 11, ρ 12, ρ 13, ρ 14, ρ 15 + 1, ρ 16, ρ 35, ρ 18, ρ 31] (γ 6)
  have hD : en75 (γ 0) (0, [ρ 0, ρ 15], γ 1) = .inl (0, [ρ 0, ρ 15 + 1], γ 6) := by
    unfold en75
    refine (if_pos (show (0 : Nat) = 0 by decide)).trans ?_
    refine (zLet_eq (show _ = γ 1 from rfl)).trans ?_
    refine (zLet_eq (show _ = ρ 0 from rfl)).trans ?_
    refine (zLet_eq (show _ = ρ 15 from rfl)).trans ?_
    refine (zLet_eq m2).trans ?_
    refine (zLet_eq m6).trans ?_
    refine (zLet_eq m15).trans ?_
    refine (zLet_eq m16).trans ?_
    refine (if_neg (show ¬ (ρ 15 ≥ ρ 18) by omega)).trans ?_
    refine (if_neg (show ¬ (ρ 17 ≠ 0) by omega)).trans ?_
    refine (if_pos (show ρ 3 ≤ 2 by omega)).trans ?_
    refine (if_neg (show ¬ (ρ 3 ≠ 1) by omega)).trans ?_
    refine (zLet_eq m19).trans ?_
    refine (zLet_eq m20).trans ?_
    refine (if_neg (show ¬ (0 ≥ ρ 21) by omega)).trans ?_
    refine (zLet_eq m21).trans ?_
    refine (if_neg (show ¬ (ρ 22 ≠ 3) by omega)).trans ?_
    refine (zLet_eq c2.symm).trans ?_
    refine (if_neg (show ¬ (1 ≥ ρ 21) by omega)).trans ?_
    refine (zLet_eq m22).trans ?_
    refine (if_pos (show ρ 23 ≠ 3 by omega)).trans ?_
    refine (zLet_eq m23).trans ?_
    refine (zLet_eq c3.symm).trans ?_
    refine (if_neg (show ¬ (2 ≥ ρ 21) by omega)).trans ?_
    refine (zLet_eq m24).trans ?_
    refine (if_neg (show ¬ (ρ 25 ≠ 3) by omega)).trans ?_
    refine (zLet_eq c4.symm).trans ?_
    refine (if_neg (show ¬ (3 ≥ ρ 21) by omega)).trans ?_
    refine (zLet_eq m25).trans ?_
    refine (if_pos (show ρ 26 ≠ 3 by omega)).trans ?_
    refine (zLet_eq m26).trans ?_
    refine (zLet_eq c5.symm).trans ?_
    refine (zLet_eq (show fn57 [ρ 7, ρ 0] (γ 5) = (0, 0, γ 6) from l0.symm)).trans ?_
    refine (zLet_eq (show _ = γ 6 from rfl)).trans ?_
    rfl
  exact zGoo_ato hJ hD
theorem vn75a0_56 {S : Nat → zSpc} (hS57 : ∀ x g o v gz, S 57 x g o v gz → sn57 x g o v gz) (hS73 : ∀ x g o v gz, S 73 x g o v gz → sn73 x g o v gz) {a : List Int} {g : rHp} : ∀ (ρ : Nat → Int) (γ : Nat → rHp), jn75 a g 0 (zAg (zNA a75_ 0) ρ) (γ 1) → zO 15 S a g q75a0_56 ρ γ → zGl (fun i vs g1 => jn75 a g i vs g1) (sn75 a g) q75a0_56 ρ γ := by
  intro ρ γ hJ h
  obtain ⟨ha, hg, hr, hf, hm, hc, hl⟩ := h
  have ha : a = [ρ 0, ρ 1, ρ 2, ρ 3, ρ 4, ρ 5, ρ 6, ρ 7, ρ 8, ρ 9, ρ 10, ρ 11, ρ 12, ρ 13, ρ 14] := ha
  subst ha
  subst hg
  have hJ : jn75 [ρ 0, ρ 1, ρ 2, ρ 3, ρ 4, ρ 5, ρ 6, ρ 7, ρ 8, ρ 9, ρ 10, ρ 11, ρ 12, ρ 13, ρ 14] (γ 0) 0 [ρ 0, ρ 1, ρ 2, ρ 3, ρ 4, ρ 5, ρ 6, ρ 7, ρ 8, ρ 9, ρ 10, ρ 11, ρ 12, ρ 13, ρ 14, ρ 15, ρ 16, ρ 17, ρ 18, ρ 19] (γ 1) := hJ
  obtain ⟨r0, r1, r2, r3, r4, r5, r6, r7, r8, r9, r10, r11, r12, r13, r14, r15, r16, r17, r18, r19, r20, r21, r22, r23, r24, r25, r26, r27, r28, r29, r30, r31, r32, r33, r34, -⟩ := hr
  have r0 : (0 : Int) ≤ ρ 0 ∧ ρ 0 ≤ 59 := r0
  have r1 : (0 : Int) ≤ ρ 1 ∧ ρ 1 ≤ 60 := r1
  have r2 : (0 : Int) ≤ ρ 2 ∧ ρ 2 ≤ 20 := r2
  have r3 : (1 : Int) ≤ ρ 3 ∧ ρ 3 ≤ 1 := r3
  have r4 : (0 : Int) ≤ ρ 4 ∧ ρ 4 ≤ 50001 := r4
  have r5 : (0 : Int) ≤ ρ 5 ∧ ρ 5 ≤ 3 := r5
  have r6 : (0 : Int) ≤ ρ 6 ∧ ρ 6 ≤ 2000 := r6
  have r7 : (0 : Int) ≤ ρ 7 ∧ ρ 7 ≤ 19 := r7
  have r8 : (0 : Int) ≤ ρ 8 ∧ ρ 8 ≤ 61 := r8
  have r9 : (0 : Int) ≤ ρ 9 ∧ ρ 9 ≤ 2000 := r9
  have r10 : ((-2147483648) : Int) ≤ ρ 10 ∧ ρ 10 ≤ 2147483647 := r10
  have r11 : (0 : Int) ≤ ρ 11 ∧ ρ 11 ≤ 2000 := r11
  have r12 : (0 : Int) ≤ ρ 12 ∧ ρ 12 ≤ 2000 := r12
  have r13 : (0 : Int) ≤ ρ 13 ∧ ρ 13 ≤ 2000 := r13
  have r14 : (0 : Int) ≤ ρ 14 ∧ ρ 14 ≤ 50001 := r14
  have r15 : (0 : Int) ≤ ρ 15 ∧ ρ 15 ≤ 2000 := r15
  have r16 : (0 : Int) ≤ ρ 16 ∧ ρ 16 ≤ 50001 := r16
  have r17 : (0 : Int) ≤ ρ 17 ∧ ρ 17 ≤ 0 := r17
  have r18 : (0 : Int) ≤ ρ 18 ∧ ρ 18 ≤ 2000 := r18
  have r19 : (0 : Int) ≤ ρ 19 ∧ ρ 19 ≤ 2000 := r19
  have r20 : ((-2147483648) : Int) ≤ ρ 20 ∧ ρ 20 ≤ 2147483647 := r20
  have r21 : (4 : Int) ≤ ρ 21 ∧ ρ 21 ≤ 4 := r21
  have r22 : (3 : Int) ≤ ρ 22 ∧ ρ 22 ≤ 3 := r22
  have r23 : (0 : Int) ≤ ρ 23 ∧ ρ 23 ≤ 2 := r23
  have r24 : ((-2147483648) : Int) ≤ ρ 24 ∧ ρ 24 ≤ 1099511640064 := r24
  have r25 : (3 : Int) ≤ ρ 25 ∧ ρ 25 ≤ 3 := r25
  have r26 : (3 : Int) ≤ ρ 26 ∧ ρ 26 ≤ 3 := r26
  have r27 : (0 : Int) ≤ ρ 27 ∧ ρ 27 ≤ 8 := r27
  have r28 : ((-1) : Int) ≤ ρ 28 ∧ ρ 28 ≤ 1999 := r28
  have r29 : (0 : Int) ≤ ρ 29 ∧ ρ 29 ≤ 1999 := r29
  have r30 : (1 : Int) ≤ ρ 30 ∧ ρ 30 ≤ 2000 := r30
  have r31 : (0 : Int) ≤ ρ 31 ∧ ρ 31 ≤ 8 := r31
  have r32 : ((-1) : Int) ≤ ρ 32 ∧ ρ 32 ≤ 1999 := r32
  have r33 : (0 : Int) ≤ ρ 33 ∧ ρ 33 ≤ 1999 := r33
  have r34 : (0 : Int) ≤ ρ 34 ∧ ρ 34 ≤ 3 := r34
  obtain ⟨f0, f1, f2, f3, f4, f5, f6, f7, f8, f9, -⟩ := hf
  have f0 : (0 : Int) ≤ -ρ 7 + ρ 2 + (-1) := f0
  have f1 : (0 : Int) ≤ ρ 30 + -ρ 19 := f1
  have f2 : (0 : Int) ≤ ρ 32 + -ρ 28 := f2
  have f3 : (0 : Int) ≤ ρ 18 + -ρ 15 + (-1) := f3
  have f4 : (0 : Int) ≤ ρ 17 + -ρ 16 + 50000 := f4
  have f5 : (0 : Int) ≤ ρ 1 + -ρ 0 + (-1) := f5
  have f6 : (0 : Int) ≤ ρ 19 + -ρ 9 := f6
  have f7 : (0 : Int) ≤ ρ 18 + -ρ 15 := f7
  have f8 : (0 : Int) ≤ ρ 17 + -ρ 5 := f8
  have f9 : (0 : Int) ≤ ρ 16 + -ρ 4 := f9
  obtain ⟨m0, m1, m2, m3, m4, m5, m6, m7, m8, m9, m10, m11, m12, m13, m14, m15, m16, m17, m18, m19, m20, m21, m22, m23, m24, m25, m26, m27, m28, m29, m30, m31, m32, m33, -⟩ := hm
  have m0 : γ 0 15 0 32 = ρ 1 := m0
  have m1 : γ 0 15 0 13 = ρ 2 := m1
  have m2 : γ 0 71 0 (ρ 0) = ρ 3 := m2
  have m3 : γ 0 15 0 72 = ρ 4 := m3
  have m4 : γ 0 15 0 77 = ρ 5 := m4
  have m5 : γ 0 15 0 90 = ρ 6 := m5
  have m6 : γ 0 69 0 (ρ 0) = ρ 7 := m6
  have m7 : γ 0 15 0 44 = ρ 8 := m7
  have m8 : γ 0 15 0 71 = ρ 9 := m8
  have m9 : γ 0 15 0 76 = ρ 10 := m9
  have m10 : γ 0 15 0 81 = ρ 11 := m10
  have m11 : γ 0 15 0 82 = ρ 12 := m11
  have m12 : γ 0 15 0 83 = ρ 13 := m12
  have m13 : γ 0 15 0 94 = ρ 14 := m13
  have m14 : γ 1 15 0 72 = ρ 16 := m14
  have m15 : γ 1 15 0 77 = ρ 17 := m15
  have m16 : γ 1 15 0 90 = ρ 18 := m16
  have m17 : γ 1 15 0 71 = ρ 19 := m17
  have m18 : γ 1 15 0 81 = ρ 9 := m18
  have m19 : γ 1 106 0 (ρ 15) = ρ 20 := m19
  have m20 : γ 0 66 0 (ρ 7) = ρ 21 := m20
  have m21 : γ 0 70 0 (4 * ρ 0) = ρ 22 := m21
  have m22 : γ 0 70 0 (4 * ρ 0 + 1) = ρ 23 := m22
  have m23 : γ 1 105 0 (4 * ρ 15 + 1) = ρ 24 := m23
  have m24 : γ 0 70 0 (4 * ρ 0 + 2) = ρ 25 := m24
  have m25 : γ 0 70 0 (4 * ρ 0 + 3) = ρ 26 := m25
  have m26 : γ 1 97 0 (ρ 19) = ρ 27 := m26
  have m27 : γ 1 100 0 (ρ 7) = ρ 28 := m27
  have m28 : γ 1 101 0 (ρ 7) = ρ 29 := m28
  have m29 : γ 6 15 0 71 = ρ 30 := m29
  have m30 : γ 6 97 0 (ρ 19) = ρ 31 := m30
  have m31 : γ 6 100 0 (ρ 7) = ρ 32 := m31
  have m32 : γ 6 101 0 (ρ 7) = ρ 33 := m32
  have m33 : γ 6 15 0 77 = ρ 34 := m33
  obtain ⟨⟨⟨⟨⟨⟨-, c1⟩, c2⟩, c3⟩, c4⟩, c5⟩, c6⟩ := hc
  have c1 : ∀ (G : Nat) (k j : Int), ¬ rMdP m51_ G j → γ 1 G k j = γ 0 G k j := c1
  have c2 : γ 2 = rUp (γ 1) 102 0 0 (ρ 20) := c2
  have c3 : γ 3 = rUp (γ 2) 102 0 1 (ρ 24) := c3
  have c4 : γ 4 = rUp (γ 3) 102 0 2 (ρ 20) := c4
  have c5 : γ 5 = rUp (γ 4) 102 0 3 (ρ 20) := c5
  have c6 : ∀ (G : Nat) (k j : Int), ¬ rMdP m40_ G j → γ 6 G k j = γ 5 G k j := c6
  obtain ⟨l0, -⟩ := hl
  have l0 : sn57 [ρ 7, ρ 0, ρ 2, ρ 19, ρ 27, ρ 28, ρ 29, ρ 10, ρ 17] (γ 5) 0 0 (γ 6) := hS57 _ _ _ _ _ l0
  show jn75 [ρ 0, ρ 1, ρ 2, ρ 3, ρ 4, ρ 5, ρ 6, ρ 7, ρ 8, ρ 9, ρ 10, ρ 11, ρ 12, ρ 13, ρ 14] (γ 0) 0 [ρ 0, ρ 1, ρ 2, ρ 3, ρ 4, ρ 5, ρ 6, ρ 7, ρ 8, ρ 9, ρ 10, ρ 11, ρ 12, ρ 13, ρ 14, ρ 15 + 1, ρ 16, ρ 34, ρ 18, ρ 30] (γ 6)
  have hD : en75 (γ 0) (0, [ρ 0, ρ 15], γ 1) = .inl (0, [ρ 0, ρ 15 + 1], γ 6) := by
    unfold en75
    refine (if_pos (show (0 : Nat) = 0 by decide)).trans ?_
    refine (zLet_eq (show _ = γ 1 from rfl)).trans ?_
    refine (zLet_eq (show _ = ρ 0 from rfl)).trans ?_
    refine (zLet_eq (show _ = ρ 15 from rfl)).trans ?_
    refine (zLet_eq m2).trans ?_
    refine (zLet_eq m6).trans ?_
    refine (zLet_eq m15).trans ?_
    refine (zLet_eq m16).trans ?_
    refine (if_neg (show ¬ (ρ 15 ≥ ρ 18) by omega)).trans ?_
    refine (if_neg (show ¬ (ρ 17 ≠ 0) by omega)).trans ?_
    refine (if_pos (show ρ 3 ≤ 2 by omega)).trans ?_
    refine (if_neg (show ¬ (ρ 3 ≠ 1) by omega)).trans ?_
    refine (zLet_eq m19).trans ?_
    refine (zLet_eq m20).trans ?_
    refine (if_neg (show ¬ (0 ≥ ρ 21) by omega)).trans ?_
    refine (zLet_eq m21).trans ?_
    refine (if_neg (show ¬ (ρ 22 ≠ 3) by omega)).trans ?_
    refine (zLet_eq c2.symm).trans ?_
    refine (if_neg (show ¬ (1 ≥ ρ 21) by omega)).trans ?_
    refine (zLet_eq m22).trans ?_
    refine (if_pos (show ρ 23 ≠ 3 by omega)).trans ?_
    refine (zLet_eq m23).trans ?_
    refine (zLet_eq c3.symm).trans ?_
    refine (if_neg (show ¬ (2 ≥ ρ 21) by omega)).trans ?_
    refine (zLet_eq m24).trans ?_
    refine (if_neg (show ¬ (ρ 25 ≠ 3) by omega)).trans ?_
    refine (zLet_eq c4.symm).trans ?_
    refine (if_neg (show ¬ (3 ≥ ρ 21) by omega)).trans ?_
    refine (zLet_eq m25).trans ?_
    refine (if_neg (show ¬ (ρ 26 ≠ 3) by omega)).trans ?_
    refine (zLet_eq c5.symm).trans ?_
    refine (zLet_eq (show fn57 [ρ 7, ρ 0] (γ 5) = (0, 0, γ 6) from l0.symm)).trans ?_
    refine (zLet_eq (show _ = γ 6 from rfl)).trans ?_
    rfl
  exact zGoo_ato hJ hD
theorem vn75a0_57 {S : Nat → zSpc} (hS57 : ∀ x g o v gz, S 57 x g o v gz → sn57 x g o v gz) (hS73 : ∀ x g o v gz, S 73 x g o v gz → sn73 x g o v gz) {a : List Int} {g : rHp} : ∀ (ρ : Nat → Int) (γ : Nat → rHp), jn75 a g 0 (zAg (zNA a75_ 0) ρ) (γ 1) → zO 15 S a g q75a0_57 ρ γ → zGl (fun i vs g1 => jn75 a g i vs g1) (sn75 a g) q75a0_57 ρ γ := by
  intro ρ γ hJ h
  obtain ⟨ha, hg, hr, hf, hm, hc, hl⟩ := h
  have ha : a = [ρ 0, ρ 1, ρ 2, ρ 3, ρ 4, ρ 5, ρ 6, ρ 7, ρ 8, ρ 9, ρ 10, ρ 11, ρ 12, ρ 13, ρ 14] := ha
  subst ha
  subst hg
  have hJ : jn75 [ρ 0, ρ 1, ρ 2, ρ 3, ρ 4, ρ 5, ρ 6, ρ 7, ρ 8, ρ 9, ρ 10, ρ 11, ρ 12, ρ 13, ρ 14] (γ 0) 0 [ρ 0, ρ 1, ρ 2, ρ 3, ρ 4, ρ 5, ρ 6, ρ 7, ρ 8, ρ 9, ρ 10, ρ 11, ρ 12, ρ 13, ρ 14, ρ 15, ρ 16, ρ 17, ρ 18, ρ 19] (γ 1) := hJ
  obtain ⟨r0, r1, r2, r3, r4, r5, r6, r7, r8, r9, r10, r11, r12, r13, r14, r15, r16, r17, r18, r19, r20, r21, r22, r23, r24, r25, r26, r27, r28, r29, r30, r31, r32, r33, -⟩ := hr
  have r0 : (0 : Int) ≤ ρ 0 ∧ ρ 0 ≤ 59 := r0
  have r1 : (0 : Int) ≤ ρ 1 ∧ ρ 1 ≤ 60 := r1
  have r2 : (0 : Int) ≤ ρ 2 ∧ ρ 2 ≤ 20 := r2
  have r3 : (1 : Int) ≤ ρ 3 ∧ ρ 3 ≤ 1 := r3
  have r4 : (0 : Int) ≤ ρ 4 ∧ ρ 4 ≤ 50001 := r4
  have r5 : (0 : Int) ≤ ρ 5 ∧ ρ 5 ≤ 3 := r5
  have r6 : (0 : Int) ≤ ρ 6 ∧ ρ 6 ≤ 2000 := r6
  have r7 : (0 : Int) ≤ ρ 7 ∧ ρ 7 ≤ 19 := r7
  have r8 : (0 : Int) ≤ ρ 8 ∧ ρ 8 ≤ 61 := r8
  have r9 : (0 : Int) ≤ ρ 9 ∧ ρ 9 ≤ 2000 := r9
  have r10 : ((-2147483648) : Int) ≤ ρ 10 ∧ ρ 10 ≤ 2147483647 := r10
  have r11 : (0 : Int) ≤ ρ 11 ∧ ρ 11 ≤ 2000 := r11
  have r12 : (0 : Int) ≤ ρ 12 ∧ ρ 12 ≤ 2000 := r12
  have r13 : (0 : Int) ≤ ρ 13 ∧ ρ 13 ≤ 2000 := r13
  have r14 : (0 : Int) ≤ ρ 14 ∧ ρ 14 ≤ 50001 := r14
  have r15 : (0 : Int) ≤ ρ 15 ∧ ρ 15 ≤ 2000 := r15
  have r16 : (0 : Int) ≤ ρ 16 ∧ ρ 16 ≤ 50001 := r16
  have r17 : (0 : Int) ≤ ρ 17 ∧ ρ 17 ≤ 0 := r17
  have r18 : (0 : Int) ≤ ρ 18 ∧ ρ 18 ≤ 2000 := r18
  have r19 : (0 : Int) ≤ ρ 19 ∧ ρ 19 ≤ 2000 := r19
  have r20 : ((-2147483648) : Int) ≤ ρ 20 ∧ ρ 20 ≤ 2147483647 := r20
  have r21 : (2 : Int) ≤ ρ 21 ∧ ρ 21 ≤ 2 := r21
  have r22 : (3 : Int) ≤ ρ 22 ∧ ρ 22 ≤ 3 := r22
  have r23 : (3 : Int) ≤ ρ 23 ∧ ρ 23 ≤ 3 := r23
  have r24 : ((-2147483648) : Int) ≤ ρ 24 ∧ ρ 24 ≤ 1099511640064 := r24
  have r25 : ((-2147483648) : Int) ≤ ρ 25 ∧ ρ 25 ≤ 1099511640064 := r25
  have r26 : (0 : Int) ≤ ρ 26 ∧ ρ 26 ≤ 8 := r26
  have r27 : ((-1) : Int) ≤ ρ 27 ∧ ρ 27 ≤ 1999 := r27
  have r28 : (0 : Int) ≤ ρ 28 ∧ ρ 28 ≤ 1999 := r28
  have r29 : (1 : Int) ≤ ρ 29 ∧ ρ 29 ≤ 2000 := r29
  have r30 : (0 : Int) ≤ ρ 30 ∧ ρ 30 ≤ 8 := r30
  have r31 : ((-1) : Int) ≤ ρ 31 ∧ ρ 31 ≤ 1999 := r31
  have r32 : (0 : Int) ≤ ρ 32 ∧ ρ 32 ≤ 1999 := r32
  have r33 : (0 : Int) ≤ ρ 33 ∧ ρ 33 ≤ 3 := r33
  obtain ⟨f0, f1, f2, f3, f4, f5, f6, f7, f8, f9, -⟩ := hf
  have f0 : (0 : Int) ≤ -ρ 7 + ρ 2 + (-1) := f0
  have f1 : (0 : Int) ≤ ρ 29 + -ρ 19 := f1
  have f2 : (0 : Int) ≤ ρ 31 + -ρ 27 := f2
  have f3 : (0 : Int) ≤ ρ 18 + -ρ 15 + (-1) := f3
  have f4 : (0 : Int) ≤ ρ 17 + -ρ 16 + 50000 := f4
  have f5 : (0 : Int) ≤ ρ 1 + -ρ 0 + (-1) := f5
  have f6 : (0 : Int) ≤ ρ 19 + -ρ 9 := f6
  have f7 : (0 : Int) ≤ ρ 18 + -ρ 15 := f7
  have f8 : (0 : Int) ≤ ρ 17 + -ρ 5 := f8
  have f9 : (0 : Int) ≤ ρ 16 + -ρ 4 := f9
  obtain ⟨m0, m1, m2, m3, m4, m5, m6, m7, m8, m9, m10, m11, m12, m13, m14, m15, m16, m17, m18, m19, m20, m21, m22, m23, m24, m25, m26, m27, m28, m29, m30, m31, m32, -⟩ := hm
  have m0 : γ 0 15 0 32 = ρ 1 := m0
  have m1 : γ 0 15 0 13 = ρ 2 := m1
  have m2 : γ 0 71 0 (ρ 0) = ρ 3 := m2
  have m3 : γ 0 15 0 72 = ρ 4 := m3
  have m4 : γ 0 15 0 77 = ρ 5 := m4
  have m5 : γ 0 15 0 90 = ρ 6 := m5
  have m6 : γ 0 69 0 (ρ 0) = ρ 7 := m6
  have m7 : γ 0 15 0 44 = ρ 8 := m7
  have m8 : γ 0 15 0 71 = ρ 9 := m8
  have m9 : γ 0 15 0 76 = ρ 10 := m9
  have m10 : γ 0 15 0 81 = ρ 11 := m10
  have m11 : γ 0 15 0 82 = ρ 12 := m11
  have m12 : γ 0 15 0 83 = ρ 13 := m12
  have m13 : γ 0 15 0 94 = ρ 14 := m13
  have m14 : γ 1 15 0 72 = ρ 16 := m14
  have m15 : γ 1 15 0 77 = ρ 17 := m15
  have m16 : γ 1 15 0 90 = ρ 18 := m16
  have m17 : γ 1 15 0 71 = ρ 19 := m17
  have m18 : γ 1 15 0 81 = ρ 9 := m18
  have m19 : γ 1 106 0 (ρ 15) = ρ 20 := m19
  have m20 : γ 0 66 0 (ρ 7) = ρ 21 := m20
  have m21 : γ 0 70 0 (4 * ρ 0) = ρ 22 := m21
  have m22 : γ 0 70 0 (4 * ρ 0 + 1) = ρ 23 := m22
  have m23 : γ 1 105 0 (4 * ρ 15 + 2) = ρ 24 := m23
  have m24 : γ 1 105 0 (4 * ρ 15 + 3) = ρ 25 := m24
  have m25 : γ 1 97 0 (ρ 19) = ρ 26 := m25
  have m26 : γ 1 100 0 (ρ 7) = ρ 27 := m26
  have m27 : γ 1 101 0 (ρ 7) = ρ 28 := m27
  have m28 : γ 6 15 0 71 = ρ 29 := m28
  have m29 : γ 6 97 0 (ρ 19) = ρ 30 := m29
  have m30 : γ 6 100 0 (ρ 7) = ρ 31 := m30
  have m31 : γ 6 101 0 (ρ 7) = ρ 32 := m31
  have m32 : γ 6 15 0 77 = ρ 33 := m32
  obtain ⟨⟨⟨⟨⟨⟨-, c1⟩, c2⟩, c3⟩, c4⟩, c5⟩, c6⟩ := hc
  have c1 : ∀ (G : Nat) (k j : Int), ¬ rMdP m51_ G j → γ 1 G k j = γ 0 G k j := c1
  have c2 : γ 2 = rUp (γ 1) 102 0 0 (ρ 20) := c2
  have c3 : γ 3 = rUp (γ 2) 102 0 1 (ρ 20) := c3
  have c4 : γ 4 = rUp (γ 3) 102 0 2 (ρ 24) := c4
  have c5 : γ 5 = rUp (γ 4) 102 0 3 (ρ 25) := c5
  have c6 : ∀ (G : Nat) (k j : Int), ¬ rMdP m40_ G j → γ 6 G k j = γ 5 G k j := c6
  obtain ⟨l0, -⟩ := hl
  have l0 : sn57 [ρ 7, ρ 0, ρ 2, ρ 19, ρ 26, ρ 27, ρ 28, ρ 10, ρ 17] (γ 5) 0 0 (γ 6) := hS57 _ _ _ _ _ l0
  show jn75 [ρ 0, ρ 1, ρ 2, ρ 3, ρ 4, ρ 5, ρ 6, ρ 7, ρ 8, ρ 9, ρ 10, ρ 11, ρ 12, ρ 13, ρ 14] (γ 0) 0 [ρ 0, ρ 1, ρ 2, ρ 3, ρ 4, ρ 5, ρ 6, ρ 7, ρ 8, ρ 9, ρ 10, ρ 11, ρ 12, ρ 13, ρ 14, ρ 15 + 1, ρ 16, ρ 33, ρ 18, ρ 29] (γ 6)
  have hD : en75 (γ 0) (0, [ρ 0, ρ 15], γ 1) = .inl (0, [ρ 0, ρ 15 + 1], γ 6) := by
    unfold en75
    refine (if_pos (show (0 : Nat) = 0 by decide)).trans ?_
    refine (zLet_eq (show _ = γ 1 from rfl)).trans ?_
    refine (zLet_eq (show _ = ρ 0 from rfl)).trans ?_
    refine (zLet_eq (show _ = ρ 15 from rfl)).trans ?_
    refine (zLet_eq m2).trans ?_
    refine (zLet_eq m6).trans ?_
    refine (zLet_eq m15).trans ?_
    refine (zLet_eq m16).trans ?_
    refine (if_neg (show ¬ (ρ 15 ≥ ρ 18) by omega)).trans ?_
    refine (if_neg (show ¬ (ρ 17 ≠ 0) by omega)).trans ?_
    refine (if_pos (show ρ 3 ≤ 2 by omega)).trans ?_
    refine (if_neg (show ¬ (ρ 3 ≠ 1) by omega)).trans ?_
    refine (zLet_eq m19).trans ?_
    refine (zLet_eq m20).trans ?_
    refine (if_neg (show ¬ (0 ≥ ρ 21) by omega)).trans ?_
    refine (zLet_eq m21).trans ?_
    refine (if_neg (show ¬ (ρ 22 ≠ 3) by omega)).trans ?_
    refine (zLet_eq c2.symm).trans ?_
    refine (if_neg (show ¬ (1 ≥ ρ 21) by omega)).trans ?_
    refine (zLet_eq m22).trans ?_
    refine (if_neg (show ¬ (ρ 23 ≠ 3) by omega)).trans ?_
    refine (zLet_eq c3.symm).trans ?_
    refine (if_pos (show 2 ≥ ρ 21 by omega)).trans ?_
    refine (zLet_eq m23).trans ?_
    refine (zLet_eq c4.symm).trans ?_
    refine (zLet_eq m24).trans ?_
    refine (zLet_eq c5.symm).trans ?_
    refine (zLet_eq (show fn57 [ρ 7, ρ 0] (γ 5) = (0, 0, γ 6) from l0.symm)).trans ?_
    refine (zLet_eq (show _ = γ 6 from rfl)).trans ?_
    rfl
  exact zGoo_ato hJ hD
theorem vn75a0_58 {S : Nat → zSpc} (hS57 : ∀ x g o v gz, S 57 x g o v gz → sn57 x g o v gz) (hS73 : ∀ x g o v gz, S 73 x g o v gz → sn73 x g o v gz) {a : List Int} {g : rHp} : ∀ (ρ : Nat → Int) (γ : Nat → rHp), jn75 a g 0 (zAg (zNA a75_ 0) ρ) (γ 1) → zO 15 S a g q75a0_58 ρ γ → zGl (fun i vs g1 => jn75 a g i vs g1) (sn75 a g) q75a0_58 ρ γ := by
  intro ρ γ hJ h
  obtain ⟨ha, hg, hr, hf, hm, hc, hl⟩ := h
  have ha : a = [ρ 0, ρ 1, ρ 2, ρ 3, ρ 4, ρ 5, ρ 6, ρ 7, ρ 8, ρ 9, ρ 10, ρ 11, ρ 12, ρ 13, ρ 14] := ha
  subst ha
  subst hg
  have hJ : jn75 [ρ 0, ρ 1, ρ 2, ρ 3, ρ 4, ρ 5, ρ 6, ρ 7, ρ 8, ρ 9, ρ 10, ρ 11, ρ 12, ρ 13, ρ 14] (γ 0) 0 [ρ 0, ρ 1, ρ 2, ρ 3, ρ 4, ρ 5, ρ 6, ρ 7, ρ 8, ρ 9, ρ 10, ρ 11, ρ 12, ρ 13, ρ 14, ρ 15, ρ 16, ρ 17, ρ 18, ρ 19] (γ 1) := hJ
  obtain ⟨r0, r1, r2, r3, r4, r5, r6, r7, r8, r9, r10, r11, r12, r13, r14, r15, r16, r17, r18, r19, r20, r21, r22, r23, r24, r25, r26, r27, r28, r29, r30, r31, r32, r33, r34, -⟩ := hr
  have r0 : (0 : Int) ≤ ρ 0 ∧ ρ 0 ≤ 59 := r0
  have r1 : (0 : Int) ≤ ρ 1 ∧ ρ 1 ≤ 60 := r1
  have r2 : (0 : Int) ≤ ρ 2 ∧ ρ 2 ≤ 20 := r2
  have r3 : (1 : Int) ≤ ρ 3 ∧ ρ 3 ≤ 1 := r3
  have r4 : (0 : Int) ≤ ρ 4 ∧ ρ 4 ≤ 50001 := r4
  have r5 : (0 : Int) ≤ ρ 5 ∧ ρ 5 ≤ 3 := r5
  have r6 : (0 : Int) ≤ ρ 6 ∧ ρ 6 ≤ 2000 := r6
  have r7 : (0 : Int) ≤ ρ 7 ∧ ρ 7 ≤ 19 := r7
  have r8 : (0 : Int) ≤ ρ 8 ∧ ρ 8 ≤ 61 := r8
  have r9 : (0 : Int) ≤ ρ 9 ∧ ρ 9 ≤ 2000 := r9
  have r10 : ((-2147483648) : Int) ≤ ρ 10 ∧ ρ 10 ≤ 2147483647 := r10
  have r11 : (0 : Int) ≤ ρ 11 ∧ ρ 11 ≤ 2000 := r11
  have r12 : (0 : Int) ≤ ρ 12 ∧ ρ 12 ≤ 2000 := r12
  have r13 : (0 : Int) ≤ ρ 13 ∧ ρ 13 ≤ 2000 := r13
  have r14 : (0 : Int) ≤ ρ 14 ∧ ρ 14 ≤ 50001 := r14
  have r15 : (0 : Int) ≤ ρ 15 ∧ ρ 15 ≤ 2000 := r15
  have r16 : (0 : Int) ≤ ρ 16 ∧ ρ 16 ≤ 50001 := r16
  have r17 : (0 : Int) ≤ ρ 17 ∧ ρ 17 ≤ 0 := r17
  have r18 : (0 : Int) ≤ ρ 18 ∧ ρ 18 ≤ 2000 := r18
  have r19 : (0 : Int) ≤ ρ 19 ∧ ρ 19 ≤ 2000 := r19
  have r20 : ((-2147483648) : Int) ≤ ρ 20 ∧ ρ 20 ≤ 2147483647 := r20
  have r21 : (3 : Int) ≤ ρ 21 ∧ ρ 21 ≤ 3 := r21
  have r22 : (3 : Int) ≤ ρ 22 ∧ ρ 22 ≤ 3 := r22
  have r23 : (3 : Int) ≤ ρ 23 ∧ ρ 23 ≤ 3 := r23
  have r24 : (0 : Int) ≤ ρ 24 ∧ ρ 24 ≤ 2 := r24
  have r25 : ((-2147483648) : Int) ≤ ρ 25 ∧ ρ 25 ≤ 1099511640064 := r25
  have r26 : ((-2147483648) : Int) ≤ ρ 26 ∧ ρ 26 ≤ 1099511640064 := r26
  have r27 : (0 : Int) ≤ ρ 27 ∧ ρ 27 ≤ 8 := r27
  have r28 : ((-1) : Int) ≤ ρ 28 ∧ ρ 28 ≤ 1999 := r28
  have r29 : (0 : Int) ≤ ρ 29 ∧ ρ 29 ≤ 1999 := r29
  have r30 : (1 : Int) ≤ ρ 30 ∧ ρ 30 ≤ 2000 := r30
  have r31 : (0 : Int) ≤ ρ 31 ∧ ρ 31 ≤ 8 := r31
  have r32 : ((-1) : Int) ≤ ρ 32 ∧ ρ 32 ≤ 1999 := r32
  have r33 : (0 : Int) ≤ ρ 33 ∧ ρ 33 ≤ 1999 := r33
  have r34 : (0 : Int) ≤ ρ 34 ∧ ρ 34 ≤ 3 := r34
  obtain ⟨f0, f1, f2, f3, f4, f5, f6, f7, f8, f9, -⟩ := hf
  have f0 : (0 : Int) ≤ -ρ 7 + ρ 2 + (-1) := f0
  have f1 : (0 : Int) ≤ ρ 30 + -ρ 19 := f1
  have f2 : (0 : Int) ≤ ρ 32 + -ρ 28 := f2
  have f3 : (0 : Int) ≤ ρ 18 + -ρ 15 + (-1) := f3
  have f4 : (0 : Int) ≤ ρ 17 + -ρ 16 + 50000 := f4
  have f5 : (0 : Int) ≤ ρ 1 + -ρ 0 + (-1) := f5
  have f6 : (0 : Int) ≤ ρ 19 + -ρ 9 := f6
  have f7 : (0 : Int) ≤ ρ 18 + -ρ 15 := f7
  have f8 : (0 : Int) ≤ ρ 17 + -ρ 5 := f8
  have f9 : (0 : Int) ≤ ρ 16 + -ρ 4 := f9
  obtain ⟨m0, m1, m2, m3, m4, m5, m6, m7, m8, m9, m10, m11, m12, m13, m14, m15, m16, m17, m18, m19, m20, m21, m22, m23, m24, m25, m26, m27, m28, m29, m30, m31, m32, m33, -⟩ := hm
  have m0 : γ 0 15 0 32 = ρ 1 := m0
  have m1 : γ 0 15 0 13 = ρ 2 := m1
  have m2 : γ 0 71 0 (ρ 0) = ρ 3 := m2
  have m3 : γ 0 15 0 72 = ρ 4 := m3
  have m4 : γ 0 15 0 77 = ρ 5 := m4
  have m5 : γ 0 15 0 90 = ρ 6 := m5
  have m6 : γ 0 69 0 (ρ 0) = ρ 7 := m6
  have m7 : γ 0 15 0 44 = ρ 8 := m7
  have m8 : γ 0 15 0 71 = ρ 9 := m8
  have m9 : γ 0 15 0 76 = ρ 10 := m9
  have m10 : γ 0 15 0 81 = ρ 11 := m10
  have m11 : γ 0 15 0 82 = ρ 12 := m11
  have m12 : γ 0 15 0 83 = ρ 13 := m12
  have m13 : γ 0 15 0 94 = ρ 14 := m13
  have m14 : γ 1 15 0 72 = ρ 16 := m14
  have m15 : γ 1 15 0 77 = ρ 17 := m15
  have m16 : γ 1 15 0 90 = ρ 18 := m16
  have m17 : γ 1 15 0 71 = ρ 19 := m17
  have m18 : γ 1 15 0 81 = ρ 9 := m18
  have m19 : γ 1 106 0 (ρ 15) = ρ 20 := m19
  have m20 : γ 0 66 0 (ρ 7) = ρ 21 := m20
  have m21 : γ 0 70 0 (4 * ρ 0) = ρ 22 := m21
  have m22 : γ 0 70 0 (4 * ρ 0 + 1) = ρ 23 := m22
  have m23 : γ 0 70 0 (4 * ρ 0 + 2) = ρ 24 := m23
  have m24 : γ 1 105 0 (4 * ρ 15 + 2) = ρ 25 := m24
  have m25 : γ 1 105 0 (4 * ρ 15 + 3) = ρ 26 := m25
  have m26 : γ 1 97 0 (ρ 19) = ρ 27 := m26
  have m27 : γ 1 100 0 (ρ 7) = ρ 28 := m27
  have m28 : γ 1 101 0 (ρ 7) = ρ 29 := m28
  have m29 : γ 6 15 0 71 = ρ 30 := m29
  have m30 : γ 6 97 0 (ρ 19) = ρ 31 := m30
  have m31 : γ 6 100 0 (ρ 7) = ρ 32 := m31
  have m32 : γ 6 101 0 (ρ 7) = ρ 33 := m32
  have m33 : γ 6 15 0 77 = ρ 34 := m33
  obtain ⟨⟨⟨⟨⟨⟨-, c1⟩, c2⟩, c3⟩, c4⟩, c5⟩, c6⟩ := hc
  have c1 : ∀ (G : Nat) (k j : Int), ¬ rMdP m51_ G j → γ 1 G k j = γ 0 G k j := c1
  have c2 : γ 2 = rUp (γ 1) 102 0 0 (ρ 20) := c2
  have c3 : γ 3 = rUp (γ 2) 102 0 1 (ρ 20) := c3
  have c4 : γ 4 = rUp (γ 3) 102 0 2 (ρ 25) := c4
  have c5 : γ 5 = rUp (γ 4) 102 0 3 (ρ 26) := c5
  have c6 : ∀ (G : Nat) (k j : Int), ¬ rMdP m40_ G j → γ 6 G k j = γ 5 G k j := c6
  obtain ⟨l0, -⟩ := hl
  have l0 : sn57 [ρ 7, ρ 0, ρ 2, ρ 19, ρ 27, ρ 28, ρ 29, ρ 10, ρ 17] (γ 5) 0 0 (γ 6) := hS57 _ _ _ _ _ l0
  show jn75 [ρ 0, ρ 1, ρ 2, ρ 3, ρ 4, ρ 5, ρ 6, ρ 7, ρ 8, ρ 9, ρ 10, ρ 11, ρ 12, ρ 13, ρ 14] (γ 0) 0 [ρ 0, ρ 1, ρ 2, ρ 3, ρ 4, ρ 5, ρ 6, ρ 7, ρ 8, ρ 9, ρ 10, ρ 11, ρ 12, ρ 13, ρ 14, ρ 15 + 1, ρ 16, ρ 34, ρ 18, ρ 30] (γ 6)
  have hD : en75 (γ 0) (0, [ρ 0, ρ 15], γ 1) = .inl (0, [ρ 0, ρ 15 + 1], γ 6) := by
    unfold en75
    refine (if_pos (show (0 : Nat) = 0 by decide)).trans ?_
    refine (zLet_eq (show _ = γ 1 from rfl)).trans ?_
    refine (zLet_eq (show _ = ρ 0 from rfl)).trans ?_
    refine (zLet_eq (show _ = ρ 15 from rfl)).trans ?_
    refine (zLet_eq m2).trans ?_
    refine (zLet_eq m6).trans ?_
    refine (zLet_eq m15).trans ?_
    refine (zLet_eq m16).trans ?_
    refine (if_neg (show ¬ (ρ 15 ≥ ρ 18) by omega)).trans ?_
    refine (if_neg (show ¬ (ρ 17 ≠ 0) by omega)).trans ?_
    refine (if_pos (show ρ 3 ≤ 2 by omega)).trans ?_
    refine (if_neg (show ¬ (ρ 3 ≠ 1) by omega)).trans ?_
    refine (zLet_eq m19).trans ?_
    refine (zLet_eq m20).trans ?_
    refine (if_neg (show ¬ (0 ≥ ρ 21) by omega)).trans ?_
    refine (zLet_eq m21).trans ?_
    refine (if_neg (show ¬ (ρ 22 ≠ 3) by omega)).trans ?_
    refine (zLet_eq c2.symm).trans ?_
    refine (if_neg (show ¬ (1 ≥ ρ 21) by omega)).trans ?_
    refine (zLet_eq m22).trans ?_
    refine (if_neg (show ¬ (ρ 23 ≠ 3) by omega)).trans ?_
    refine (zLet_eq c3.symm).trans ?_
    refine (if_neg (show ¬ (2 ≥ ρ 21) by omega)).trans ?_
    refine (zLet_eq m23).trans ?_
    refine (if_pos (show ρ 24 ≠ 3 by omega)).trans ?_
    refine (zLet_eq m24).trans ?_
    refine (zLet_eq c4.symm).trans ?_
    refine (if_pos (show 3 ≥ ρ 21 by omega)).trans ?_
    refine (zLet_eq m25).trans ?_
    refine (zLet_eq c5.symm).trans ?_
    refine (zLet_eq (show fn57 [ρ 7, ρ 0] (γ 5) = (0, 0, γ 6) from l0.symm)).trans ?_
    refine (zLet_eq (show _ = γ 6 from rfl)).trans ?_
    rfl
  exact zGoo_ato hJ hD
theorem vn75a0_59 {S : Nat → zSpc} (hS57 : ∀ x g o v gz, S 57 x g o v gz → sn57 x g o v gz) (hS73 : ∀ x g o v gz, S 73 x g o v gz → sn73 x g o v gz) {a : List Int} {g : rHp} : ∀ (ρ : Nat → Int) (γ : Nat → rHp), jn75 a g 0 (zAg (zNA a75_ 0) ρ) (γ 1) → zO 15 S a g q75a0_59 ρ γ → zGl (fun i vs g1 => jn75 a g i vs g1) (sn75 a g) q75a0_59 ρ γ := by
  intro ρ γ hJ h
  obtain ⟨ha, hg, hr, hf, hm, hc, hl⟩ := h
  have ha : a = [ρ 0, ρ 1, ρ 2, ρ 3, ρ 4, ρ 5, ρ 6, ρ 7, ρ 8, ρ 9, ρ 10, ρ 11, ρ 12, ρ 13, ρ 14] := ha
  subst ha
  subst hg
  have hJ : jn75 [ρ 0, ρ 1, ρ 2, ρ 3, ρ 4, ρ 5, ρ 6, ρ 7, ρ 8, ρ 9, ρ 10, ρ 11, ρ 12, ρ 13, ρ 14] (γ 0) 0 [ρ 0, ρ 1, ρ 2, ρ 3, ρ 4, ρ 5, ρ 6, ρ 7, ρ 8, ρ 9, ρ 10, ρ 11, ρ 12, ρ 13, ρ 14, ρ 15, ρ 16, ρ 17, ρ 18, ρ 19] (γ 1) := hJ
  obtain ⟨r0, r1, r2, r3, r4, r5, r6, r7, r8, r9, r10, r11, r12, r13, r14, r15, r16, r17, r18, r19, r20, r21, r22, r23, r24, r25, r26, r27, r28, r29, r30, r31, r32, r33, r34, r35, -⟩ := hr
  have r0 : (0 : Int) ≤ ρ 0 ∧ ρ 0 ≤ 59 := r0
  have r1 : (0 : Int) ≤ ρ 1 ∧ ρ 1 ≤ 60 := r1
  have r2 : (0 : Int) ≤ ρ 2 ∧ ρ 2 ≤ 20 := r2
  have r3 : (1 : Int) ≤ ρ 3 ∧ ρ 3 ≤ 1 := r3
  have r4 : (0 : Int) ≤ ρ 4 ∧ ρ 4 ≤ 50001 := r4
  have r5 : (0 : Int) ≤ ρ 5 ∧ ρ 5 ≤ 3 := r5
  have r6 : (0 : Int) ≤ ρ 6 ∧ ρ 6 ≤ 2000 := r6
  have r7 : (0 : Int) ≤ ρ 7 ∧ ρ 7 ≤ 19 := r7
  have r8 : (0 : Int) ≤ ρ 8 ∧ ρ 8 ≤ 61 := r8
  have r9 : (0 : Int) ≤ ρ 9 ∧ ρ 9 ≤ 2000 := r9
  have r10 : ((-2147483648) : Int) ≤ ρ 10 ∧ ρ 10 ≤ 2147483647 := r10
  have r11 : (0 : Int) ≤ ρ 11 ∧ ρ 11 ≤ 2000 := r11
  have r12 : (0 : Int) ≤ ρ 12 ∧ ρ 12 ≤ 2000 := r12
  have r13 : (0 : Int) ≤ ρ 13 ∧ ρ 13 ≤ 2000 := r13
  have r14 : (0 : Int) ≤ ρ 14 ∧ ρ 14 ≤ 50001 := r14
  have r15 : (0 : Int) ≤ ρ 15 ∧ ρ 15 ≤ 2000 := r15
  have r16 : (0 : Int) ≤ ρ 16 ∧ ρ 16 ≤ 50001 := r16
  have r17 : (0 : Int) ≤ ρ 17 ∧ ρ 17 ≤ 0 := r17
  have r18 : (0 : Int) ≤ ρ 18 ∧ ρ 18 ≤ 2000 := r18
  have r19 : (0 : Int) ≤ ρ 19 ∧ ρ 19 ≤ 2000 := r19
  have r20 : ((-2147483648) : Int) ≤ ρ 20 ∧ ρ 20 ≤ 2147483647 := r20
  have r21 : (4 : Int) ≤ ρ 21 ∧ ρ 21 ≤ 4 := r21
  have r22 : (3 : Int) ≤ ρ 22 ∧ ρ 22 ≤ 3 := r22
  have r23 : (3 : Int) ≤ ρ 23 ∧ ρ 23 ≤ 3 := r23
  have r24 : (0 : Int) ≤ ρ 24 ∧ ρ 24 ≤ 2 := r24
  have r25 : ((-2147483648) : Int) ≤ ρ 25 ∧ ρ 25 ≤ 1099511640064 := r25
  have r26 : (0 : Int) ≤ ρ 26 ∧ ρ 26 ≤ 2 := r26
  have r27 : ((-2147483648) : Int) ≤ ρ 27 ∧ ρ 27 ≤ 1099511640064 := r27
  have r28 : (0 : Int) ≤ ρ 28 ∧ ρ 28 ≤ 8 := r28
  have r29 : ((-1) : Int) ≤ ρ 29 ∧ ρ 29 ≤ 1999 := r29
  have r30 : (0 : Int) ≤ ρ 30 ∧ ρ 30 ≤ 1999 := r30
  have r31 : (1 : Int) ≤ ρ 31 ∧ ρ 31 ≤ 2000 := r31
  have r32 : (0 : Int) ≤ ρ 32 ∧ ρ 32 ≤ 8 := r32
  have r33 : ((-1) : Int) ≤ ρ 33 ∧ ρ 33 ≤ 1999 := r33
  have r34 : (0 : Int) ≤ ρ 34 ∧ ρ 34 ≤ 1999 := r34
  have r35 : (0 : Int) ≤ ρ 35 ∧ ρ 35 ≤ 3 := r35
  obtain ⟨f0, f1, f2, f3, f4, f5, f6, f7, f8, f9, -⟩ := hf
  have f0 : (0 : Int) ≤ -ρ 7 + ρ 2 + (-1) := f0
  have f1 : (0 : Int) ≤ ρ 31 + -ρ 19 := f1
  have f2 : (0 : Int) ≤ ρ 33 + -ρ 29 := f2
  have f3 : (0 : Int) ≤ ρ 18 + -ρ 15 + (-1) := f3
  have f4 : (0 : Int) ≤ ρ 17 + -ρ 16 + 50000 := f4
  have f5 : (0 : Int) ≤ ρ 1 + -ρ 0 + (-1) := f5
  have f6 : (0 : Int) ≤ ρ 19 + -ρ 9 := f6
  have f7 : (0 : Int) ≤ ρ 18 + -ρ 15 := f7
  have f8 : (0 : Int) ≤ ρ 17 + -ρ 5 := f8
  have f9 : (0 : Int) ≤ ρ 16 + -ρ 4 := f9
  obtain ⟨m0, m1, m2, m3, m4, m5, m6, m7, m8, m9, m10, m11, m12, m13, m14, m15, m16, m17, m18, m19, m20, m21, m22, m23, m24, m25, m26, m27, m28, m29, m30, m31, m32, m33, m34, -⟩ := hm
  have m0 : γ 0 15 0 32 = ρ 1 := m0
  have m1 : γ 0 15 0 13 = ρ 2 := m1
  have m2 : γ 0 71 0 (ρ 0) = ρ 3 := m2
  have m3 : γ 0 15 0 72 = ρ 4 := m3
  have m4 : γ 0 15 0 77 = ρ 5 := m4
  have m5 : γ 0 15 0 90 = ρ 6 := m5
  have m6 : γ 0 69 0 (ρ 0) = ρ 7 := m6
  have m7 : γ 0 15 0 44 = ρ 8 := m7
  have m8 : γ 0 15 0 71 = ρ 9 := m8
  have m9 : γ 0 15 0 76 = ρ 10 := m9
  have m10 : γ 0 15 0 81 = ρ 11 := m10
  have m11 : γ 0 15 0 82 = ρ 12 := m11
  have m12 : γ 0 15 0 83 = ρ 13 := m12
  have m13 : γ 0 15 0 94 = ρ 14 := m13
  have m14 : γ 1 15 0 72 = ρ 16 := m14
  have m15 : γ 1 15 0 77 = ρ 17 := m15
  have m16 : γ 1 15 0 90 = ρ 18 := m16
  have m17 : γ 1 15 0 71 = ρ 19 := m17
  have m18 : γ 1 15 0 81 = ρ 9 := m18
  have m19 : γ 1 106 0 (ρ 15) = ρ 20 := m19
  have m20 : γ 0 66 0 (ρ 7) = ρ 21 := m20
  have m21 : γ 0 70 0 (4 * ρ 0) = ρ 22 := m21
  have m22 : γ 0 70 0 (4 * ρ 0 + 1) = ρ 23 := m22
  have m23 : γ 0 70 0 (4 * ρ 0 + 2) = ρ 24 := m23
  have m24 : γ 1 105 0 (4 * ρ 15 + 2) = ρ 25 := m24
  have m25 : γ 0 70 0 (4 * ρ 0 + 3) = ρ 26 := m25
  have m26 : γ 1 105 0 (4 * ρ 15 + 3) = ρ 27 := m26
  have m27 : γ 1 97 0 (ρ 19) = ρ 28 := m27
  have m28 : γ 1 100 0 (ρ 7) = ρ 29 := m28
  have m29 : γ 1 101 0 (ρ 7) = ρ 30 := m29
  have m30 : γ 6 15 0 71 = ρ 31 := m30
  have m31 : γ 6 97 0 (ρ 19) = ρ 32 := m31
  have m32 : γ 6 100 0 (ρ 7) = ρ 33 := m32
  have m33 : γ 6 101 0 (ρ 7) = ρ 34 := m33
  have m34 : γ 6 15 0 77 = ρ 35 := m34
  obtain ⟨⟨⟨⟨⟨⟨-, c1⟩, c2⟩, c3⟩, c4⟩, c5⟩, c6⟩ := hc
  have c1 : ∀ (G : Nat) (k j : Int), ¬ rMdP m51_ G j → γ 1 G k j = γ 0 G k j := c1
  have c2 : γ 2 = rUp (γ 1) 102 0 0 (ρ 20) := c2
  have c3 : γ 3 = rUp (γ 2) 102 0 1 (ρ 20) := c3
  have c4 : γ 4 = rUp (γ 3) 102 0 2 (ρ 25) := c4
  have c5 : γ 5 = rUp (γ 4) 102 0 3 (ρ 27) := c5
  have c6 : ∀ (G : Nat) (k j : Int), ¬ rMdP m40_ G j → γ 6 G k j = γ 5 G k j := c6
  obtain ⟨l0, -⟩ := hl
  have l0 : sn57 [ρ 7, ρ 0, ρ 2, ρ 19, ρ 28, ρ 29, ρ 30, ρ 10, ρ 17] (γ 5) 0 0 (γ 6) := hS57 _ _ _ _ _ l0
  show jn75 [ρ 0, ρ 1, ρ 2, ρ 3, ρ 4, ρ 5, ρ 6, ρ 7, ρ 8, ρ 9, ρ 10, ρ 11, ρ 12, ρ 13, ρ 14] (γ 0) 0 [ρ 0, ρ 1, ρ 2, ρ 3, ρ 4, ρ 5, ρ 6, ρ 7, ρ 8, ρ 9, ρ 10, ρ 11, ρ 12, ρ 13, ρ 14, ρ 15 + 1, ρ 16, ρ 35, ρ 18, ρ 31] (γ 6)
  have hD : en75 (γ 0) (0, [ρ 0, ρ 15], γ 1) = .inl (0, [ρ 0, ρ 15 + 1], γ 6) := by
    unfold en75
    refine (if_pos (show (0 : Nat) = 0 by decide)).trans ?_
    refine (zLet_eq (show _ = γ 1 from rfl)).trans ?_
    refine (zLet_eq (show _ = ρ 0 from rfl)).trans ?_
    refine (zLet_eq (show _ = ρ 15 from rfl)).trans ?_
    refine (zLet_eq m2).trans ?_
    refine (zLet_eq m6).trans ?_
    refine (zLet_eq m15).trans ?_
    refine (zLet_eq m16).trans ?_
    refine (if_neg (show ¬ (ρ 15 ≥ ρ 18) by omega)).trans ?_
    refine (if_neg (show ¬ (ρ 17 ≠ 0) by omega)).trans ?_
    refine (if_pos (show ρ 3 ≤ 2 by omega)).trans ?_
    refine (if_neg (show ¬ (ρ 3 ≠ 1) by omega)).trans ?_
    refine (zLet_eq m19).trans ?_
    refine (zLet_eq m20).trans ?_
    refine (if_neg (show ¬ (0 ≥ ρ 21) by omega)).trans ?_
    refine (zLet_eq m21).trans ?_
    refine (if_neg (show ¬ (ρ 22 ≠ 3) by omega)).trans ?_
    refine (zLet_eq c2.symm).trans ?_
    refine (if_neg (show ¬ (1 ≥ ρ 21) by omega)).trans ?_
    refine (zLet_eq m22).trans ?_
    refine (if_neg (show ¬ (ρ 23 ≠ 3) by omega)).trans ?_
    refine (zLet_eq c3.symm).trans ?_
    refine (if_neg (show ¬ (2 ≥ ρ 21) by omega)).trans ?_
    refine (zLet_eq m23).trans ?_
    refine (if_pos (show ρ 24 ≠ 3 by omega)).trans ?_
    refine (zLet_eq m24).trans ?_
    refine (zLet_eq c4.symm).trans ?_
    refine (if_neg (show ¬ (3 ≥ ρ 21) by omega)).trans ?_
    refine (zLet_eq m25).trans ?_
    refine (if_pos (show ρ 26 ≠ 3 by omega)).trans ?_
    refine (zLet_eq m26).trans ?_
    refine (zLet_eq c5.symm).trans ?_
    refine (zLet_eq (show fn57 [ρ 7, ρ 0] (γ 5) = (0, 0, γ 6) from l0.symm)).trans ?_
    refine (zLet_eq (show _ = γ 6 from rfl)).trans ?_
    rfl
  exact zGoo_ato hJ hD
theorem vn75a0_60 {S : Nat → zSpc} (hS57 : ∀ x g o v gz, S 57 x g o v gz → sn57 x g o v gz) (hS73 : ∀ x g o v gz, S 73 x g o v gz → sn73 x g o v gz) {a : List Int} {g : rHp} : ∀ (ρ : Nat → Int) (γ : Nat → rHp), jn75 a g 0 (zAg (zNA a75_ 0) ρ) (γ 1) → zO 15 S a g q75a0_60 ρ γ → zGl (fun i vs g1 => jn75 a g i vs g1) (sn75 a g) q75a0_60 ρ γ := by
  intro ρ γ hJ h
  obtain ⟨ha, hg, hr, hf, hm, hc, hl⟩ := h
  have ha : a = [ρ 0, ρ 1, ρ 2, ρ 3, ρ 4, ρ 5, ρ 6, ρ 7, ρ 8, ρ 9, ρ 10, ρ 11, ρ 12, ρ 13, ρ 14] := ha
  subst ha
  subst hg
  have hJ : jn75 [ρ 0, ρ 1, ρ 2, ρ 3, ρ 4, ρ 5, ρ 6, ρ 7, ρ 8, ρ 9, ρ 10, ρ 11, ρ 12, ρ 13, ρ 14] (γ 0) 0 [ρ 0, ρ 1, ρ 2, ρ 3, ρ 4, ρ 5, ρ 6, ρ 7, ρ 8, ρ 9, ρ 10, ρ 11, ρ 12, ρ 13, ρ 14, ρ 15, ρ 16, ρ 17, ρ 18, ρ 19] (γ 1) := hJ
  obtain ⟨r0, r1, r2, r3, r4, r5, r6, r7, r8, r9, r10, r11, r12, r13, r14, r15, r16, r17, r18, r19, r20, r21, r22, r23, r24, r25, r26, r27, r28, r29, r30, r31, r32, r33, r34, -⟩ := hr
  have r0 : (0 : Int) ≤ ρ 0 ∧ ρ 0 ≤ 59 := r0
  have r1 : (0 : Int) ≤ ρ 1 ∧ ρ 1 ≤ 60 := r1
  have r2 : (0 : Int) ≤ ρ 2 ∧ ρ 2 ≤ 20 := r2
  have r3 : (1 : Int) ≤ ρ 3 ∧ ρ 3 ≤ 1 := r3
  have r4 : (0 : Int) ≤ ρ 4 ∧ ρ 4 ≤ 50001 := r4
  have r5 : (0 : Int) ≤ ρ 5 ∧ ρ 5 ≤ 3 := r5
  have r6 : (0 : Int) ≤ ρ 6 ∧ ρ 6 ≤ 2000 := r6
  have r7 : (0 : Int) ≤ ρ 7 ∧ ρ 7 ≤ 19 := r7
  have r8 : (0 : Int) ≤ ρ 8 ∧ ρ 8 ≤ 61 := r8
  have r9 : (0 : Int) ≤ ρ 9 ∧ ρ 9 ≤ 2000 := r9
  have r10 : ((-2147483648) : Int) ≤ ρ 10 ∧ ρ 10 ≤ 2147483647 := r10
  have r11 : (0 : Int) ≤ ρ 11 ∧ ρ 11 ≤ 2000 := r11
  have r12 : (0 : Int) ≤ ρ 12 ∧ ρ 12 ≤ 2000 := r12
  have r13 : (0 : Int) ≤ ρ 13 ∧ ρ 13 ≤ 2000 := r13
  have r14 : (0 : Int) ≤ ρ 14 ∧ ρ 14 ≤ 50001 := r14
  have r15 : (0 : Int) ≤ ρ 15 ∧ ρ 15 ≤ 2000 := r15
  have r16 : (0 : Int) ≤ ρ 16 ∧ ρ 16 ≤ 50001 := r16
  have r17 : (0 : Int) ≤ ρ 17 ∧ ρ 17 ≤ 0 := r17
  have r18 : (0 : Int) ≤ ρ 18 ∧ ρ 18 ≤ 2000 := r18
  have r19 : (0 : Int) ≤ ρ 19 ∧ ρ 19 ≤ 2000 := r19
  have r20 : ((-2147483648) : Int) ≤ ρ 20 ∧ ρ 20 ≤ 2147483647 := r20
  have r21 : (4 : Int) ≤ ρ 21 ∧ ρ 21 ≤ 4 := r21
  have r22 : (3 : Int) ≤ ρ 22 ∧ ρ 22 ≤ 3 := r22
  have r23 : (3 : Int) ≤ ρ 23 ∧ ρ 23 ≤ 3 := r23
  have r24 : (0 : Int) ≤ ρ 24 ∧ ρ 24 ≤ 2 := r24
  have r25 : ((-2147483648) : Int) ≤ ρ 25 ∧ ρ 25 ≤ 1099511640064 := r25
  have r26 : (3 : Int) ≤ ρ 26 ∧ ρ 26 ≤ 3 := r26
  have r27 : (0 : Int) ≤ ρ 27 ∧ ρ 27 ≤ 8 := r27
  have r28 : ((-1) : Int) ≤ ρ 28 ∧ ρ 28 ≤ 1999 := r28
  have r29 : (0 : Int) ≤ ρ 29 ∧ ρ 29 ≤ 1999 := r29
  have r30 : (1 : Int) ≤ ρ 30 ∧ ρ 30 ≤ 2000 := r30
  have r31 : (0 : Int) ≤ ρ 31 ∧ ρ 31 ≤ 8 := r31
  have r32 : ((-1) : Int) ≤ ρ 32 ∧ ρ 32 ≤ 1999 := r32
  have r33 : (0 : Int) ≤ ρ 33 ∧ ρ 33 ≤ 1999 := r33
  have r34 : (0 : Int) ≤ ρ 34 ∧ ρ 34 ≤ 3 := r34
  obtain ⟨f0, f1, f2, f3, f4, f5, f6, f7, f8, f9, -⟩ := hf
  have f0 : (0 : Int) ≤ -ρ 7 + ρ 2 + (-1) := f0
  have f1 : (0 : Int) ≤ ρ 30 + -ρ 19 := f1
  have f2 : (0 : Int) ≤ ρ 32 + -ρ 28 := f2
  have f3 : (0 : Int) ≤ ρ 18 + -ρ 15 + (-1) := f3
  have f4 : (0 : Int) ≤ ρ 17 + -ρ 16 + 50000 := f4
  have f5 : (0 : Int) ≤ ρ 1 + -ρ 0 + (-1) := f5
  have f6 : (0 : Int) ≤ ρ 19 + -ρ 9 := f6
  have f7 : (0 : Int) ≤ ρ 18 + -ρ 15 := f7
  have f8 : (0 : Int) ≤ ρ 17 + -ρ 5 := f8
  have f9 : (0 : Int) ≤ ρ 16 + -ρ 4 := f9
  obtain ⟨m0, m1, m2, m3, m4, m5, m6, m7, m8, m9, m10, m11, m12, m13, m14, m15, m16, m17, m18, m19, m20, m21, m22, m23, m24, m25, m26, m27, m28, m29, m30, m31, m32, m33, -⟩ := hm
  have m0 : γ 0 15 0 32 = ρ 1 := m0
  have m1 : γ 0 15 0 13 = ρ 2 := m1
  have m2 : γ 0 71 0 (ρ 0) = ρ 3 := m2
  have m3 : γ 0 15 0 72 = ρ 4 := m3
  have m4 : γ 0 15 0 77 = ρ 5 := m4
  have m5 : γ 0 15 0 90 = ρ 6 := m5
  have m6 : γ 0 69 0 (ρ 0) = ρ 7 := m6
  have m7 : γ 0 15 0 44 = ρ 8 := m7
  have m8 : γ 0 15 0 71 = ρ 9 := m8
  have m9 : γ 0 15 0 76 = ρ 10 := m9
  have m10 : γ 0 15 0 81 = ρ 11 := m10
  have m11 : γ 0 15 0 82 = ρ 12 := m11
  have m12 : γ 0 15 0 83 = ρ 13 := m12
  have m13 : γ 0 15 0 94 = ρ 14 := m13
  have m14 : γ 1 15 0 72 = ρ 16 := m14
  have m15 : γ 1 15 0 77 = ρ 17 := m15
  have m16 : γ 1 15 0 90 = ρ 18 := m16
  have m17 : γ 1 15 0 71 = ρ 19 := m17
  have m18 : γ 1 15 0 81 = ρ 9 := m18
  have m19 : γ 1 106 0 (ρ 15) = ρ 20 := m19
  have m20 : γ 0 66 0 (ρ 7) = ρ 21 := m20
  have m21 : γ 0 70 0 (4 * ρ 0) = ρ 22 := m21
  have m22 : γ 0 70 0 (4 * ρ 0 + 1) = ρ 23 := m22
  have m23 : γ 0 70 0 (4 * ρ 0 + 2) = ρ 24 := m23
  have m24 : γ 1 105 0 (4 * ρ 15 + 2) = ρ 25 := m24
  have m25 : γ 0 70 0 (4 * ρ 0 + 3) = ρ 26 := m25
  have m26 : γ 1 97 0 (ρ 19) = ρ 27 := m26
  have m27 : γ 1 100 0 (ρ 7) = ρ 28 := m27
  have m28 : γ 1 101 0 (ρ 7) = ρ 29 := m28
  have m29 : γ 6 15 0 71 = ρ 30 := m29
  have m30 : γ 6 97 0 (ρ 19) = ρ 31 := m30
  have m31 : γ 6 100 0 (ρ 7) = ρ 32 := m31
  have m32 : γ 6 101 0 (ρ 7) = ρ 33 := m32
  have m33 : γ 6 15 0 77 = ρ 34 := m33
  obtain ⟨⟨⟨⟨⟨⟨-, c1⟩, c2⟩, c3⟩, c4⟩, c5⟩, c6⟩ := hc
  have c1 : ∀ (G : Nat) (k j : Int), ¬ rMdP m51_ G j → γ 1 G k j = γ 0 G k j := c1
  have c2 : γ 2 = rUp (γ 1) 102 0 0 (ρ 20) := c2
  have c3 : γ 3 = rUp (γ 2) 102 0 1 (ρ 20) := c3
  have c4 : γ 4 = rUp (γ 3) 102 0 2 (ρ 25) := c4
  have c5 : γ 5 = rUp (γ 4) 102 0 3 (ρ 20) := c5
  have c6 : ∀ (G : Nat) (k j : Int), ¬ rMdP m40_ G j → γ 6 G k j = γ 5 G k j := c6
  obtain ⟨l0, -⟩ := hl
  have l0 : sn57 [ρ 7, ρ 0, ρ 2, ρ 19, ρ 27, ρ 28, ρ 29, ρ 10, ρ 17] (γ 5) 0 0 (γ 6) := hS57 _ _ _ _ _ l0
  show jn75 [ρ 0, ρ 1, ρ 2, ρ 3, ρ 4, ρ 5, ρ 6, ρ 7, ρ 8, ρ 9, ρ 10, ρ 11, ρ 12, ρ 13, ρ 14] (γ 0) 0 [ρ 0, ρ 1, ρ 2, ρ 3, ρ 4, ρ 5, ρ 6, ρ 7, ρ 8, ρ 9, ρ 10, ρ 11, ρ 12, ρ 13, ρ 14, ρ 15 + 1, ρ 16, ρ 34, ρ 18, ρ 30] (γ 6)
  have hD : en75 (γ 0) (0, [ρ 0, ρ 15], γ 1) = .inl (0, [ρ 0, ρ 15 + 1], γ 6) := by
    unfold en75
    refine (if_pos (show (0 : Nat) = 0 by decide)).trans ?_
    refine (zLet_eq (show _ = γ 1 from rfl)).trans ?_
    refine (zLet_eq (show _ = ρ 0 from rfl)).trans ?_
    refine (zLet_eq (show _ = ρ 15 from rfl)).trans ?_
    refine (zLet_eq m2).trans ?_
    refine (zLet_eq m6).trans ?_
    refine (zLet_eq m15).trans ?_
    refine (zLet_eq m16).trans ?_
    refine (if_neg (show ¬ (ρ 15 ≥ ρ 18) by omega)).trans ?_
    refine (if_neg (show ¬ (ρ 17 ≠ 0) by omega)).trans ?_
    refine (if_pos (show ρ 3 ≤ 2 by omega)).trans ?_
    refine (if_neg (show ¬ (ρ 3 ≠ 1) by omega)).trans ?_
    refine (zLet_eq m19).trans ?_
    refine (zLet_eq m20).trans ?_
    refine (if_neg (show ¬ (0 ≥ ρ 21) by omega)).trans ?_
    refine (zLet_eq m21).trans ?_
    refine (if_neg (show ¬ (ρ 22 ≠ 3) by omega)).trans ?_
    refine (zLet_eq c2.symm).trans ?_
    refine (if_neg (show ¬ (1 ≥ ρ 21) by omega)).trans ?_
    refine (zLet_eq m22).trans ?_
    refine (if_neg (show ¬ (ρ 23 ≠ 3) by omega)).trans ?_
    refine (zLet_eq c3.symm).trans ?_
    refine (if_neg (show ¬ (2 ≥ ρ 21) by omega)).trans ?_
    refine (zLet_eq m23).trans ?_
    refine (if_pos (show ρ 24 ≠ 3 by omega)).trans ?_
    refine (zLet_eq m24).trans ?_
    refine (zLet_eq c4.symm).trans ?_
    refine (if_neg (show ¬ (3 ≥ ρ 21) by omega)).trans ?_
    refine (zLet_eq m25).trans ?_
    refine (if_neg (show ¬ (ρ 26 ≠ 3) by omega)).trans ?_
    refine (zLet_eq c5.symm).trans ?_
    refine (zLet_eq (show fn57 [ρ 7, ρ 0] (γ 5) = (0, 0, γ 6) from l0.symm)).trans ?_
    refine (zLet_eq (show _ = γ 6 from rfl)).trans ?_
    rfl
  exact zGoo_ato hJ hD
theorem vn75a0_61 {S : Nat → zSpc} (hS57 : ∀ x g o v gz, S 57 x g o v gz → sn57 x g o v gz) (hS73 : ∀ x g o v gz, S 73 x g o v gz → sn73 x g o v gz) {a : List Int} {g : rHp} : ∀ (ρ : Nat → Int) (γ : Nat → rHp), jn75 a g 0 (zAg (zNA a75_ 0) ρ) (γ 1) → zO 15 S a g q75a0_61 ρ γ → zGl (fun i vs g1 => jn75 a g i vs g1) (sn75 a g) q75a0_61 ρ γ := by
  intro ρ γ hJ h
  obtain ⟨ha, hg, hr, hf, hm, hc, hl⟩ := h
  have ha : a = [ρ 0, ρ 1, ρ 2, ρ 3, ρ 4, ρ 5, ρ 6, ρ 7, ρ 8, ρ 9, ρ 10, ρ 11, ρ 12, ρ 13, ρ 14] := ha
  subst ha
  subst hg
  have hJ : jn75 [ρ 0, ρ 1, ρ 2, ρ 3, ρ 4, ρ 5, ρ 6, ρ 7, ρ 8, ρ 9, ρ 10, ρ 11, ρ 12, ρ 13, ρ 14] (γ 0) 0 [ρ 0, ρ 1, ρ 2, ρ 3, ρ 4, ρ 5, ρ 6, ρ 7, ρ 8, ρ 9, ρ 10, ρ 11, ρ 12, ρ 13, ρ 14, ρ 15, ρ 16, ρ 17, ρ 18, ρ 19] (γ 1) := hJ
  obtain ⟨r0, r1, r2, r3, r4, r5, r6, r7, r8, r9, r10, r11, r12, r13, r14, r15, r16, r17, r18, r19, r20, r21, r22, r23, r24, r25, r26, r27, r28, r29, r30, r31, r32, r33, -⟩ := hr
  have r0 : (0 : Int) ≤ ρ 0 ∧ ρ 0 ≤ 59 := r0
  have r1 : (0 : Int) ≤ ρ 1 ∧ ρ 1 ≤ 60 := r1
  have r2 : (0 : Int) ≤ ρ 2 ∧ ρ 2 ≤ 20 := r2
  have r3 : (1 : Int) ≤ ρ 3 ∧ ρ 3 ≤ 1 := r3
  have r4 : (0 : Int) ≤ ρ 4 ∧ ρ 4 ≤ 50001 := r4
  have r5 : (0 : Int) ≤ ρ 5 ∧ ρ 5 ≤ 3 := r5
  have r6 : (0 : Int) ≤ ρ 6 ∧ ρ 6 ≤ 2000 := r6
  have r7 : (0 : Int) ≤ ρ 7 ∧ ρ 7 ≤ 19 := r7
  have r8 : (0 : Int) ≤ ρ 8 ∧ ρ 8 ≤ 61 := r8
  have r9 : (0 : Int) ≤ ρ 9 ∧ ρ 9 ≤ 2000 := r9
  have r10 : ((-2147483648) : Int) ≤ ρ 10 ∧ ρ 10 ≤ 2147483647 := r10
  have r11 : (0 : Int) ≤ ρ 11 ∧ ρ 11 ≤ 2000 := r11
  have r12 : (0 : Int) ≤ ρ 12 ∧ ρ 12 ≤ 2000 := r12
  have r13 : (0 : Int) ≤ ρ 13 ∧ ρ 13 ≤ 2000 := r13
  have r14 : (0 : Int) ≤ ρ 14 ∧ ρ 14 ≤ 50001 := r14
  have r15 : (0 : Int) ≤ ρ 15 ∧ ρ 15 ≤ 2000 := r15
  have r16 : (0 : Int) ≤ ρ 16 ∧ ρ 16 ≤ 50001 := r16
  have r17 : (0 : Int) ≤ ρ 17 ∧ ρ 17 ≤ 0 := r17
  have r18 : (0 : Int) ≤ ρ 18 ∧ ρ 18 ≤ 2000 := r18
  have r19 : (0 : Int) ≤ ρ 19 ∧ ρ 19 ≤ 2000 := r19
  have r20 : ((-2147483648) : Int) ≤ ρ 20 ∧ ρ 20 ≤ 2147483647 := r20
  have r21 : (3 : Int) ≤ ρ 21 ∧ ρ 21 ≤ 3 := r21
  have r22 : (3 : Int) ≤ ρ 22 ∧ ρ 22 ≤ 3 := r22
  have r23 : (3 : Int) ≤ ρ 23 ∧ ρ 23 ≤ 3 := r23
  have r24 : (3 : Int) ≤ ρ 24 ∧ ρ 24 ≤ 3 := r24
  have r25 : ((-2147483648) : Int) ≤ ρ 25 ∧ ρ 25 ≤ 1099511640064 := r25
  have r26 : (0 : Int) ≤ ρ 26 ∧ ρ 26 ≤ 8 := r26
  have r27 : ((-1) : Int) ≤ ρ 27 ∧ ρ 27 ≤ 1999 := r27
  have r28 : (0 : Int) ≤ ρ 28 ∧ ρ 28 ≤ 1999 := r28
  have r29 : (1 : Int) ≤ ρ 29 ∧ ρ 29 ≤ 2000 := r29
  have r30 : (0 : Int) ≤ ρ 30 ∧ ρ 30 ≤ 8 := r30
  have r31 : ((-1) : Int) ≤ ρ 31 ∧ ρ 31 ≤ 1999 := r31
  have r32 : (0 : Int) ≤ ρ 32 ∧ ρ 32 ≤ 1999 := r32
  have r33 : (0 : Int) ≤ ρ 33 ∧ ρ 33 ≤ 3 := r33
  obtain ⟨f0, f1, f2, f3, f4, f5, f6, f7, f8, f9, -⟩ := hf
  have f0 : (0 : Int) ≤ -ρ 7 + ρ 2 + (-1) := f0
  have f1 : (0 : Int) ≤ ρ 29 + -ρ 19 := f1
  have f2 : (0 : Int) ≤ ρ 31 + -ρ 27 := f2
  have f3 : (0 : Int) ≤ ρ 18 + -ρ 15 + (-1) := f3
  have f4 : (0 : Int) ≤ ρ 17 + -ρ 16 + 50000 := f4
  have f5 : (0 : Int) ≤ ρ 1 + -ρ 0 + (-1) := f5
  have f6 : (0 : Int) ≤ ρ 19 + -ρ 9 := f6
  have f7 : (0 : Int) ≤ ρ 18 + -ρ 15 := f7
  have f8 : (0 : Int) ≤ ρ 17 + -ρ 5 := f8
  have f9 : (0 : Int) ≤ ρ 16 + -ρ 4 := f9
  obtain ⟨m0, m1, m2, m3, m4, m5, m6, m7, m8, m9, m10, m11, m12, m13, m14, m15, m16, m17, m18, m19, m20, m21, m22, m23, m24, m25, m26, m27, m28, m29, m30, m31, m32, -⟩ := hm
  have m0 : γ 0 15 0 32 = ρ 1 := m0
  have m1 : γ 0 15 0 13 = ρ 2 := m1
  have m2 : γ 0 71 0 (ρ 0) = ρ 3 := m2
  have m3 : γ 0 15 0 72 = ρ 4 := m3
  have m4 : γ 0 15 0 77 = ρ 5 := m4
  have m5 : γ 0 15 0 90 = ρ 6 := m5
  have m6 : γ 0 69 0 (ρ 0) = ρ 7 := m6
  have m7 : γ 0 15 0 44 = ρ 8 := m7
  have m8 : γ 0 15 0 71 = ρ 9 := m8
  have m9 : γ 0 15 0 76 = ρ 10 := m9
  have m10 : γ 0 15 0 81 = ρ 11 := m10
  have m11 : γ 0 15 0 82 = ρ 12 := m11
  have m12 : γ 0 15 0 83 = ρ 13 := m12
  have m13 : γ 0 15 0 94 = ρ 14 := m13
  have m14 : γ 1 15 0 72 = ρ 16 := m14
  have m15 : γ 1 15 0 77 = ρ 17 := m15
  have m16 : γ 1 15 0 90 = ρ 18 := m16
  have m17 : γ 1 15 0 71 = ρ 19 := m17
  have m18 : γ 1 15 0 81 = ρ 9 := m18
  have m19 : γ 1 106 0 (ρ 15) = ρ 20 := m19
  have m20 : γ 0 66 0 (ρ 7) = ρ 21 := m20
  have m21 : γ 0 70 0 (4 * ρ 0) = ρ 22 := m21
  have m22 : γ 0 70 0 (4 * ρ 0 + 1) = ρ 23 := m22
  have m23 : γ 0 70 0 (4 * ρ 0 + 2) = ρ 24 := m23
  have m24 : γ 1 105 0 (4 * ρ 15 + 3) = ρ 25 := m24
  have m25 : γ 1 97 0 (ρ 19) = ρ 26 := m25
  have m26 : γ 1 100 0 (ρ 7) = ρ 27 := m26
  have m27 : γ 1 101 0 (ρ 7) = ρ 28 := m27
  have m28 : γ 6 15 0 71 = ρ 29 := m28
  have m29 : γ 6 97 0 (ρ 19) = ρ 30 := m29
  have m30 : γ 6 100 0 (ρ 7) = ρ 31 := m30
  have m31 : γ 6 101 0 (ρ 7) = ρ 32 := m31
  have m32 : γ 6 15 0 77 = ρ 33 := m32
  obtain ⟨⟨⟨⟨⟨⟨-, c1⟩, c2⟩, c3⟩, c4⟩, c5⟩, c6⟩ := hc
  have c1 : ∀ (G : Nat) (k j : Int), ¬ rMdP m51_ G j → γ 1 G k j = γ 0 G k j := c1
  have c2 : γ 2 = rUp (γ 1) 102 0 0 (ρ 20) := c2
  have c3 : γ 3 = rUp (γ 2) 102 0 1 (ρ 20) := c3
  have c4 : γ 4 = rUp (γ 3) 102 0 2 (ρ 20) := c4
  have c5 : γ 5 = rUp (γ 4) 102 0 3 (ρ 25) := c5
  have c6 : ∀ (G : Nat) (k j : Int), ¬ rMdP m40_ G j → γ 6 G k j = γ 5 G k j := c6
  obtain ⟨l0, -⟩ := hl
  have l0 : sn57 [ρ 7, ρ 0, ρ 2, ρ 19, ρ 26, ρ 27, ρ 28, ρ 10, ρ 17] (γ 5) 0 0 (γ 6) := hS57 _ _ _ _ _ l0
  show jn75 [ρ 0, ρ 1, ρ 2, ρ 3, ρ 4, ρ 5, ρ 6, ρ 7, ρ 8, ρ 9, ρ 10, ρ 11, ρ 12, ρ 13, ρ 14] (γ 0) 0 [ρ 0, ρ 1, ρ 2, ρ 3, ρ 4, ρ 5, ρ 6, ρ 7, ρ 8, ρ 9, ρ 10, ρ 11, ρ 12, ρ 13, ρ 14, ρ 15 + 1, ρ 16, ρ 33, ρ 18, ρ 29] (γ 6)
  have hD : en75 (γ 0) (0, [ρ 0, ρ 15], γ 1) = .inl (0, [ρ 0, ρ 15 + 1], γ 6) := by
    unfold en75
    refine (if_pos (show (0 : Nat) = 0 by decide)).trans ?_
    refine (zLet_eq (show _ = γ 1 from rfl)).trans ?_
    refine (zLet_eq (show _ = ρ 0 from rfl)).trans ?_
    refine (zLet_eq (show _ = ρ 15 from rfl)).trans ?_
    refine (zLet_eq m2).trans ?_
    refine (zLet_eq m6).trans ?_
    refine (zLet_eq m15).trans ?_
    refine (zLet_eq m16).trans ?_
    refine (if_neg (show ¬ (ρ 15 ≥ ρ 18) by omega)).trans ?_
    refine (if_neg (show ¬ (ρ 17 ≠ 0) by omega)).trans ?_
    refine (if_pos (show ρ 3 ≤ 2 by omega)).trans ?_
    refine (if_neg (show ¬ (ρ 3 ≠ 1) by omega)).trans ?_
    refine (zLet_eq m19).trans ?_
    refine (zLet_eq m20).trans ?_
    refine (if_neg (show ¬ (0 ≥ ρ 21) by omega)).trans ?_
    refine (zLet_eq m21).trans ?_
    refine (if_neg (show ¬ (ρ 22 ≠ 3) by omega)).trans ?_
    refine (zLet_eq c2.symm).trans ?_
    refine (if_neg (show ¬ (1 ≥ ρ 21) by omega)).trans ?_
    refine (zLet_eq m22).trans ?_
    refine (if_neg (show ¬ (ρ 23 ≠ 3) by omega)).trans ?_
    refine (zLet_eq c3.symm).trans ?_
    refine (if_neg (show ¬ (2 ≥ ρ 21) by omega)).trans ?_
    refine (zLet_eq m23).trans ?_
    refine (if_neg (show ¬ (ρ 24 ≠ 3) by omega)).trans ?_
    refine (zLet_eq c4.symm).trans ?_
    refine (if_pos (show 3 ≥ ρ 21 by omega)).trans ?_
    refine (zLet_eq m24).trans ?_
    refine (zLet_eq c5.symm).trans ?_
    refine (zLet_eq (show fn57 [ρ 7, ρ 0] (γ 5) = (0, 0, γ 6) from l0.symm)).trans ?_
    refine (zLet_eq (show _ = γ 6 from rfl)).trans ?_
    rfl
  exact zGoo_ato hJ hD
theorem vn75a0_62 {S : Nat → zSpc} (hS57 : ∀ x g o v gz, S 57 x g o v gz → sn57 x g o v gz) (hS73 : ∀ x g o v gz, S 73 x g o v gz → sn73 x g o v gz) {a : List Int} {g : rHp} : ∀ (ρ : Nat → Int) (γ : Nat → rHp), jn75 a g 0 (zAg (zNA a75_ 0) ρ) (γ 1) → zO 15 S a g q75a0_62 ρ γ → zGl (fun i vs g1 => jn75 a g i vs g1) (sn75 a g) q75a0_62 ρ γ := by
  intro ρ γ hJ h
  obtain ⟨ha, hg, hr, hf, hm, hc, hl⟩ := h
  have ha : a = [ρ 0, ρ 1, ρ 2, ρ 3, ρ 4, ρ 5, ρ 6, ρ 7, ρ 8, ρ 9, ρ 10, ρ 11, ρ 12, ρ 13, ρ 14] := ha
  subst ha
  subst hg
  have hJ : jn75 [ρ 0, ρ 1, ρ 2, ρ 3, ρ 4, ρ 5, ρ 6, ρ 7, ρ 8, ρ 9, ρ 10, ρ 11, ρ 12, ρ 13, ρ 14] (γ 0) 0 [ρ 0, ρ 1, ρ 2, ρ 3, ρ 4, ρ 5, ρ 6, ρ 7, ρ 8, ρ 9, ρ 10, ρ 11, ρ 12, ρ 13, ρ 14, ρ 15, ρ 16, ρ 17, ρ 18, ρ 19] (γ 1) := hJ
  obtain ⟨r0, r1, r2, r3, r4, r5, r6, r7, r8, r9, r10, r11, r12, r13, r14, r15, r16, r17, r18, r19, r20, r21, r22, r23, r24, r25, r26, r27, r28, r29, r30, r31, r32, r33, r34, -⟩ := hr
  have r0 : (0 : Int) ≤ ρ 0 ∧ ρ 0 ≤ 59 := r0
  have r1 : (0 : Int) ≤ ρ 1 ∧ ρ 1 ≤ 60 := r1
  have r2 : (0 : Int) ≤ ρ 2 ∧ ρ 2 ≤ 20 := r2
  have r3 : (1 : Int) ≤ ρ 3 ∧ ρ 3 ≤ 1 := r3
  have r4 : (0 : Int) ≤ ρ 4 ∧ ρ 4 ≤ 50001 := r4
  have r5 : (0 : Int) ≤ ρ 5 ∧ ρ 5 ≤ 3 := r5
  have r6 : (0 : Int) ≤ ρ 6 ∧ ρ 6 ≤ 2000 := r6
  have r7 : (0 : Int) ≤ ρ 7 ∧ ρ 7 ≤ 19 := r7
  have r8 : (0 : Int) ≤ ρ 8 ∧ ρ 8 ≤ 61 := r8
  have r9 : (0 : Int) ≤ ρ 9 ∧ ρ 9 ≤ 2000 := r9
  have r10 : ((-2147483648) : Int) ≤ ρ 10 ∧ ρ 10 ≤ 2147483647 := r10
  have r11 : (0 : Int) ≤ ρ 11 ∧ ρ 11 ≤ 2000 := r11
  have r12 : (0 : Int) ≤ ρ 12 ∧ ρ 12 ≤ 2000 := r12
  have r13 : (0 : Int) ≤ ρ 13 ∧ ρ 13 ≤ 2000 := r13
  have r14 : (0 : Int) ≤ ρ 14 ∧ ρ 14 ≤ 50001 := r14
  have r15 : (0 : Int) ≤ ρ 15 ∧ ρ 15 ≤ 2000 := r15
  have r16 : (0 : Int) ≤ ρ 16 ∧ ρ 16 ≤ 50001 := r16
  have r17 : (0 : Int) ≤ ρ 17 ∧ ρ 17 ≤ 0 := r17
  have r18 : (0 : Int) ≤ ρ 18 ∧ ρ 18 ≤ 2000 := r18
  have r19 : (0 : Int) ≤ ρ 19 ∧ ρ 19 ≤ 2000 := r19
  have r20 : ((-2147483648) : Int) ≤ ρ 20 ∧ ρ 20 ≤ 2147483647 := r20
  have r21 : (4 : Int) ≤ ρ 21 ∧ ρ 21 ≤ 4 := r21
  have r22 : (3 : Int) ≤ ρ 22 ∧ ρ 22 ≤ 3 := r22
  have r23 : (3 : Int) ≤ ρ 23 ∧ ρ 23 ≤ 3 := r23
  have r24 : (3 : Int) ≤ ρ 24 ∧ ρ 24 ≤ 3 := r24
  have r25 : (0 : Int) ≤ ρ 25 ∧ ρ 25 ≤ 2 := r25
  have r26 : ((-2147483648) : Int) ≤ ρ 26 ∧ ρ 26 ≤ 1099511640064 := r26
  have r27 : (0 : Int) ≤ ρ 27 ∧ ρ 27 ≤ 8 := r27
  have r28 : ((-1) : Int) ≤ ρ 28 ∧ ρ 28 ≤ 1999 := r28
  have r29 : (0 : Int) ≤ ρ 29 ∧ ρ 29 ≤ 1999 := r29
  have r30 : (1 : Int) ≤ ρ 30 ∧ ρ 30 ≤ 2000 := r30
  have r31 : (0 : Int) ≤ ρ 31 ∧ ρ 31 ≤ 8 := r31
  have r32 : ((-1) : Int) ≤ ρ 32 ∧ ρ 32 ≤ 1999 := r32
  have r33 : (0 : Int) ≤ ρ 33 ∧ ρ 33 ≤ 1999 := r33
  have r34 : (0 : Int) ≤ ρ 34 ∧ ρ 34 ≤ 3 := r34
  obtain ⟨f0, f1, f2, f3, f4, f5, f6, f7, f8, f9, -⟩ := hf
  have f0 : (0 : Int) ≤ -ρ 7 + ρ 2 + (-1) := f0
  have f1 : (0 : Int) ≤ ρ 30 + -ρ 19 := f1
  have f2 : (0 : Int) ≤ ρ 32 + -ρ 28 := f2
  have f3 : (0 : Int) ≤ ρ 18 + -ρ 15 + (-1) := f3
  have f4 : (0 : Int) ≤ ρ 17 + -ρ 16 + 50000 := f4
  have f5 : (0 : Int) ≤ ρ 1 + -ρ 0 + (-1) := f5
  have f6 : (0 : Int) ≤ ρ 19 + -ρ 9 := f6
  have f7 : (0 : Int) ≤ ρ 18 + -ρ 15 := f7
  have f8 : (0 : Int) ≤ ρ 17 + -ρ 5 := f8
  have f9 : (0 : Int) ≤ ρ 16 + -ρ 4 := f9
  obtain ⟨m0, m1, m2, m3, m4, m5, m6, m7, m8, m9, m10, m11, m12, m13, m14, m15, m16, m17, m18, m19, m20, m21, m22, m23, m24, m25, m26, m27, m28, m29, m30, m31, m32, m33, -⟩ := hm
  have m0 : γ 0 15 0 32 = ρ 1 := m0
  have m1 : γ 0 15 0 13 = ρ 2 := m1
  have m2 : γ 0 71 0 (ρ 0) = ρ 3 := m2
  have m3 : γ 0 15 0 72 = ρ 4 := m3
  have m4 : γ 0 15 0 77 = ρ 5 := m4
  have m5 : γ 0 15 0 90 = ρ 6 := m5
  have m6 : γ 0 69 0 (ρ 0) = ρ 7 := m6
  have m7 : γ 0 15 0 44 = ρ 8 := m7
  have m8 : γ 0 15 0 71 = ρ 9 := m8
  have m9 : γ 0 15 0 76 = ρ 10 := m9
  have m10 : γ 0 15 0 81 = ρ 11 := m10
  have m11 : γ 0 15 0 82 = ρ 12 := m11
  have m12 : γ 0 15 0 83 = ρ 13 := m12
  have m13 : γ 0 15 0 94 = ρ 14 := m13
  have m14 : γ 1 15 0 72 = ρ 16 := m14
  have m15 : γ 1 15 0 77 = ρ 17 := m15
  have m16 : γ 1 15 0 90 = ρ 18 := m16
  have m17 : γ 1 15 0 71 = ρ 19 := m17
  have m18 : γ 1 15 0 81 = ρ 9 := m18
  have m19 : γ 1 106 0 (ρ 15) = ρ 20 := m19
  have m20 : γ 0 66 0 (ρ 7) = ρ 21 := m20
  have m21 : γ 0 70 0 (4 * ρ 0) = ρ 22 := m21
  have m22 : γ 0 70 0 (4 * ρ 0 + 1) = ρ 23 := m22
  have m23 : γ 0 70 0 (4 * ρ 0 + 2) = ρ 24 := m23
  have m24 : γ 0 70 0 (4 * ρ 0 + 3) = ρ 25 := m24
  have m25 : γ 1 105 0 (4 * ρ 15 + 3) = ρ 26 := m25
  have m26 : γ 1 97 0 (ρ 19) = ρ 27 := m26
  have m27 : γ 1 100 0 (ρ 7) = ρ 28 := m27
  have m28 : γ 1 101 0 (ρ 7) = ρ 29 := m28
  have m29 : γ 6 15 0 71 = ρ 30 := m29
  have m30 : γ 6 97 0 (ρ 19) = ρ 31 := m30
  have m31 : γ 6 100 0 (ρ 7) = ρ 32 := m31
  have m32 : γ 6 101 0 (ρ 7) = ρ 33 := m32
  have m33 : γ 6 15 0 77 = ρ 34 := m33
  obtain ⟨⟨⟨⟨⟨⟨-, c1⟩, c2⟩, c3⟩, c4⟩, c5⟩, c6⟩ := hc
  have c1 : ∀ (G : Nat) (k j : Int), ¬ rMdP m51_ G j → γ 1 G k j = γ 0 G k j := c1
  have c2 : γ 2 = rUp (γ 1) 102 0 0 (ρ 20) := c2
  have c3 : γ 3 = rUp (γ 2) 102 0 1 (ρ 20) := c3
  have c4 : γ 4 = rUp (γ 3) 102 0 2 (ρ 20) := c4
  have c5 : γ 5 = rUp (γ 4) 102 0 3 (ρ 26) := c5
  have c6 : ∀ (G : Nat) (k j : Int), ¬ rMdP m40_ G j → γ 6 G k j = γ 5 G k j := c6
  obtain ⟨l0, -⟩ := hl
  have l0 : sn57 [ρ 7, ρ 0, ρ 2, ρ 19, ρ 27, ρ 28, ρ 29, ρ 10, ρ 17] (γ 5) 0 0 (γ 6) := hS57 _ _ _ _ _ l0
  show jn75 [ρ 0, ρ 1, ρ 2, ρ 3, ρ 4, ρ 5, ρ 6, ρ 7, ρ 8, ρ 9, ρ 10, ρ 11, ρ 12, ρ 13, ρ 14] (γ 0) 0 [ρ 0, ρ 1, ρ 2, ρ 3, ρ 4, ρ 5, ρ 6, ρ 7, ρ 8, ρ 9, ρ 10, ρ 11, ρ 12, ρ 13, ρ 14, ρ 15 + 1, ρ 16, ρ 34, ρ 18, ρ 30] (γ 6)
  have hD : en75 (γ 0) (0, [ρ 0, ρ 15], γ 1) = .inl (0, [ρ 0, ρ 15 + 1], γ 6) := by
    unfold en75
    refine (if_pos (show (0 : Nat) = 0 by decide)).trans ?_
    refine (zLet_eq (show _ = γ 1 from rfl)).trans ?_
    refine (zLet_eq (show _ = ρ 0 from rfl)).trans ?_
    refine (zLet_eq (show _ = ρ 15 from rfl)).trans ?_
    refine (zLet_eq m2).trans ?_
    refine (zLet_eq m6).trans ?_
    refine (zLet_eq m15).trans ?_
    refine (zLet_eq m16).trans ?_
    refine (if_neg (show ¬ (ρ 15 ≥ ρ 18) by omega)).trans ?_
    refine (if_neg (show ¬ (ρ 17 ≠ 0) by omega)).trans ?_
    refine (if_pos (show ρ 3 ≤ 2 by omega)).trans ?_
    refine (if_neg (show ¬ (ρ 3 ≠ 1) by omega)).trans ?_
    refine (zLet_eq m19).trans ?_
    refine (zLet_eq m20).trans ?_
    refine (if_neg (show ¬ (0 ≥ ρ 21) by omega)).trans ?_
    refine (zLet_eq m21).trans ?_
    refine (if_neg (show ¬ (ρ 22 ≠ 3) by omega)).trans ?_
    refine (zLet_eq c2.symm).trans ?_
    refine (if_neg (show ¬ (1 ≥ ρ 21) by omega)).trans ?_
    refine (zLet_eq m22).trans ?_
    refine (if_neg (show ¬ (ρ 23 ≠ 3) by omega)).trans ?_
    refine (zLet_eq c3.symm).trans ?_
    refine (if_neg (show ¬ (2 ≥ ρ 21) by omega)).trans ?_
    refine (zLet_eq m23).trans ?_
    refine (if_neg (show ¬ (ρ 24 ≠ 3) by omega)).trans ?_
    refine (zLet_eq c4.symm).trans ?_
    refine (if_neg (show ¬ (3 ≥ ρ 21) by omega)).trans ?_
    refine (zLet_eq m24).trans ?_
    refine (if_pos (show ρ 25 ≠ 3 by omega)).trans ?_
    refine (zLet_eq m25).trans ?_
    refine (zLet_eq c5.symm).trans ?_
    refine (zLet_eq (show fn57 [ρ 7, ρ 0] (γ 5) = (0, 0, γ 6) from l0.symm)).trans ?_
    refine (zLet_eq (show _ = γ 6 from rfl)).trans ?_
    rfl
  exact zGoo_ato hJ hD
theorem vn75a0_63 {S : Nat → zSpc} (hS57 : ∀ x g o v gz, S 57 x g o v gz → sn57 x g o v gz) (hS73 : ∀ x g o v gz, S 73 x g o v gz → sn73 x g o v gz) {a : List Int} {g : rHp} : ∀ (ρ : Nat → Int) (γ : Nat → rHp), jn75 a g 0 (zAg (zNA a75_ 0) ρ) (γ 1) → zO 15 S a g q75a0_63 ρ γ → zGl (fun i vs g1 => jn75 a g i vs g1) (sn75 a g) q75a0_63 ρ γ := by
  intro ρ γ hJ h
  obtain ⟨ha, hg, hr, hf, hm, hc, hl⟩ := h
  have ha : a = [ρ 0, ρ 1, ρ 2, ρ 3, ρ 4, ρ 5, ρ 6, ρ 7, ρ 8, ρ 9, ρ 10, ρ 11, ρ 12, ρ 13, ρ 14] := ha
  subst ha
  subst hg
  have hJ : jn75 [ρ 0, ρ 1, ρ 2, ρ 3, ρ 4, ρ 5, ρ 6, ρ 7, ρ 8, ρ 9, ρ 10, ρ 11, ρ 12, ρ 13, ρ 14] (γ 0) 0 [ρ 0, ρ 1, ρ 2, ρ 3, ρ 4, ρ 5, ρ 6, ρ 7, ρ 8, ρ 9, ρ 10, ρ 11, ρ 12, ρ 13, ρ 14, ρ 15, ρ 16, ρ 17, ρ 18, ρ 19] (γ 1) := hJ
  obtain ⟨r0, r1, r2, r3, r4, r5, r6, r7, r8, r9, r10, r11, r12, r13, r14, r15, r16, r17, r18, r19, r20, r21, r22, r23, r24, r25, r26, r27, r28, r29, r30, r31, r32, r33, -⟩ := hr
  have r0 : (0 : Int) ≤ ρ 0 ∧ ρ 0 ≤ 59 := r0
  have r1 : (0 : Int) ≤ ρ 1 ∧ ρ 1 ≤ 60 := r1
  have r2 : (0 : Int) ≤ ρ 2 ∧ ρ 2 ≤ 20 := r2
  have r3 : (1 : Int) ≤ ρ 3 ∧ ρ 3 ≤ 1 := r3
  have r4 : (0 : Int) ≤ ρ 4 ∧ ρ 4 ≤ 50001 := r4
  have r5 : (0 : Int) ≤ ρ 5 ∧ ρ 5 ≤ 3 := r5
  have r6 : (0 : Int) ≤ ρ 6 ∧ ρ 6 ≤ 2000 := r6
  have r7 : (0 : Int) ≤ ρ 7 ∧ ρ 7 ≤ 19 := r7
  have r8 : (0 : Int) ≤ ρ 8 ∧ ρ 8 ≤ 61 := r8
  have r9 : (0 : Int) ≤ ρ 9 ∧ ρ 9 ≤ 2000 := r9
  have r10 : ((-2147483648) : Int) ≤ ρ 10 ∧ ρ 10 ≤ 2147483647 := r10
  have r11 : (0 : Int) ≤ ρ 11 ∧ ρ 11 ≤ 2000 := r11
  have r12 : (0 : Int) ≤ ρ 12 ∧ ρ 12 ≤ 2000 := r12
  have r13 : (0 : Int) ≤ ρ 13 ∧ ρ 13 ≤ 2000 := r13
  have r14 : (0 : Int) ≤ ρ 14 ∧ ρ 14 ≤ 50001 := r14
  have r15 : (0 : Int) ≤ ρ 15 ∧ ρ 15 ≤ 2000 := r15
  have r16 : (0 : Int) ≤ ρ 16 ∧ ρ 16 ≤ 50001 := r16
  have r17 : (0 : Int) ≤ ρ 17 ∧ ρ 17 ≤ 0 := r17
  have r18 : (0 : Int) ≤ ρ 18 ∧ ρ 18 ≤ 2000 := r18
  have r19 : (0 : Int) ≤ ρ 19 ∧ ρ 19 ≤ 2000 := r19
  have r20 : ((-2147483648) : Int) ≤ ρ 20 ∧ ρ 20 ≤ 2147483647 := r20
  have r21 : (4 : Int) ≤ ρ 21 ∧ ρ 21 ≤ 4 := r21
  have r22 : (3 : Int) ≤ ρ 22 ∧ ρ 22 ≤ 3 := r22
  have r23 : (3 : Int) ≤ ρ 23 ∧ ρ 23 ≤ 3 := r23
  have r24 : (3 : Int) ≤ ρ 24 ∧ ρ 24 ≤ 3 := r24
  have r25 : (3 : Int) ≤ ρ 25 ∧ ρ 25 ≤ 3 := r25
  have r26 : (0 : Int) ≤ ρ 26 ∧ ρ 26 ≤ 8 := r26
  have r27 : ((-1) : Int) ≤ ρ 27 ∧ ρ 27 ≤ 1999 := r27
  have r28 : (0 : Int) ≤ ρ 28 ∧ ρ 28 ≤ 1999 := r28
  have r29 : (1 : Int) ≤ ρ 29 ∧ ρ 29 ≤ 2000 := r29
  have r30 : (0 : Int) ≤ ρ 30 ∧ ρ 30 ≤ 8 := r30
  have r31 : ((-1) : Int) ≤ ρ 31 ∧ ρ 31 ≤ 1999 := r31
  have r32 : (0 : Int) ≤ ρ 32 ∧ ρ 32 ≤ 1999 := r32
  have r33 : (0 : Int) ≤ ρ 33 ∧ ρ 33 ≤ 3 := r33
  obtain ⟨f0, f1, f2, f3, f4, f5, f6, f7, f8, f9, -⟩ := hf
  have f0 : (0 : Int) ≤ -ρ 7 + ρ 2 + (-1) := f0
  have f1 : (0 : Int) ≤ ρ 29 + -ρ 19 := f1
  have f2 : (0 : Int) ≤ ρ 31 + -ρ 27 := f2
  have f3 : (0 : Int) ≤ ρ 18 + -ρ 15 + (-1) := f3
  have f4 : (0 : Int) ≤ ρ 17 + -ρ 16 + 50000 := f4
  have f5 : (0 : Int) ≤ ρ 1 + -ρ 0 + (-1) := f5
  have f6 : (0 : Int) ≤ ρ 19 + -ρ 9 := f6
  have f7 : (0 : Int) ≤ ρ 18 + -ρ 15 := f7
  have f8 : (0 : Int) ≤ ρ 17 + -ρ 5 := f8
  have f9 : (0 : Int) ≤ ρ 16 + -ρ 4 := f9
  obtain ⟨m0, m1, m2, m3, m4, m5, m6, m7, m8, m9, m10, m11, m12, m13, m14, m15, m16, m17, m18, m19, m20, m21, m22, m23, m24, m25, m26, m27, m28, m29, m30, m31, m32, -⟩ := hm
  have m0 : γ 0 15 0 32 = ρ 1 := m0
  have m1 : γ 0 15 0 13 = ρ 2 := m1
  have m2 : γ 0 71 0 (ρ 0) = ρ 3 := m2
  have m3 : γ 0 15 0 72 = ρ 4 := m3
  have m4 : γ 0 15 0 77 = ρ 5 := m4
  have m5 : γ 0 15 0 90 = ρ 6 := m5
  have m6 : γ 0 69 0 (ρ 0) = ρ 7 := m6
  have m7 : γ 0 15 0 44 = ρ 8 := m7
  have m8 : γ 0 15 0 71 = ρ 9 := m8
  have m9 : γ 0 15 0 76 = ρ 10 := m9
  have m10 : γ 0 15 0 81 = ρ 11 := m10
  have m11 : γ 0 15 0 82 = ρ 12 := m11
  have m12 : γ 0 15 0 83 = ρ 13 := m12
  have m13 : γ 0 15 0 94 = ρ 14 := m13
  have m14 : γ 1 15 0 72 = ρ 16 := m14
  have m15 : γ 1 15 0 77 = ρ 17 := m15
  have m16 : γ 1 15 0 90 = ρ 18 := m16
  have m17 : γ 1 15 0 71 = ρ 19 := m17
  have m18 : γ 1 15 0 81 = ρ 9 := m18
  have m19 : γ 1 106 0 (ρ 15) = ρ 20 := m19
  have m20 : γ 0 66 0 (ρ 7) = ρ 21 := m20
  have m21 : γ 0 70 0 (4 * ρ 0) = ρ 22 := m21
  have m22 : γ 0 70 0 (4 * ρ 0 + 1) = ρ 23 := m22
  have m23 : γ 0 70 0 (4 * ρ 0 + 2) = ρ 24 := m23
  have m24 : γ 0 70 0 (4 * ρ 0 + 3) = ρ 25 := m24
  have m25 : γ 1 97 0 (ρ 19) = ρ 26 := m25
  have m26 : γ 1 100 0 (ρ 7) = ρ 27 := m26
  have m27 : γ 1 101 0 (ρ 7) = ρ 28 := m27
  have m28 : γ 6 15 0 71 = ρ 29 := m28
  have m29 : γ 6 97 0 (ρ 19) = ρ 30 := m29
  have m30 : γ 6 100 0 (ρ 7) = ρ 31 := m30
  have m31 : γ 6 101 0 (ρ 7) = ρ 32 := m31
  have m32 : γ 6 15 0 77 = ρ 33 := m32
  obtain ⟨⟨⟨⟨⟨⟨-, c1⟩, c2⟩, c3⟩, c4⟩, c5⟩, c6⟩ := hc
  have c1 : ∀ (G : Nat) (k j : Int), ¬ rMdP m51_ G j → γ 1 G k j = γ 0 G k j := c1
  have c2 : γ 2 = rUp (γ 1) 102 0 0 (ρ 20) := c2
  have c3 : γ 3 = rUp (γ 2) 102 0 1 (ρ 20) := c3
  have c4 : γ 4 = rUp (γ 3) 102 0 2 (ρ 20) := c4
  have c5 : γ 5 = rUp (γ 4) 102 0 3 (ρ 20) := c5
  have c6 : ∀ (G : Nat) (k j : Int), ¬ rMdP m40_ G j → γ 6 G k j = γ 5 G k j := c6
  obtain ⟨l0, -⟩ := hl
  have l0 : sn57 [ρ 7, ρ 0, ρ 2, ρ 19, ρ 26, ρ 27, ρ 28, ρ 10, ρ 17] (γ 5) 0 0 (γ 6) := hS57 _ _ _ _ _ l0
  show jn75 [ρ 0, ρ 1, ρ 2, ρ 3, ρ 4, ρ 5, ρ 6, ρ 7, ρ 8, ρ 9, ρ 10, ρ 11, ρ 12, ρ 13, ρ 14] (γ 0) 0 [ρ 0, ρ 1, ρ 2, ρ 3, ρ 4, ρ 5, ρ 6, ρ 7, ρ 8, ρ 9, ρ 10, ρ 11, ρ 12, ρ 13, ρ 14, ρ 15 + 1, ρ 16, ρ 33, ρ 18, ρ 29] (γ 6)
  have hD : en75 (γ 0) (0, [ρ 0, ρ 15], γ 1) = .inl (0, [ρ 0, ρ 15 + 1], γ 6) := by
    unfold en75
    refine (if_pos (show (0 : Nat) = 0 by decide)).trans ?_
    refine (zLet_eq (show _ = γ 1 from rfl)).trans ?_
    refine (zLet_eq (show _ = ρ 0 from rfl)).trans ?_
    refine (zLet_eq (show _ = ρ 15 from rfl)).trans ?_
    refine (zLet_eq m2).trans ?_
    refine (zLet_eq m6).trans ?_
    refine (zLet_eq m15).trans ?_
    refine (zLet_eq m16).trans ?_
    refine (if_neg (show ¬ (ρ 15 ≥ ρ 18) by omega)).trans ?_
    refine (if_neg (show ¬ (ρ 17 ≠ 0) by omega)).trans ?_
    refine (if_pos (show ρ 3 ≤ 2 by omega)).trans ?_
    refine (if_neg (show ¬ (ρ 3 ≠ 1) by omega)).trans ?_
    refine (zLet_eq m19).trans ?_
    refine (zLet_eq m20).trans ?_
    refine (if_neg (show ¬ (0 ≥ ρ 21) by omega)).trans ?_
    refine (zLet_eq m21).trans ?_
    refine (if_neg (show ¬ (ρ 22 ≠ 3) by omega)).trans ?_
    refine (zLet_eq c2.symm).trans ?_
    refine (if_neg (show ¬ (1 ≥ ρ 21) by omega)).trans ?_
    refine (zLet_eq m22).trans ?_
    refine (if_neg (show ¬ (ρ 23 ≠ 3) by omega)).trans ?_
    refine (zLet_eq c3.symm).trans ?_
    refine (if_neg (show ¬ (2 ≥ ρ 21) by omega)).trans ?_
    refine (zLet_eq m23).trans ?_
    refine (if_neg (show ¬ (ρ 24 ≠ 3) by omega)).trans ?_
    refine (zLet_eq c4.symm).trans ?_
    refine (if_neg (show ¬ (3 ≥ ρ 21) by omega)).trans ?_
    refine (zLet_eq m24).trans ?_
    refine (if_neg (show ¬ (ρ 25 ≠ 3) by omega)).trans ?_
    refine (zLet_eq c5.symm).trans ?_
    refine (zLet_eq (show fn57 [ρ 7, ρ 0] (γ 5) = (0, 0, γ 6) from l0.symm)).trans ?_
    refine (zLet_eq (show _ = γ 6 from rfl)).trans ?_
    rfl
  exact zGoo_ato hJ hD
theorem vn75a0_64 {S : Nat → zSpc} (hS57 : ∀ x g o v gz, S 57 x g o v gz → sn57 x g o v gz) (hS73 : ∀ x g o v gz, S 73 x g o v gz → sn73 x g o v gz) {a : List Int} {g : rHp} : ∀ (ρ : Nat → Int) (γ : Nat → rHp), jn75 a g 0 (zAg (zNA a75_ 0) ρ) (γ 1) → zO 15 S a g q75a0_64 ρ γ → zGl (fun i vs g1 => jn75 a g i vs g1) (sn75 a g) q75a0_64 ρ γ := by
  intro ρ γ hJ h
  obtain ⟨ha, hg, hr, hf, hm, hc, hl⟩ := h
  have ha : a = [ρ 0, ρ 1, ρ 2, ρ 3, ρ 4, ρ 5, ρ 6, ρ 7, ρ 8, ρ 9, ρ 10, ρ 11, ρ 12, ρ 13, ρ 14] := ha
  subst ha
  subst hg
  have hJ : jn75 [ρ 0, ρ 1, ρ 2, ρ 3, ρ 4, ρ 5, ρ 6, ρ 7, ρ 8, ρ 9, ρ 10, ρ 11, ρ 12, ρ 13, ρ 14] (γ 0) 0 [ρ 0, ρ 1, ρ 2, ρ 3, ρ 4, ρ 5, ρ 6, ρ 7, ρ 8, ρ 9, ρ 10, ρ 11, ρ 12, ρ 13, ρ 14, ρ 15, ρ 16, ρ 17, ρ 18, ρ 19] (γ 1) := hJ
  obtain ⟨r0, r1, r2, r3, r4, r5, r6, r7, r8, r9, r10, r11, r12, r13, r14, r15, r16, r17, r18, r19, r20, r21, r22, r23, r24, r25, r26, r27, r28, r29, r30, r31, r32, r33, r34, -⟩ := hr
  have r0 : (0 : Int) ≤ ρ 0 ∧ ρ 0 ≤ 59 := r0
  have r1 : (0 : Int) ≤ ρ 1 ∧ ρ 1 ≤ 60 := r1
  have r2 : (0 : Int) ≤ ρ 2 ∧ ρ 2 ≤ 20 := r2
  have r3 : (3 : Int) ≤ ρ 3 ∧ ρ 3 ≤ 4 := r3
  have r4 : (0 : Int) ≤ ρ 4 ∧ ρ 4 ≤ 50001 := r4
  have r5 : (0 : Int) ≤ ρ 5 ∧ ρ 5 ≤ 3 := r5
  have r6 : (0 : Int) ≤ ρ 6 ∧ ρ 6 ≤ 2000 := r6
  have r7 : (0 : Int) ≤ ρ 7 ∧ ρ 7 ≤ 19 := r7
  have r8 : (0 : Int) ≤ ρ 8 ∧ ρ 8 ≤ 61 := r8
  have r9 : (0 : Int) ≤ ρ 9 ∧ ρ 9 ≤ 2000 := r9
  have r10 : ((-2147483648) : Int) ≤ ρ 10 ∧ ρ 10 ≤ 2147483647 := r10
  have r11 : (0 : Int) ≤ ρ 11 ∧ ρ 11 ≤ 2000 := r11
  have r12 : (0 : Int) ≤ ρ 12 ∧ ρ 12 ≤ 2000 := r12
  have r13 : (0 : Int) ≤ ρ 13 ∧ ρ 13 ≤ 2000 := r13
  have r14 : (0 : Int) ≤ ρ 14 ∧ ρ 14 ≤ 50001 := r14
  have r15 : (0 : Int) ≤ ρ 15 ∧ ρ 15 ≤ 2000 := r15
  have r16 : (0 : Int) ≤ ρ 16 ∧ ρ 16 ≤ 50001 := r16
  have r17 : (0 : Int) ≤ ρ 17 ∧ ρ 17 ≤ 0 := r17
  have r18 : (0 : Int) ≤ ρ 18 ∧ ρ 18 ≤ 2000 := r18
  have r19 : (0 : Int) ≤ ρ 19 ∧ ρ 19 ≤ 2000 := r19
  have r20 : (1 : Int) ≤ ρ 20 ∧ ρ 20 ≤ 1 := r20
  have r21 : ((-2147483648) : Int) ≤ ρ 21 ∧ ρ 21 ≤ 1099511640064 := r21
  have r22 : (0 : Int) ≤ ρ 22 ∧ ρ 22 ≤ 0 := r22
  have r23 : ((-2147483648) : Int) ≤ ρ 23 ∧ ρ 23 ≤ 1099511640064 := r23
  have r24 : ((-2147483648) : Int) ≤ ρ 24 ∧ ρ 24 ≤ 1099511640064 := r24
  have r25 : ((-2147483648) : Int) ≤ ρ 25 ∧ ρ 25 ≤ 1099511640064 := r25
  have r26 : ((-2147483648) : Int) ≤ ρ 26 ∧ ρ 26 ≤ 1099511640064 := r26
  have r27 : (0 : Int) ≤ ρ 27 ∧ ρ 27 ≤ 8 := r27
  have r28 : ((-1) : Int) ≤ ρ 28 ∧ ρ 28 ≤ 1999 := r28
  have r29 : (0 : Int) ≤ ρ 29 ∧ ρ 29 ≤ 1999 := r29
  have r30 : (1 : Int) ≤ ρ 30 ∧ ρ 30 ≤ 2000 := r30
  have r31 : (0 : Int) ≤ ρ 31 ∧ ρ 31 ≤ 8 := r31
  have r32 : ((-1) : Int) ≤ ρ 32 ∧ ρ 32 ≤ 1999 := r32
  have r33 : (0 : Int) ≤ ρ 33 ∧ ρ 33 ≤ 1999 := r33
  have r34 : (0 : Int) ≤ ρ 34 ∧ ρ 34 ≤ 3 := r34
  obtain ⟨f0, f1, f2, f3, f4, f5, f6, f7, f8, f9, -⟩ := hf
  have f0 : (0 : Int) ≤ -ρ 7 + ρ 2 + (-1) := f0
  have f1 : (0 : Int) ≤ ρ 30 + -ρ 19 := f1
  have f2 : (0 : Int) ≤ ρ 32 + -ρ 28 := f2
  have f3 : (0 : Int) ≤ ρ 18 + -ρ 15 + (-1) := f3
  have f4 : (0 : Int) ≤ ρ 17 + -ρ 16 + 50000 := f4
  have f5 : (0 : Int) ≤ ρ 1 + -ρ 0 + (-1) := f5
  have f6 : (0 : Int) ≤ ρ 19 + -ρ 9 := f6
  have f7 : (0 : Int) ≤ ρ 18 + -ρ 15 := f7
  have f8 : (0 : Int) ≤ ρ 17 + -ρ 5 := f8
  have f9 : (0 : Int) ≤ ρ 16 + -ρ 4 := f9
  obtain ⟨m0, m1, m2, m3, m4, m5, m6, m7, m8, m9, m10, m11, m12, m13, m14, m15, m16, m17, m18, m19, m20, m21, m22, m23, m24, m25, m26, m27, m28, m29, m30, m31, m32, m33, -⟩ := hm
  have m0 : γ 0 15 0 32 = ρ 1 := m0
  have m1 : γ 0 15 0 13 = ρ 2 := m1
  have m2 : γ 0 71 0 (ρ 0) = ρ 3 := m2
  have m3 : γ 0 15 0 72 = ρ 4 := m3
  have m4 : γ 0 15 0 77 = ρ 5 := m4
  have m5 : γ 0 15 0 90 = ρ 6 := m5
  have m6 : γ 0 69 0 (ρ 0) = ρ 7 := m6
  have m7 : γ 0 15 0 44 = ρ 8 := m7
  have m8 : γ 0 15 0 71 = ρ 9 := m8
  have m9 : γ 0 15 0 76 = ρ 10 := m9
  have m10 : γ 0 15 0 81 = ρ 11 := m10
  have m11 : γ 0 15 0 82 = ρ 12 := m11
  have m12 : γ 0 15 0 83 = ρ 13 := m12
  have m13 : γ 0 15 0 94 = ρ 14 := m13
  have m14 : γ 1 15 0 72 = ρ 16 := m14
  have m15 : γ 1 15 0 77 = ρ 17 := m15
  have m16 : γ 1 15 0 90 = ρ 18 := m16
  have m17 : γ 1 15 0 71 = ρ 19 := m17
  have m18 : γ 1 15 0 81 = ρ 9 := m18
  have m19 : γ 1 109 0 (ρ 15) = ρ 20 := m19
  have m20 : γ 1 108 0 (ρ 15) = ρ 21 := m20
  have m21 : γ 0 66 0 (ρ 7) = ρ 22 := m21
  have m22 : γ 1 105 0 (4 * ρ 15) = ρ 23 := m22
  have m23 : γ 1 105 0 (4 * ρ 15 + 1) = ρ 24 := m23
  have m24 : γ 1 105 0 (4 * ρ 15 + 2) = ρ 25 := m24
  have m25 : γ 1 105 0 (4 * ρ 15 + 3) = ρ 26 := m25
  have m26 : γ 1 97 0 (ρ 19) = ρ 27 := m26
  have m27 : γ 1 100 0 (ρ 7) = ρ 28 := m27
  have m28 : γ 1 101 0 (ρ 7) = ρ 29 := m28
  have m29 : γ 6 15 0 71 = ρ 30 := m29
  have m30 : γ 6 97 0 (ρ 19) = ρ 31 := m30
  have m31 : γ 6 100 0 (ρ 7) = ρ 32 := m31
  have m32 : γ 6 101 0 (ρ 7) = ρ 33 := m32
  have m33 : γ 6 15 0 77 = ρ 34 := m33
  obtain ⟨⟨⟨⟨⟨⟨-, c1⟩, c2⟩, c3⟩, c4⟩, c5⟩, c6⟩ := hc
  have c1 : ∀ (G : Nat) (k j : Int), ¬ rMdP m51_ G j → γ 1 G k j = γ 0 G k j := c1
  have c2 : γ 2 = rUp (γ 1) 102 0 0 (ρ 23) := c2
  have c3 : γ 3 = rUp (γ 2) 102 0 1 (ρ 24) := c3
  have c4 : γ 4 = rUp (γ 3) 102 0 2 (ρ 25) := c4
  have c5 : γ 5 = rUp (γ 4) 102 0 3 (ρ 26) := c5
  have c6 : ∀ (G : Nat) (k j : Int), ¬ rMdP m40_ G j → γ 6 G k j = γ 5 G k j := c6
  obtain ⟨l0, -⟩ := hl
  have l0 : sn57 [ρ 7, ρ 0, ρ 2, ρ 19, ρ 27, ρ 28, ρ 29, ρ 10, ρ 17] (γ 5) 0 0 (γ 6) := hS57 _ _ _ _ _ l0
  show jn75 [ρ 0, ρ 1, ρ 2, ρ 3, ρ 4, ρ 5, ρ 6, ρ 7, ρ 8, ρ 9, ρ 10, ρ 11, ρ 12, ρ 13, ρ 14] (γ 0) 0 [ρ 0, ρ 1, ρ 2, ρ 3, ρ 4, ρ 5, ρ 6, ρ 7, ρ 8, ρ 9, ρ 10, ρ 11, ρ 12, ρ 13, ρ 14, ρ 15 + 1, ρ 16, ρ 34, ρ 18, ρ 30] (γ 6)
  have hD : en75 (γ 0) (0, [ρ 0, ρ 15], γ 1) = .inl (0, [ρ 0, ρ 15 + 1], γ 6) := by
    unfold en75
    refine (if_pos (show (0 : Nat) = 0 by decide)).trans ?_
    refine (zLet_eq (show _ = γ 1 from rfl)).trans ?_
    refine (zLet_eq (show _ = ρ 0 from rfl)).trans ?_
    refine (zLet_eq (show _ = ρ 15 from rfl)).trans ?_
    refine (zLet_eq m2).trans ?_
    refine (zLet_eq m6).trans ?_
    refine (zLet_eq m15).trans ?_
    refine (zLet_eq m16).trans ?_
    refine (if_neg (show ¬ (ρ 15 ≥ ρ 18) by omega)).trans ?_
    refine (if_neg (show ¬ (ρ 17 ≠ 0) by omega)).trans ?_
    refine (if_neg (show ¬ (ρ 3 ≤ 2) by omega)).trans ?_
    refine (zLet_eq m19).trans ?_
    refine (if_pos (show ρ 20 ≠ 0 by omega)).trans ?_
    refine (zLet_eq m20).trans ?_
    refine (zLet_eq m21).trans ?_
    refine (if_pos (show 0 ≥ ρ 22 by omega)).trans ?_
    refine (zLet_eq m22).trans ?_
    refine (zLet_eq c2.symm).trans ?_
    refine (zLet_eq m23).trans ?_
    refine (zLet_eq c3.symm).trans ?_
    refine (zLet_eq m24).trans ?_
    refine (zLet_eq c4.symm).trans ?_
    refine (zLet_eq m25).trans ?_
    refine (zLet_eq c5.symm).trans ?_
    refine (zLet_eq (show fn57 [ρ 7, ρ 0] (γ 5) = (0, 0, γ 6) from l0.symm)).trans ?_
    refine (zLet_eq (show _ = γ 6 from rfl)).trans ?_
    rfl
  exact zGoo_ato hJ hD
theorem vn75a0_65 {S : Nat → zSpc} (hS57 : ∀ x g o v gz, S 57 x g o v gz → sn57 x g o v gz) (hS73 : ∀ x g o v gz, S 73 x g o v gz → sn73 x g o v gz) {a : List Int} {g : rHp} : ∀ (ρ : Nat → Int) (γ : Nat → rHp), jn75 a g 0 (zAg (zNA a75_ 0) ρ) (γ 1) → zO 15 S a g q75a0_65 ρ γ → zGl (fun i vs g1 => jn75 a g i vs g1) (sn75 a g) q75a0_65 ρ γ := by
  intro ρ γ hJ h
  obtain ⟨ha, hg, hr, hf, hm, hc, hl⟩ := h
  have ha : a = [ρ 0, ρ 1, ρ 2, ρ 3, ρ 4, ρ 5, ρ 6, ρ 7, ρ 8, ρ 9, ρ 10, ρ 11, ρ 12, ρ 13, ρ 14] := ha
  subst ha
  subst hg
  have hJ : jn75 [ρ 0, ρ 1, ρ 2, ρ 3, ρ 4, ρ 5, ρ 6, ρ 7, ρ 8, ρ 9, ρ 10, ρ 11, ρ 12, ρ 13, ρ 14] (γ 0) 0 [ρ 0, ρ 1, ρ 2, ρ 3, ρ 4, ρ 5, ρ 6, ρ 7, ρ 8, ρ 9, ρ 10, ρ 11, ρ 12, ρ 13, ρ 14, ρ 15, ρ 16, ρ 17, ρ 18, ρ 19] (γ 1) := hJ
  obtain ⟨r0, r1, r2, r3, r4, r5, r6, r7, r8, r9, r10, r11, r12, r13, r14, r15, r16, r17, r18, r19, r20, r21, r22, r23, r24, r25, r26, r27, r28, r29, r30, r31, r32, r33, r34, r35, -⟩ := hr
  have r0 : (0 : Int) ≤ ρ 0 ∧ ρ 0 ≤ 59 := r0
  have r1 : (0 : Int) ≤ ρ 1 ∧ ρ 1 ≤ 60 := r1
  have r2 : (0 : Int) ≤ ρ 2 ∧ ρ 2 ≤ 20 := r2
  have r3 : (3 : Int) ≤ ρ 3 ∧ ρ 3 ≤ 4 := r3
  have r4 : (0 : Int) ≤ ρ 4 ∧ ρ 4 ≤ 50001 := r4
  have r5 : (0 : Int) ≤ ρ 5 ∧ ρ 5 ≤ 3 := r5
  have r6 : (0 : Int) ≤ ρ 6 ∧ ρ 6 ≤ 2000 := r6
  have r7 : (0 : Int) ≤ ρ 7 ∧ ρ 7 ≤ 19 := r7
  have r8 : (0 : Int) ≤ ρ 8 ∧ ρ 8 ≤ 61 := r8
  have r9 : (0 : Int) ≤ ρ 9 ∧ ρ 9 ≤ 2000 := r9
  have r10 : ((-2147483648) : Int) ≤ ρ 10 ∧ ρ 10 ≤ 2147483647 := r10
  have r11 : (0 : Int) ≤ ρ 11 ∧ ρ 11 ≤ 2000 := r11
  have r12 : (0 : Int) ≤ ρ 12 ∧ ρ 12 ≤ 2000 := r12
  have r13 : (0 : Int) ≤ ρ 13 ∧ ρ 13 ≤ 2000 := r13
  have r14 : (0 : Int) ≤ ρ 14 ∧ ρ 14 ≤ 50001 := r14
  have r15 : (0 : Int) ≤ ρ 15 ∧ ρ 15 ≤ 2000 := r15
  have r16 : (0 : Int) ≤ ρ 16 ∧ ρ 16 ≤ 50001 := r16
  have r17 : (0 : Int) ≤ ρ 17 ∧ ρ 17 ≤ 0 := r17
  have r18 : (0 : Int) ≤ ρ 18 ∧ ρ 18 ≤ 2000 := r18
  have r19 : (0 : Int) ≤ ρ 19 ∧ ρ 19 ≤ 2000 := r19
  have r20 : (1 : Int) ≤ ρ 20 ∧ ρ 20 ≤ 1 := r20
  have r21 : ((-2147483648) : Int) ≤ ρ 21 ∧ ρ 21 ≤ 1099511640064 := r21
  have r22 : (1 : Int) ≤ ρ 22 ∧ ρ 22 ≤ 1 := r22
  have r23 : (0 : Int) ≤ ρ 23 ∧ ρ 23 ≤ 2 := r23
  have r24 : ((-2147483648) : Int) ≤ ρ 24 ∧ ρ 24 ≤ 1099511640064 := r24
  have r25 : ((-2147483648) : Int) ≤ ρ 25 ∧ ρ 25 ≤ 1099511640064 := r25
  have r26 : ((-2147483648) : Int) ≤ ρ 26 ∧ ρ 26 ≤ 1099511640064 := r26
  have r27 : ((-2147483648) : Int) ≤ ρ 27 ∧ ρ 27 ≤ 1099511640064 := r27
  have r28 : (0 : Int) ≤ ρ 28 ∧ ρ 28 ≤ 8 := r28
  have r29 : ((-1) : Int) ≤ ρ 29 ∧ ρ 29 ≤ 1999 := r29
  have r30 : (0 : Int) ≤ ρ 30 ∧ ρ 30 ≤ 1999 := r30
  have r31 : (1 : Int) ≤ ρ 31 ∧ ρ 31 ≤ 2000 := r31
  have r32 : (0 : Int) ≤ ρ 32 ∧ ρ 32 ≤ 8 := r32
  have r33 : ((-1) : Int) ≤ ρ 33 ∧ ρ 33 ≤ 1999 := r33
  have r34 : (0 : Int) ≤ ρ 34 ∧ ρ 34 ≤ 1999 := r34
  have r35 : (0 : Int) ≤ ρ 35 ∧ ρ 35 ≤ 3 := r35
  obtain ⟨f0, f1, f2, f3, f4, f5, f6, f7, f8, f9, -⟩ := hf
  have f0 : (0 : Int) ≤ -ρ 7 + ρ 2 + (-1) := f0
  have f1 : (0 : Int) ≤ ρ 31 + -ρ 19 := f1
  have f2 : (0 : Int) ≤ ρ 33 + -ρ 29 := f2
  have f3 : (0 : Int) ≤ ρ 18 + -ρ 15 + (-1) := f3
  have f4 : (0 : Int) ≤ ρ 17 + -ρ 16 + 50000 := f4
  have f5 : (0 : Int) ≤ ρ 1 + -ρ 0 + (-1) := f5
  have f6 : (0 : Int) ≤ ρ 19 + -ρ 9 := f6
  have f7 : (0 : Int) ≤ ρ 18 + -ρ 15 := f7
  have f8 : (0 : Int) ≤ ρ 17 + -ρ 5 := f8
  have f9 : (0 : Int) ≤ ρ 16 + -ρ 4 := f9
  obtain ⟨m0, m1, m2, m3, m4, m5, m6, m7, m8, m9, m10, m11, m12, m13, m14, m15, m16, m17, m18, m19, m20, m21, m22, m23, m24, m25, m26, m27, m28, m29, m30, m31, m32, m33, m34, -⟩ := hm
  have m0 : γ 0 15 0 32 = ρ 1 := m0
  have m1 : γ 0 15 0 13 = ρ 2 := m1
  have m2 : γ 0 71 0 (ρ 0) = ρ 3 := m2
  have m3 : γ 0 15 0 72 = ρ 4 := m3
  have m4 : γ 0 15 0 77 = ρ 5 := m4
  have m5 : γ 0 15 0 90 = ρ 6 := m5
  have m6 : γ 0 69 0 (ρ 0) = ρ 7 := m6
  have m7 : γ 0 15 0 44 = ρ 8 := m7
  have m8 : γ 0 15 0 71 = ρ 9 := m8
  have m9 : γ 0 15 0 76 = ρ 10 := m9
  have m10 : γ 0 15 0 81 = ρ 11 := m10
  have m11 : γ 0 15 0 82 = ρ 12 := m11
  have m12 : γ 0 15 0 83 = ρ 13 := m12
  have m13 : γ 0 15 0 94 = ρ 14 := m13
  have m14 : γ 1 15 0 72 = ρ 16 := m14
  have m15 : γ 1 15 0 77 = ρ 17 := m15
  have m16 : γ 1 15 0 90 = ρ 18 := m16
  have m17 : γ 1 15 0 71 = ρ 19 := m17
  have m18 : γ 1 15 0 81 = ρ 9 := m18
  have m19 : γ 1 109 0 (ρ 15) = ρ 20 := m19
  have m20 : γ 1 108 0 (ρ 15) = ρ 21 := m20
  have m21 : γ 0 66 0 (ρ 7) = ρ 22 := m21
  have m22 : γ 0 70 0 (4 * ρ 0) = ρ 23 := m22
  have m23 : γ 1 105 0 (4 * ρ 15) = ρ 24 := m23
  have m24 : γ 1 105 0 (4 * ρ 15 + 1) = ρ 25 := m24
  have m25 : γ 1 105 0 (4 * ρ 15 + 2) = ρ 26 := m25
  have m26 : γ 1 105 0 (4 * ρ 15 + 3) = ρ 27 := m26
  have m27 : γ 1 97 0 (ρ 19) = ρ 28 := m27
  have m28 : γ 1 100 0 (ρ 7) = ρ 29 := m28
  have m29 : γ 1 101 0 (ρ 7) = ρ 30 := m29
  have m30 : γ 6 15 0 71 = ρ 31 := m30
  have m31 : γ 6 97 0 (ρ 19) = ρ 32 := m31
  have m32 : γ 6 100 0 (ρ 7) = ρ 33 := m32
  have m33 : γ 6 101 0 (ρ 7) = ρ 34 := m33
  have m34 : γ 6 15 0 77 = ρ 35 := m34
  obtain ⟨⟨⟨⟨⟨⟨-, c1⟩, c2⟩, c3⟩, c4⟩, c5⟩, c6⟩ := hc
  have c1 : ∀ (G : Nat) (k j : Int), ¬ rMdP m51_ G j → γ 1 G k j = γ 0 G k j := c1
  have c2 : γ 2 = rUp (γ 1) 102 0 0 (ρ 24) := c2
  have c3 : γ 3 = rUp (γ 2) 102 0 1 (ρ 25) := c3
  have c4 : γ 4 = rUp (γ 3) 102 0 2 (ρ 26) := c4
  have c5 : γ 5 = rUp (γ 4) 102 0 3 (ρ 27) := c5
  have c6 : ∀ (G : Nat) (k j : Int), ¬ rMdP m40_ G j → γ 6 G k j = γ 5 G k j := c6
  obtain ⟨l0, -⟩ := hl
  have l0 : sn57 [ρ 7, ρ 0, ρ 2, ρ 19, ρ 28, ρ 29, ρ 30, ρ 10, ρ 17] (γ 5) 0 0 (γ 6) := hS57 _ _ _ _ _ l0
  show jn75 [ρ 0, ρ 1, ρ 2, ρ 3, ρ 4, ρ 5, ρ 6, ρ 7, ρ 8, ρ 9, ρ 10, ρ 11, ρ 12, ρ 13, ρ 14] (γ 0) 0 [ρ 0, ρ 1, ρ 2, ρ 3, ρ 4, ρ 5, ρ 6, ρ 7, ρ 8, ρ 9, ρ 10, ρ 11, ρ 12, ρ 13, ρ 14, ρ 15 + 1, ρ 16, ρ 35, ρ 18, ρ 31] (γ 6)
  have hD : en75 (γ 0) (0, [ρ 0, ρ 15], γ 1) = .inl (0, [ρ 0, ρ 15 + 1], γ 6) := by
    unfold en75
    refine (if_pos (show (0 : Nat) = 0 by decide)).trans ?_
    refine (zLet_eq (show _ = γ 1 from rfl)).trans ?_
    refine (zLet_eq (show _ = ρ 0 from rfl)).trans ?_
    refine (zLet_eq (show _ = ρ 15 from rfl)).trans ?_
    refine (zLet_eq m2).trans ?_
    refine (zLet_eq m6).trans ?_
    refine (zLet_eq m15).trans ?_
    refine (zLet_eq m16).trans ?_
    refine (if_neg (show ¬ (ρ 15 ≥ ρ 18) by omega)).trans ?_
    refine (if_neg (show ¬ (ρ 17 ≠ 0) by omega)).trans ?_
    refine (if_neg (show ¬ (ρ 3 ≤ 2) by omega)).trans ?_
    refine (zLet_eq m19).trans ?_
    refine (if_pos (show ρ 20 ≠ 0 by omega)).trans ?_
    refine (zLet_eq m20).trans ?_
    refine (zLet_eq m21).trans ?_
    refine (if_neg (show ¬ (0 ≥ ρ 22) by omega)).trans ?_
    refine (zLet_eq m22).trans ?_
    refine (if_pos (show ρ 23 ≠ 3 by omega)).trans ?_
    refine (zLet_eq m23).trans ?_
    refine (zLet_eq c2.symm).trans ?_
    refine (if_pos (show 1 ≥ ρ 22 by omega)).trans ?_
    refine (zLet_eq m24).trans ?_
    refine (zLet_eq c3.symm).trans ?_
    refine (zLet_eq m25).trans ?_
    refine (zLet_eq c4.symm).trans ?_
    refine (zLet_eq m26).trans ?_
    refine (zLet_eq c5.symm).trans ?_
    refine (zLet_eq (show fn57 [ρ 7, ρ 0] (γ 5) = (0, 0, γ 6) from l0.symm)).trans ?_
    refine (zLet_eq (show _ = γ 6 from rfl)).trans ?_
    rfl
  exact zGoo_ato hJ hD
theorem vn75a0_66 {S : Nat → zSpc} (hS57 : ∀ x g o v gz, S 57 x g o v gz → sn57 x g o v gz) (hS73 : ∀ x g o v gz, S 73 x g o v gz → sn73 x g o v gz) {a : List Int} {g : rHp} : ∀ (ρ : Nat → Int) (γ : Nat → rHp), jn75 a g 0 (zAg (zNA a75_ 0) ρ) (γ 1) → zO 15 S a g q75a0_66 ρ γ → zGl (fun i vs g1 => jn75 a g i vs g1) (sn75 a g) q75a0_66 ρ γ := by
  intro ρ γ hJ h
  obtain ⟨ha, hg, hr, hf, hm, hc, hl⟩ := h
  have ha : a = [ρ 0, ρ 1, ρ 2, ρ 3, ρ 4, ρ 5, ρ 6, ρ 7, ρ 8, ρ 9, ρ 10, ρ 11, ρ 12, ρ 13, ρ 14] := ha
  subst ha
  subst hg
  have hJ : jn75 [ρ 0, ρ 1, ρ 2, ρ 3, ρ 4, ρ 5, ρ 6, ρ 7, ρ 8, ρ 9, ρ 10, ρ 11, ρ 12, ρ 13, ρ 14] (γ 0) 0 [ρ 0, ρ 1, ρ 2, ρ 3, ρ 4, ρ 5, ρ 6, ρ 7, ρ 8, ρ 9, ρ 10, ρ 11, ρ 12, ρ 13, ρ 14, ρ 15, ρ 16, ρ 17, ρ 18, ρ 19] (γ 1) := hJ
  obtain ⟨r0, r1, r2, r3, r4, r5, r6, r7, r8, r9, r10, r11, r12, r13, r14, r15, r16, r17, r18, r19, r20, r21, r22, r23, r24, r25, r26, r27, r28, r29, r30, r31, r32, r33, r34, r35, r36, -⟩ := hr
  have r0 : (0 : Int) ≤ ρ 0 ∧ ρ 0 ≤ 59 := r0
  have r1 : (0 : Int) ≤ ρ 1 ∧ ρ 1 ≤ 60 := r1
  have r2 : (0 : Int) ≤ ρ 2 ∧ ρ 2 ≤ 20 := r2
  have r3 : (3 : Int) ≤ ρ 3 ∧ ρ 3 ≤ 4 := r3
  have r4 : (0 : Int) ≤ ρ 4 ∧ ρ 4 ≤ 50001 := r4
  have r5 : (0 : Int) ≤ ρ 5 ∧ ρ 5 ≤ 3 := r5
  have r6 : (0 : Int) ≤ ρ 6 ∧ ρ 6 ≤ 2000 := r6
  have r7 : (0 : Int) ≤ ρ 7 ∧ ρ 7 ≤ 19 := r7
  have r8 : (0 : Int) ≤ ρ 8 ∧ ρ 8 ≤ 61 := r8
  have r9 : (0 : Int) ≤ ρ 9 ∧ ρ 9 ≤ 2000 := r9
  have r10 : ((-2147483648) : Int) ≤ ρ 10 ∧ ρ 10 ≤ 2147483647 := r10
  have r11 : (0 : Int) ≤ ρ 11 ∧ ρ 11 ≤ 2000 := r11
  have r12 : (0 : Int) ≤ ρ 12 ∧ ρ 12 ≤ 2000 := r12
  have r13 : (0 : Int) ≤ ρ 13 ∧ ρ 13 ≤ 2000 := r13
  have r14 : (0 : Int) ≤ ρ 14 ∧ ρ 14 ≤ 50001 := r14
  have r15 : (0 : Int) ≤ ρ 15 ∧ ρ 15 ≤ 2000 := r15
  have r16 : (0 : Int) ≤ ρ 16 ∧ ρ 16 ≤ 50001 := r16
  have r17 : (0 : Int) ≤ ρ 17 ∧ ρ 17 ≤ 0 := r17
  have r18 : (0 : Int) ≤ ρ 18 ∧ ρ 18 ≤ 2000 := r18
  have r19 : (0 : Int) ≤ ρ 19 ∧ ρ 19 ≤ 2000 := r19
  have r20 : (1 : Int) ≤ ρ 20 ∧ ρ 20 ≤ 1 := r20
  have r21 : ((-2147483648) : Int) ≤ ρ 21 ∧ ρ 21 ≤ 1099511640064 := r21
  have r22 : (2 : Int) ≤ ρ 22 ∧ ρ 22 ≤ 2 := r22
  have r23 : (0 : Int) ≤ ρ 23 ∧ ρ 23 ≤ 2 := r23
  have r24 : ((-2147483648) : Int) ≤ ρ 24 ∧ ρ 24 ≤ 1099511640064 := r24
  have r25 : (0 : Int) ≤ ρ 25 ∧ ρ 25 ≤ 2 := r25
  have r26 : ((-2147483648) : Int) ≤ ρ 26 ∧ ρ 26 ≤ 1099511640064 := r26
  have r27 : ((-2147483648) : Int) ≤ ρ 27 ∧ ρ 27 ≤ 1099511640064 := r27
  have r28 : ((-2147483648) : Int) ≤ ρ 28 ∧ ρ 28 ≤ 1099511640064 := r28
  have r29 : (0 : Int) ≤ ρ 29 ∧ ρ 29 ≤ 8 := r29
  have r30 : ((-1) : Int) ≤ ρ 30 ∧ ρ 30 ≤ 1999 := r30
  have r31 : (0 : Int) ≤ ρ 31 ∧ ρ 31 ≤ 1999 := r31
  have r32 : (1 : Int) ≤ ρ 32 ∧ ρ 32 ≤ 2000 := r32
  have r33 : (0 : Int) ≤ ρ 33 ∧ ρ 33 ≤ 8 := r33
  have r34 : ((-1) : Int) ≤ ρ 34 ∧ ρ 34 ≤ 1999 := r34
  have r35 : (0 : Int) ≤ ρ 35 ∧ ρ 35 ≤ 1999 := r35
  have r36 : (0 : Int) ≤ ρ 36 ∧ ρ 36 ≤ 3 := r36
  obtain ⟨f0, f1, f2, f3, f4, f5, f6, f7, f8, f9, -⟩ := hf
  have f0 : (0 : Int) ≤ -ρ 7 + ρ 2 + (-1) := f0
  have f1 : (0 : Int) ≤ ρ 32 + -ρ 19 := f1
  have f2 : (0 : Int) ≤ ρ 34 + -ρ 30 := f2
  have f3 : (0 : Int) ≤ ρ 18 + -ρ 15 + (-1) := f3
  have f4 : (0 : Int) ≤ ρ 17 + -ρ 16 + 50000 := f4
  have f5 : (0 : Int) ≤ ρ 1 + -ρ 0 + (-1) := f5
  have f6 : (0 : Int) ≤ ρ 19 + -ρ 9 := f6
  have f7 : (0 : Int) ≤ ρ 18 + -ρ 15 := f7
  have f8 : (0 : Int) ≤ ρ 17 + -ρ 5 := f8
  have f9 : (0 : Int) ≤ ρ 16 + -ρ 4 := f9
  obtain ⟨m0, m1, m2, m3, m4, m5, m6, m7, m8, m9, m10, m11, m12, m13, m14, m15, m16, m17, m18, m19, m20, m21, m22, m23, m24, m25, m26, m27, m28, m29, m30, m31, m32, m33, m34, m35, -⟩ := hm
  have m0 : γ 0 15 0 32 = ρ 1 := m0
  have m1 : γ 0 15 0 13 = ρ 2 := m1
  have m2 : γ 0 71 0 (ρ 0) = ρ 3 := m2
  have m3 : γ 0 15 0 72 = ρ 4 := m3
  have m4 : γ 0 15 0 77 = ρ 5 := m4
  have m5 : γ 0 15 0 90 = ρ 6 := m5
  have m6 : γ 0 69 0 (ρ 0) = ρ 7 := m6
  have m7 : γ 0 15 0 44 = ρ 8 := m7
  have m8 : γ 0 15 0 71 = ρ 9 := m8
  have m9 : γ 0 15 0 76 = ρ 10 := m9
  have m10 : γ 0 15 0 81 = ρ 11 := m10
  have m11 : γ 0 15 0 82 = ρ 12 := m11
  have m12 : γ 0 15 0 83 = ρ 13 := m12
  have m13 : γ 0 15 0 94 = ρ 14 := m13
  have m14 : γ 1 15 0 72 = ρ 16 := m14
  have m15 : γ 1 15 0 77 = ρ 17 := m15
  have m16 : γ 1 15 0 90 = ρ 18 := m16
  have m17 : γ 1 15 0 71 = ρ 19 := m17
  have m18 : γ 1 15 0 81 = ρ 9 := m18
  have m19 : γ 1 109 0 (ρ 15) = ρ 20 := m19
  have m20 : γ 1 108 0 (ρ 15) = ρ 21 := m20
  have m21 : γ 0 66 0 (ρ 7) = ρ 22 := m21
  have m22 : γ 0 70 0 (4 * ρ 0) = ρ 23 := m22
  have m23 : γ 1 105 0 (4 * ρ 15) = ρ 24 := m23
  have m24 : γ 0 70 0 (4 * ρ 0 + 1) = ρ 25 := m24
  have m25 : γ 1 105 0 (4 * ρ 15 + 1) = ρ 26 := m25
  have m26 : γ 1 105 0 (4 * ρ 15 + 2) = ρ 27 := m26
  have m27 : γ 1 105 0 (4 * ρ 15 + 3) = ρ 28 := m27
  have m28 : γ 1 97 0 (ρ 19) = ρ 29 := m28
  have m29 : γ 1 100 0 (ρ 7) = ρ 30 := m29
  have m30 : γ 1 101 0 (ρ 7) = ρ 31 := m30
  have m31 : γ 6 15 0 71 = ρ 32 := m31
  have m32 : γ 6 97 0 (ρ 19) = ρ 33 := m32
  have m33 : γ 6 100 0 (ρ 7) = ρ 34 := m33
  have m34 : γ 6 101 0 (ρ 7) = ρ 35 := m34
  have m35 : γ 6 15 0 77 = ρ 36 := m35
  obtain ⟨⟨⟨⟨⟨⟨-, c1⟩, c2⟩, c3⟩, c4⟩, c5⟩, c6⟩ := hc
  have c1 : ∀ (G : Nat) (k j : Int), ¬ rMdP m51_ G j → γ 1 G k j = γ 0 G k j := c1
  have c2 : γ 2 = rUp (γ 1) 102 0 0 (ρ 24) := c2
  have c3 : γ 3 = rUp (γ 2) 102 0 1 (ρ 26) := c3
  have c4 : γ 4 = rUp (γ 3) 102 0 2 (ρ 27) := c4
  have c5 : γ 5 = rUp (γ 4) 102 0 3 (ρ 28) := c5
  have c6 : ∀ (G : Nat) (k j : Int), ¬ rMdP m40_ G j → γ 6 G k j = γ 5 G k j := c6
  obtain ⟨l0, -⟩ := hl
  have l0 : sn57 [ρ 7, ρ 0, ρ 2, ρ 19, ρ 29, ρ 30, ρ 31, ρ 10, ρ 17] (γ 5) 0 0 (γ 6) := hS57 _ _ _ _ _ l0
  show jn75 [ρ 0, ρ 1, ρ 2, ρ 3, ρ 4, ρ 5, ρ 6, ρ 7, ρ 8, ρ 9, ρ 10, ρ 11, ρ 12, ρ 13, ρ 14] (γ 0) 0 [ρ 0, ρ 1, ρ 2, ρ 3, ρ 4, ρ 5, ρ 6, ρ 7, ρ 8, ρ 9, ρ 10, ρ 11, ρ 12, ρ 13, ρ 14, ρ 15 + 1, ρ 16, ρ 36, ρ 18, ρ 32] (γ 6)
  have hD : en75 (γ 0) (0, [ρ 0, ρ 15], γ 1) = .inl (0, [ρ 0, ρ 15 + 1], γ 6) := by
    unfold en75
    refine (if_pos (show (0 : Nat) = 0 by decide)).trans ?_
    refine (zLet_eq (show _ = γ 1 from rfl)).trans ?_
    refine (zLet_eq (show _ = ρ 0 from rfl)).trans ?_
    refine (zLet_eq (show _ = ρ 15 from rfl)).trans ?_
    refine (zLet_eq m2).trans ?_
    refine (zLet_eq m6).trans ?_
    refine (zLet_eq m15).trans ?_
    refine (zLet_eq m16).trans ?_
    refine (if_neg (show ¬ (ρ 15 ≥ ρ 18) by omega)).trans ?_
    refine (if_neg (show ¬ (ρ 17 ≠ 0) by omega)).trans ?_
    refine (if_neg (show ¬ (ρ 3 ≤ 2) by omega)).trans ?_
    refine (zLet_eq m19).trans ?_
    refine (if_pos (show ρ 20 ≠ 0 by omega)).trans ?_
    refine (zLet_eq m20).trans ?_
    refine (zLet_eq m21).trans ?_
    refine (if_neg (show ¬ (0 ≥ ρ 22) by omega)).trans ?_
    refine (zLet_eq m22).trans ?_
    refine (if_pos (show ρ 23 ≠ 3 by omega)).trans ?_
    refine (zLet_eq m23).trans ?_
    refine (zLet_eq c2.symm).trans ?_
    refine (if_neg (show ¬ (1 ≥ ρ 22) by omega)).trans ?_
    refine (zLet_eq m24).trans ?_
    refine (if_pos (show ρ 25 ≠ 3 by omega)).trans ?_
    refine (zLet_eq m25).trans ?_
    refine (zLet_eq c3.symm).trans ?_
    refine (if_pos (show 2 ≥ ρ 22 by omega)).trans ?_
    refine (zLet_eq m26).trans ?_
    refine (zLet_eq c4.symm).trans ?_
    refine (zLet_eq m27).trans ?_
    refine (zLet_eq c5.symm).trans ?_
    refine (zLet_eq (show fn57 [ρ 7, ρ 0] (γ 5) = (0, 0, γ 6) from l0.symm)).trans ?_
    refine (zLet_eq (show _ = γ 6 from rfl)).trans ?_
    rfl
  exact zGoo_ato hJ hD
theorem vn75a0_67 {S : Nat → zSpc} (hS57 : ∀ x g o v gz, S 57 x g o v gz → sn57 x g o v gz) (hS73 : ∀ x g o v gz, S 73 x g o v gz → sn73 x g o v gz) {a : List Int} {g : rHp} : ∀ (ρ : Nat → Int) (γ : Nat → rHp), jn75 a g 0 (zAg (zNA a75_ 0) ρ) (γ 1) → zO 15 S a g q75a0_67 ρ γ → zGl (fun i vs g1 => jn75 a g i vs g1) (sn75 a g) q75a0_67 ρ γ := by
  intro ρ γ hJ h
  obtain ⟨ha, hg, hr, hf, hm, hc, hl⟩ := h
  have ha : a = [ρ 0, ρ 1, ρ 2, ρ 3, ρ 4, ρ 5, ρ 6, ρ 7, ρ 8, ρ 9, ρ 10, ρ 11, ρ 12, ρ 13, ρ 14] := ha
  subst ha
  subst hg
  have hJ : jn75 [ρ 0, ρ 1, ρ 2, ρ 3, ρ 4, ρ 5, ρ 6, ρ 7, ρ 8, ρ 9, ρ 10, ρ 11, ρ 12, ρ 13, ρ 14] (γ 0) 0 [ρ 0, ρ 1, ρ 2, ρ 3, ρ 4, ρ 5, ρ 6, ρ 7, ρ 8, ρ 9, ρ 10, ρ 11, ρ 12, ρ 13, ρ 14, ρ 15, ρ 16, ρ 17, ρ 18, ρ 19] (γ 1) := hJ
  obtain ⟨r0, r1, r2, r3, r4, r5, r6, r7, r8, r9, r10, r11, r12, r13, r14, r15, r16, r17, r18, r19, r20, r21, r22, r23, r24, r25, r26, r27, r28, r29, r30, r31, r32, r33, r34, r35, r36, r37, -⟩ := hr
  have r0 : (0 : Int) ≤ ρ 0 ∧ ρ 0 ≤ 59 := r0
  have r1 : (0 : Int) ≤ ρ 1 ∧ ρ 1 ≤ 60 := r1
  have r2 : (0 : Int) ≤ ρ 2 ∧ ρ 2 ≤ 20 := r2
  have r3 : (3 : Int) ≤ ρ 3 ∧ ρ 3 ≤ 4 := r3
  have r4 : (0 : Int) ≤ ρ 4 ∧ ρ 4 ≤ 50001 := r4
  have r5 : (0 : Int) ≤ ρ 5 ∧ ρ 5 ≤ 3 := r5
  have r6 : (0 : Int) ≤ ρ 6 ∧ ρ 6 ≤ 2000 := r6
  have r7 : (0 : Int) ≤ ρ 7 ∧ ρ 7 ≤ 19 := r7
  have r8 : (0 : Int) ≤ ρ 8 ∧ ρ 8 ≤ 61 := r8
  have r9 : (0 : Int) ≤ ρ 9 ∧ ρ 9 ≤ 2000 := r9
  have r10 : ((-2147483648) : Int) ≤ ρ 10 ∧ ρ 10 ≤ 2147483647 := r10
  have r11 : (0 : Int) ≤ ρ 11 ∧ ρ 11 ≤ 2000 := r11
  have r12 : (0 : Int) ≤ ρ 12 ∧ ρ 12 ≤ 2000 := r12
  have r13 : (0 : Int) ≤ ρ 13 ∧ ρ 13 ≤ 2000 := r13
  have r14 : (0 : Int) ≤ ρ 14 ∧ ρ 14 ≤ 50001 := r14
  have r15 : (0 : Int) ≤ ρ 15 ∧ ρ 15 ≤ 2000 := r15
  have r16 : (0 : Int) ≤ ρ 16 ∧ ρ 16 ≤ 50001 := r16
  have r17 : (0 : Int) ≤ ρ 17 ∧ ρ 17 ≤ 0 := r17
  have r18 : (0 : Int) ≤ ρ 18 ∧ ρ 18 ≤ 2000 := r18
  have r19 : (0 : Int) ≤ ρ 19 ∧ ρ 19 ≤ 2000 := r19
  have r20 : (1 : Int) ≤ ρ 20 ∧ ρ 20 ≤ 1 := r20
  have r21 : ((-2147483648) : Int) ≤ ρ 21 ∧ ρ 21 ≤ 1099511640064 := r21
  have r22 : (3 : Int) ≤ ρ 22 ∧ ρ 22 ≤ 3 := r22
  have r23 : (0 : Int) ≤ ρ 23 ∧ ρ 23 ≤ 2 := r23
  have r24 : ((-2147483648) : Int) ≤ ρ 24 ∧ ρ 24 ≤ 1099511640064 := r24
  have r25 : (0 : Int) ≤ ρ 25 ∧ ρ 25 ≤ 2 := r25
  have r26 : ((-2147483648) : Int) ≤ ρ 26 ∧ ρ 26 ≤ 1099511640064 := r26
  have r27 : (0 : Int) ≤ ρ 27 ∧ ρ 27 ≤ 2 := r27
  have r28 : ((-2147483648) : Int) ≤ ρ 28 ∧ ρ 28 ≤ 1099511640064 := r28
  have r29 : ((-2147483648) : Int) ≤ ρ 29 ∧ ρ 29 ≤ 1099511640064 := r29
  have r30 : (0 : Int) ≤ ρ 30 ∧ ρ 30 ≤ 8 := r30
  have r31 : ((-1) : Int) ≤ ρ 31 ∧ ρ 31 ≤ 1999 := r31
  have r32 : (0 : Int) ≤ ρ 32 ∧ ρ 32 ≤ 1999 := r32
  have r33 : (1 : Int) ≤ ρ 33 ∧ ρ 33 ≤ 2000 := r33
  have r34 : (0 : Int) ≤ ρ 34 ∧ ρ 34 ≤ 8 := r34
  have r35 : ((-1) : Int) ≤ ρ 35 ∧ ρ 35 ≤ 1999 := r35
  have r36 : (0 : Int) ≤ ρ 36 ∧ ρ 36 ≤ 1999 := r36
  have r37 : (0 : Int) ≤ ρ 37 ∧ ρ 37 ≤ 3 := r37
  obtain ⟨f0, f1, f2, f3, f4, f5, f6, f7, f8, f9, -⟩ := hf
  have f0 : (0 : Int) ≤ -ρ 7 + ρ 2 + (-1) := f0
  have f1 : (0 : Int) ≤ ρ 33 + -ρ 19 := f1
  have f2 : (0 : Int) ≤ ρ 35 + -ρ 31 := f2
  have f3 : (0 : Int) ≤ ρ 18 + -ρ 15 + (-1) := f3
  have f4 : (0 : Int) ≤ ρ 17 + -ρ 16 + 50000 := f4
  have f5 : (0 : Int) ≤ ρ 1 + -ρ 0 + (-1) := f5
  have f6 : (0 : Int) ≤ ρ 19 + -ρ 9 := f6
  have f7 : (0 : Int) ≤ ρ 18 + -ρ 15 := f7
  have f8 : (0 : Int) ≤ ρ 17 + -ρ 5 := f8
  have f9 : (0 : Int) ≤ ρ 16 + -ρ 4 := f9
  obtain ⟨m0, m1, m2, m3, m4, m5, m6, m7, m8, m9, m10, m11, m12, m13, m14, m15, m16, m17, m18, m19, m20, m21, m22, m23, m24, m25, m26, m27, m28, m29, m30, m31, m32, m33, m34, m35, m36, -⟩ := hm
  have m0 : γ 0 15 0 32 = ρ 1 := m0
  have m1 : γ 0 15 0 13 = ρ 2 := m1
  have m2 : γ 0 71 0 (ρ 0) = ρ 3 := m2
  have m3 : γ 0 15 0 72 = ρ 4 := m3
  have m4 : γ 0 15 0 77 = ρ 5 := m4
  have m5 : γ 0 15 0 90 = ρ 6 := m5
  have m6 : γ 0 69 0 (ρ 0) = ρ 7 := m6
  have m7 : γ 0 15 0 44 = ρ 8 := m7
  have m8 : γ 0 15 0 71 = ρ 9 := m8
  have m9 : γ 0 15 0 76 = ρ 10 := m9
  have m10 : γ 0 15 0 81 = ρ 11 := m10
  have m11 : γ 0 15 0 82 = ρ 12 := m11
  have m12 : γ 0 15 0 83 = ρ 13 := m12
  have m13 : γ 0 15 0 94 = ρ 14 := m13
  have m14 : γ 1 15 0 72 = ρ 16 := m14
  have m15 : γ 1 15 0 77 = ρ 17 := m15
  have m16 : γ 1 15 0 90 = ρ 18 := m16
  have m17 : γ 1 15 0 71 = ρ 19 := m17
  have m18 : γ 1 15 0 81 = ρ 9 := m18
  have m19 : γ 1 109 0 (ρ 15) = ρ 20 := m19
  have m20 : γ 1 108 0 (ρ 15) = ρ 21 := m20
  have m21 : γ 0 66 0 (ρ 7) = ρ 22 := m21
  have m22 : γ 0 70 0 (4 * ρ 0) = ρ 23 := m22
  have m23 : γ 1 105 0 (4 * ρ 15) = ρ 24 := m23
  have m24 : γ 0 70 0 (4 * ρ 0 + 1) = ρ 25 := m24
  have m25 : γ 1 105 0 (4 * ρ 15 + 1) = ρ 26 := m25
  have m26 : γ 0 70 0 (4 * ρ 0 + 2) = ρ 27 := m26
  have m27 : γ 1 105 0 (4 * ρ 15 + 2) = ρ 28 := m27
  have m28 : γ 1 105 0 (4 * ρ 15 + 3) = ρ 29 := m28
  have m29 : γ 1 97 0 (ρ 19) = ρ 30 := m29
  have m30 : γ 1 100 0 (ρ 7) = ρ 31 := m30
  have m31 : γ 1 101 0 (ρ 7) = ρ 32 := m31
  have m32 : γ 6 15 0 71 = ρ 33 := m32
  have m33 : γ 6 97 0 (ρ 19) = ρ 34 := m33
  have m34 : γ 6 100 0 (ρ 7) = ρ 35 := m34
  have m35 : γ 6 101 0 (ρ 7) = ρ 36 := m35
  have m36 : γ 6 15 0 77 = ρ 37 := m36
  obtain ⟨⟨⟨⟨⟨⟨-, c1⟩, c2⟩, c3⟩, c4⟩, c5⟩, c6⟩ := hc
  have c1 : ∀ (G : Nat) (k j : Int), ¬ rMdP m51_ G j → γ 1 G k j = γ 0 G k j := c1
  have c2 : γ 2 = rUp (γ 1) 102 0 0 (ρ 24) := c2
  have c3 : γ 3 = rUp (γ 2) 102 0 1 (ρ 26) := c3
  have c4 : γ 4 = rUp (γ 3) 102 0 2 (ρ 28) := c4
  have c5 : γ 5 = rUp (γ 4) 102 0 3 (ρ 29) := c5
  have c6 : ∀ (G : Nat) (k j : Int), ¬ rMdP m40_ G j → γ 6 G k j = γ 5 G k j := c6
  obtain ⟨l0, -⟩ := hl
  have l0 : sn57 [ρ 7, ρ 0, ρ 2, ρ 19, ρ 30, ρ 31, ρ 32, ρ 10, ρ 17] (γ 5) 0 0 (γ 6) := hS57 _ _ _ _ _ l0
  show jn75 [ρ 0, ρ 1, ρ 2, ρ 3, ρ 4, ρ 5, ρ 6, ρ 7, ρ 8, ρ 9, ρ 10, ρ 11, ρ 12, ρ 13, ρ 14] (γ 0) 0 [ρ 0, ρ 1, ρ 2, ρ 3, ρ 4, ρ 5, ρ 6, ρ 7, ρ 8, ρ 9, ρ 10, ρ 11, ρ 12, ρ 13, ρ 14, ρ 15 + 1, ρ 16, ρ 37, ρ 18, ρ 33] (γ 6)
  have hD : en75 (γ 0) (0, [ρ 0, ρ 15], γ 1) = .inl (0, [ρ 0, ρ 15 + 1], γ 6) := by
    unfold en75
    refine (if_pos (show (0 : Nat) = 0 by decide)).trans ?_
    refine (zLet_eq (show _ = γ 1 from rfl)).trans ?_
    refine (zLet_eq (show _ = ρ 0 from rfl)).trans ?_
    refine (zLet_eq (show _ = ρ 15 from rfl)).trans ?_
    refine (zLet_eq m2).trans ?_
    refine (zLet_eq m6).trans ?_
    refine (zLet_eq m15).trans ?_
    refine (zLet_eq m16).trans ?_
    refine (if_neg (show ¬ (ρ 15 ≥ ρ 18) by omega)).trans ?_
    refine (if_neg (show ¬ (ρ 17 ≠ 0) by omega)).trans ?_
    refine (if_neg (show ¬ (ρ 3 ≤ 2) by omega)).trans ?_
    refine (zLet_eq m19).trans ?_
    refine (if_pos (show ρ 20 ≠ 0 by omega)).trans ?_
    refine (zLet_eq m20).trans ?_
    refine (zLet_eq m21).trans ?_
    refine (if_neg (show ¬ (0 ≥ ρ 22) by omega)).trans ?_
    refine (zLet_eq m22).trans ?_
    refine (if_pos (show ρ 23 ≠ 3 by omega)).trans ?_
    refine (zLet_eq m23).trans ?_
    refine (zLet_eq c2.symm).trans ?_
    refine (if_neg (show ¬ (1 ≥ ρ 22) by omega)).trans ?_
    refine (zLet_eq m24).trans ?_
    refine (if_pos (show ρ 25 ≠ 3 by omega)).trans ?_
    refine (zLet_eq m25).trans ?_
    refine (zLet_eq c3.symm).trans ?_
    refine (if_neg (show ¬ (2 ≥ ρ 22) by omega)).trans ?_
    refine (zLet_eq m26).trans ?_
    refine (if_pos (show ρ 27 ≠ 3 by omega)).trans ?_
    refine (zLet_eq m27).trans ?_
    refine (zLet_eq c4.symm).trans ?_
    refine (if_pos (show 3 ≥ ρ 22 by omega)).trans ?_
    refine (zLet_eq m28).trans ?_
    refine (zLet_eq c5.symm).trans ?_
    refine (zLet_eq (show fn57 [ρ 7, ρ 0] (γ 5) = (0, 0, γ 6) from l0.symm)).trans ?_
    refine (zLet_eq (show _ = γ 6 from rfl)).trans ?_
    rfl
  exact zGoo_ato hJ hD
theorem vn75a0_68 {S : Nat → zSpc} (hS57 : ∀ x g o v gz, S 57 x g o v gz → sn57 x g o v gz) (hS73 : ∀ x g o v gz, S 73 x g o v gz → sn73 x g o v gz) {a : List Int} {g : rHp} : ∀ (ρ : Nat → Int) (γ : Nat → rHp), jn75 a g 0 (zAg (zNA a75_ 0) ρ) (γ 1) → zO 15 S a g q75a0_68 ρ γ → zGl (fun i vs g1 => jn75 a g i vs g1) (sn75 a g) q75a0_68 ρ γ := by
  intro ρ γ hJ h
  obtain ⟨ha, hg, hr, hf, hm, hc, hl⟩ := h
  have ha : a = [ρ 0, ρ 1, ρ 2, ρ 3, ρ 4, ρ 5, ρ 6, ρ 7, ρ 8, ρ 9, ρ 10, ρ 11, ρ 12, ρ 13, ρ 14] := ha
  subst ha
  subst hg
  have hJ : jn75 [ρ 0, ρ 1, ρ 2, ρ 3, ρ 4, ρ 5, ρ 6, ρ 7, ρ 8, ρ 9, ρ 10, ρ 11, ρ 12, ρ 13, ρ 14] (γ 0) 0 [ρ 0, ρ 1, ρ 2, ρ 3, ρ 4, ρ 5, ρ 6, ρ 7, ρ 8, ρ 9, ρ 10, ρ 11, ρ 12, ρ 13, ρ 14, ρ 15, ρ 16, ρ 17, ρ 18, ρ 19] (γ 1) := hJ
  obtain ⟨r0, r1, r2, r3, r4, r5, r6, r7, r8, r9, r10, r11, r12, r13, r14, r15, r16, r17, r18, r19, r20, r21, r22, r23, r24, r25, r26, r27, r28, r29, r30, r31, r32, r33, r34, r35, r36, r37, r38, -⟩ := hr
  have r0 : (0 : Int) ≤ ρ 0 ∧ ρ 0 ≤ 59 := r0
  have r1 : (0 : Int) ≤ ρ 1 ∧ ρ 1 ≤ 60 := r1
  have r2 : (0 : Int) ≤ ρ 2 ∧ ρ 2 ≤ 20 := r2
  have r3 : (3 : Int) ≤ ρ 3 ∧ ρ 3 ≤ 4 := r3
  have r4 : (0 : Int) ≤ ρ 4 ∧ ρ 4 ≤ 50001 := r4
  have r5 : (0 : Int) ≤ ρ 5 ∧ ρ 5 ≤ 3 := r5
  have r6 : (0 : Int) ≤ ρ 6 ∧ ρ 6 ≤ 2000 := r6
  have r7 : (0 : Int) ≤ ρ 7 ∧ ρ 7 ≤ 19 := r7
  have r8 : (0 : Int) ≤ ρ 8 ∧ ρ 8 ≤ 61 := r8
  have r9 : (0 : Int) ≤ ρ 9 ∧ ρ 9 ≤ 2000 := r9
  have r10 : ((-2147483648) : Int) ≤ ρ 10 ∧ ρ 10 ≤ 2147483647 := r10
  have r11 : (0 : Int) ≤ ρ 11 ∧ ρ 11 ≤ 2000 := r11
  have r12 : (0 : Int) ≤ ρ 12 ∧ ρ 12 ≤ 2000 := r12
  have r13 : (0 : Int) ≤ ρ 13 ∧ ρ 13 ≤ 2000 := r13
  have r14 : (0 : Int) ≤ ρ 14 ∧ ρ 14 ≤ 50001 := r14
  have r15 : (0 : Int) ≤ ρ 15 ∧ ρ 15 ≤ 2000 := r15
  have r16 : (0 : Int) ≤ ρ 16 ∧ ρ 16 ≤ 50001 := r16
  have r17 : (0 : Int) ≤ ρ 17 ∧ ρ 17 ≤ 0 := r17
  have r18 : (0 : Int) ≤ ρ 18 ∧ ρ 18 ≤ 2000 := r18
  have r19 : (0 : Int) ≤ ρ 19 ∧ ρ 19 ≤ 2000 := r19
  have r20 : (1 : Int) ≤ ρ 20 ∧ ρ 20 ≤ 1 := r20
  have r21 : ((-2147483648) : Int) ≤ ρ 21 ∧ ρ 21 ≤ 1099511640064 := r21
  have r22 : (4 : Int) ≤ ρ 22 ∧ ρ 22 ≤ 4 := r22
  have r23 : (0 : Int) ≤ ρ 23 ∧ ρ 23 ≤ 2 := r23
  have r24 : ((-2147483648) : Int) ≤ ρ 24 ∧ ρ 24 ≤ 1099511640064 := r24
  have r25 : (0 : Int) ≤ ρ 25 ∧ ρ 25 ≤ 2 := r25
  have r26 : ((-2147483648) : Int) ≤ ρ 26 ∧ ρ 26 ≤ 1099511640064 := r26
  have r27 : (0 : Int) ≤ ρ 27 ∧ ρ 27 ≤ 2 := r27
  have r28 : ((-2147483648) : Int) ≤ ρ 28 ∧ ρ 28 ≤ 1099511640064 := r28
  have r29 : (0 : Int) ≤ ρ 29 ∧ ρ 29 ≤ 2 := r29
  have r30 : ((-2147483648) : Int) ≤ ρ 30 ∧ ρ 30 ≤ 1099511640064 := r30
  have r31 : (0 : Int) ≤ ρ 31 ∧ ρ 31 ≤ 8 := r31
  have r32 : ((-1) : Int) ≤ ρ 32 ∧ ρ 32 ≤ 1999 := r32
  have r33 : (0 : Int) ≤ ρ 33 ∧ ρ 33 ≤ 1999 := r33
  have r34 : (1 : Int) ≤ ρ 34 ∧ ρ 34 ≤ 2000 := r34
  have r35 : (0 : Int) ≤ ρ 35 ∧ ρ 35 ≤ 8 := r35
  have r36 : ((-1) : Int) ≤ ρ 36 ∧ ρ 36 ≤ 1999 := r36
  have r37 : (0 : Int) ≤ ρ 37 ∧ ρ 37 ≤ 1999 := r37
  have r38 : (0 : Int) ≤ ρ 38 ∧ ρ 38 ≤ 3 := r38
  obtain ⟨f0, f1, f2, f3, f4, f5, f6, f7, f8, f9, -⟩ := hf
  have f0 : (0 : Int) ≤ -ρ 7 + ρ 2 + (-1) := f0
  have f1 : (0 : Int) ≤ ρ 34 + -ρ 19 := f1
  have f2 : (0 : Int) ≤ ρ 36 + -ρ 32 := f2
  have f3 : (0 : Int) ≤ ρ 18 + -ρ 15 + (-1) := f3
  have f4 : (0 : Int) ≤ ρ 17 + -ρ 16 + 50000 := f4
  have f5 : (0 : Int) ≤ ρ 1 + -ρ 0 + (-1) := f5
  have f6 : (0 : Int) ≤ ρ 19 + -ρ 9 := f6
  have f7 : (0 : Int) ≤ ρ 18 + -ρ 15 := f7
  have f8 : (0 : Int) ≤ ρ 17 + -ρ 5 := f8
  have f9 : (0 : Int) ≤ ρ 16 + -ρ 4 := f9
  obtain ⟨m0, m1, m2, m3, m4, m5, m6, m7, m8, m9, m10, m11, m12, m13, m14, m15, m16, m17, m18, m19, m20, m21, m22, m23, m24, m25, m26, m27, m28, m29, m30, m31, m32, m33, m34, m35, m36, m37, -⟩ := hm
  have m0 : γ 0 15 0 32 = ρ 1 := m0
  have m1 : γ 0 15 0 13 = ρ 2 := m1
  have m2 : γ 0 71 0 (ρ 0) = ρ 3 := m2
  have m3 : γ 0 15 0 72 = ρ 4 := m3
  have m4 : γ 0 15 0 77 = ρ 5 := m4
  have m5 : γ 0 15 0 90 = ρ 6 := m5
  have m6 : γ 0 69 0 (ρ 0) = ρ 7 := m6
  have m7 : γ 0 15 0 44 = ρ 8 := m7
  have m8 : γ 0 15 0 71 = ρ 9 := m8
  have m9 : γ 0 15 0 76 = ρ 10 := m9
  have m10 : γ 0 15 0 81 = ρ 11 := m10
  have m11 : γ 0 15 0 82 = ρ 12 := m11
  have m12 : γ 0 15 0 83 = ρ 13 := m12
  have m13 : γ 0 15 0 94 = ρ 14 := m13
  have m14 : γ 1 15 0 72 = ρ 16 := m14
  have m15 : γ 1 15 0 77 = ρ 17 := m15
  have m16 : γ 1 15 0 90 = ρ 18 := m16
  have m17 : γ 1 15 0 71 = ρ 19 := m17
  have m18 : γ 1 15 0 81 = ρ 9 := m18
  have m19 : γ 1 109 0 (ρ 15) = ρ 20 := m19
  have m20 : γ 1 108 0 (ρ 15) = ρ 21 := m20
  have m21 : γ 0 66 0 (ρ 7) = ρ 22 := m21
  have m22 : γ 0 70 0 (4 * ρ 0) = ρ 23 := m22
  have m23 : γ 1 105 0 (4 * ρ 15) = ρ 24 := m23
  have m24 : γ 0 70 0 (4 * ρ 0 + 1) = ρ 25 := m24
  have m25 : γ 1 105 0 (4 * ρ 15 + 1) = ρ 26 := m25
  have m26 : γ 0 70 0 (4 * ρ 0 + 2) = ρ 27 := m26
  have m27 : γ 1 105 0 (4 * ρ 15 + 2) = ρ 28 := m27
  have m28 : γ 0 70 0 (4 * ρ 0 + 3) = ρ 29 := m28
  have m29 : γ 1 105 0 (4 * ρ 15 + 3) = ρ 30 := m29
  have m30 : γ 1 97 0 (ρ 19) = ρ 31 := m30
  have m31 : γ 1 100 0 (ρ 7) = ρ 32 := m31
  have m32 : γ 1 101 0 (ρ 7) = ρ 33 := m32
  have m33 : γ 6 15 0 71 = ρ 34 := m33
  have m34 : γ 6 97 0 (ρ 19) = ρ 35 := m34
  have m35 : γ 6 100 0 (ρ 7) = ρ 36 := m35
  have m36 : γ 6 101 0 (ρ 7) = ρ 37 := m36
  have m37 : γ 6 15 0 77 = ρ 38 := m37
  obtain ⟨⟨⟨⟨⟨⟨-, c1⟩, c2⟩, c3⟩, c4⟩, c5⟩, c6⟩ := hc
  have c1 : ∀ (G : Nat) (k j : Int), ¬ rMdP m51_ G j → γ 1 G k j = γ 0 G k j := c1
  have c2 : γ 2 = rUp (γ 1) 102 0 0 (ρ 24) := c2
  have c3 : γ 3 = rUp (γ 2) 102 0 1 (ρ 26) := c3
  have c4 : γ 4 = rUp (γ 3) 102 0 2 (ρ 28) := c4
  have c5 : γ 5 = rUp (γ 4) 102 0 3 (ρ 30) := c5
  have c6 : ∀ (G : Nat) (k j : Int), ¬ rMdP m40_ G j → γ 6 G k j = γ 5 G k j := c6
  obtain ⟨l0, -⟩ := hl
  have l0 : sn57 [ρ 7, ρ 0, ρ 2, ρ 19, ρ 31, ρ 32, ρ 33, ρ 10, ρ 17] (γ 5) 0 0 (γ 6) := hS57 _ _ _ _ _ l0
  show jn75 [ρ 0, ρ 1, ρ 2, ρ 3, ρ 4, ρ 5, ρ 6, ρ 7, ρ 8, ρ 9, ρ 10, ρ 11, ρ 12, ρ 13, ρ 14] (γ 0) 0 [ρ 0, ρ 1, ρ 2, ρ 3, ρ 4, ρ 5, ρ 6, ρ 7, ρ 8, ρ 9, ρ 10, ρ 11, ρ 12, ρ 13, ρ 14, ρ 15 + 1, ρ 16, ρ 38, ρ 18, ρ 34] (γ 6)
  have hD : en75 (γ 0) (0, [ρ 0, ρ 15], γ 1) = .inl (0, [ρ 0, ρ 15 + 1], γ 6) := by
    unfold en75
    refine (if_pos (show (0 : Nat) = 0 by decide)).trans ?_
    refine (zLet_eq (show _ = γ 1 from rfl)).trans ?_
    refine (zLet_eq (show _ = ρ 0 from rfl)).trans ?_
    refine (zLet_eq (show _ = ρ 15 from rfl)).trans ?_
    refine (zLet_eq m2).trans ?_
    refine (zLet_eq m6).trans ?_
    refine (zLet_eq m15).trans ?_
    refine (zLet_eq m16).trans ?_
    refine (if_neg (show ¬ (ρ 15 ≥ ρ 18) by omega)).trans ?_
    refine (if_neg (show ¬ (ρ 17 ≠ 0) by omega)).trans ?_
    refine (if_neg (show ¬ (ρ 3 ≤ 2) by omega)).trans ?_
    refine (zLet_eq m19).trans ?_
    refine (if_pos (show ρ 20 ≠ 0 by omega)).trans ?_
    refine (zLet_eq m20).trans ?_
    refine (zLet_eq m21).trans ?_
    refine (if_neg (show ¬ (0 ≥ ρ 22) by omega)).trans ?_
    refine (zLet_eq m22).trans ?_
    refine (if_pos (show ρ 23 ≠ 3 by omega)).trans ?_
    refine (zLet_eq m23).trans ?_
    refine (zLet_eq c2.symm).trans ?_
    refine (if_neg (show ¬ (1 ≥ ρ 22) by omega)).trans ?_
    refine (zLet_eq m24).trans ?_
    refine (if_pos (show ρ 25 ≠ 3 by omega)).trans ?_
    refine (zLet_eq m25).trans ?_
    refine (zLet_eq c3.symm).trans ?_
    refine (if_neg (show ¬ (2 ≥ ρ 22) by omega)).trans ?_
    refine (zLet_eq m26).trans ?_
    refine (if_pos (show ρ 27 ≠ 3 by omega)).trans ?_
    refine (zLet_eq m27).trans ?_
    refine (zLet_eq c4.symm).trans ?_
    refine (if_neg (show ¬ (3 ≥ ρ 22) by omega)).trans ?_
    refine (zLet_eq m28).trans ?_
    refine (if_pos (show ρ 29 ≠ 3 by omega)).trans ?_
    refine (zLet_eq m29).trans ?_
    refine (zLet_eq c5.symm).trans ?_
    refine (zLet_eq (show fn57 [ρ 7, ρ 0] (γ 5) = (0, 0, γ 6) from l0.symm)).trans ?_
    refine (zLet_eq (show _ = γ 6 from rfl)).trans ?_
    rfl
  exact zGoo_ato hJ hD
theorem vn75a0_69 {S : Nat → zSpc} (hS57 : ∀ x g o v gz, S 57 x g o v gz → sn57 x g o v gz) (hS73 : ∀ x g o v gz, S 73 x g o v gz → sn73 x g o v gz) {a : List Int} {g : rHp} : ∀ (ρ : Nat → Int) (γ : Nat → rHp), jn75 a g 0 (zAg (zNA a75_ 0) ρ) (γ 1) → zO 15 S a g q75a0_69 ρ γ → zGl (fun i vs g1 => jn75 a g i vs g1) (sn75 a g) q75a0_69 ρ γ := by
  intro ρ γ hJ h
  obtain ⟨ha, hg, hr, hf, hm, hc, hl⟩ := h
  have ha : a = [ρ 0, ρ 1, ρ 2, ρ 3, ρ 4, ρ 5, ρ 6, ρ 7, ρ 8, ρ 9, ρ 10, ρ 11, ρ 12, ρ 13, ρ 14] := ha
  subst ha
  subst hg
  have hJ : jn75 [ρ 0, ρ 1, ρ 2, ρ 3, ρ 4, ρ 5, ρ 6, ρ 7, ρ 8, ρ 9, ρ 10, ρ 11, ρ 12, ρ 13, ρ 14] (γ 0) 0 [ρ 0, ρ 1, ρ 2, ρ 3, ρ 4, ρ 5, ρ 6, ρ 7, ρ 8, ρ 9, ρ 10, ρ 11, ρ 12, ρ 13, ρ 14, ρ 15, ρ 16, ρ 17, ρ 18, ρ 19] (γ 1) := hJ
  obtain ⟨r0, r1, r2, r3, r4, r5, r6, r7, r8, r9, r10, r11, r12, r13, r14, r15, r16, r17, r18, r19, r20, r21, r22, r23, r24, r25, r26, r27, r28, r29, r30, r31, r32, r33, r34, r35, r36, r37, -⟩ := hr
  have r0 : (0 : Int) ≤ ρ 0 ∧ ρ 0 ≤ 59 := r0
  have r1 : (0 : Int) ≤ ρ 1 ∧ ρ 1 ≤ 60 := r1
  have r2 : (0 : Int) ≤ ρ 2 ∧ ρ 2 ≤ 20 := r2
  have r3 : (3 : Int) ≤ ρ 3 ∧ ρ 3 ≤ 4 := r3
  have r4 : (0 : Int) ≤ ρ 4 ∧ ρ 4 ≤ 50001 := r4
  have r5 : (0 : Int) ≤ ρ 5 ∧ ρ 5 ≤ 3 := r5
  have r6 : (0 : Int) ≤ ρ 6 ∧ ρ 6 ≤ 2000 := r6
  have r7 : (0 : Int) ≤ ρ 7 ∧ ρ 7 ≤ 19 := r7
  have r8 : (0 : Int) ≤ ρ 8 ∧ ρ 8 ≤ 61 := r8
  have r9 : (0 : Int) ≤ ρ 9 ∧ ρ 9 ≤ 2000 := r9
  have r10 : ((-2147483648) : Int) ≤ ρ 10 ∧ ρ 10 ≤ 2147483647 := r10
  have r11 : (0 : Int) ≤ ρ 11 ∧ ρ 11 ≤ 2000 := r11
  have r12 : (0 : Int) ≤ ρ 12 ∧ ρ 12 ≤ 2000 := r12
  have r13 : (0 : Int) ≤ ρ 13 ∧ ρ 13 ≤ 2000 := r13
  have r14 : (0 : Int) ≤ ρ 14 ∧ ρ 14 ≤ 50001 := r14
  have r15 : (0 : Int) ≤ ρ 15 ∧ ρ 15 ≤ 2000 := r15
  have r16 : (0 : Int) ≤ ρ 16 ∧ ρ 16 ≤ 50001 := r16
  have r17 : (0 : Int) ≤ ρ 17 ∧ ρ 17 ≤ 0 := r17
  have r18 : (0 : Int) ≤ ρ 18 ∧ ρ 18 ≤ 2000 := r18
  have r19 : (0 : Int) ≤ ρ 19 ∧ ρ 19 ≤ 2000 := r19
  have r20 : (1 : Int) ≤ ρ 20 ∧ ρ 20 ≤ 1 := r20
  have r21 : ((-2147483648) : Int) ≤ ρ 21 ∧ ρ 21 ≤ 1099511640064 := r21
  have r22 : (4 : Int) ≤ ρ 22 ∧ ρ 22 ≤ 4 := r22
  have r23 : (0 : Int) ≤ ρ 23 ∧ ρ 23 ≤ 2 := r23
  have r24 : ((-2147483648) : Int) ≤ ρ 24 ∧ ρ 24 ≤ 1099511640064 := r24
  have r25 : (0 : Int) ≤ ρ 25 ∧ ρ 25 ≤ 2 := r25
  have r26 : ((-2147483648) : Int) ≤ ρ 26 ∧ ρ 26 ≤ 1099511640064 := r26
  have r27 : (0 : Int) ≤ ρ 27 ∧ ρ 27 ≤ 2 := r27
  have r28 : ((-2147483648) : Int) ≤ ρ 28 ∧ ρ 28 ≤ 1099511640064 := r28
  have r29 : (3 : Int) ≤ ρ 29 ∧ ρ 29 ≤ 3 := r29
  have r30 : (0 : Int) ≤ ρ 30 ∧ ρ 30 ≤ 8 := r30
  have r31 : ((-1) : Int) ≤ ρ 31 ∧ ρ 31 ≤ 1999 := r31
  have r32 : (0 : Int) ≤ ρ 32 ∧ ρ 32 ≤ 1999 := r32
  have r33 : (1 : Int) ≤ ρ 33 ∧ ρ 33 ≤ 2000 := r33
  have r34 : (0 : Int) ≤ ρ 34 ∧ ρ 34 ≤ 8 := r34
  have r35 : ((-1) : Int) ≤ ρ 35 ∧ ρ 35 ≤ 1999 := r35
  have r36 : (0 : Int) ≤ ρ 36 ∧ ρ 36 ≤ 1999 := r36
  have r37 : (0 : Int) ≤ ρ 37 ∧ ρ 37 ≤ 3 := r37
  obtain ⟨f0, f1, f2, f3, f4, f5, f6, f7, f8, f9, -⟩ := hf
  have f0 : (0 : Int) ≤ -ρ 7 + ρ 2 + (-1) := f0
  have f1 : (0 : Int) ≤ ρ 33 + -ρ 19 := f1
  have f2 : (0 : Int) ≤ ρ 35 + -ρ 31 := f2
  have f3 : (0 : Int) ≤ ρ 18 + -ρ 15 + (-1) := f3
  have f4 : (0 : Int) ≤ ρ 17 + -ρ 16 + 50000 := f4
  have f5 : (0 : Int) ≤ ρ 1 + -ρ 0 + (-1) := f5
  have f6 : (0 : Int) ≤ ρ 19 + -ρ 9 := f6
  have f7 : (0 : Int) ≤ ρ 18 + -ρ 15 := f7
  have f8 : (0 : Int) ≤ ρ 17 + -ρ 5 := f8
  have f9 : (0 : Int) ≤ ρ 16 + -ρ 4 := f9
  obtain ⟨m0, m1, m2, m3, m4, m5, m6, m7, m8, m9, m10, m11, m12, m13, m14, m15, m16, m17, m18, m19, m20, m21, m22, m23, m24, m25, m26, m27, m28, m29, m30, m31, m32, m33, m34, m35, m36, -⟩ := hm
  have m0 : γ 0 15 0 32 = ρ 1 := m0
  have m1 : γ 0 15 0 13 = ρ 2 := m1
  have m2 : γ 0 71 0 (ρ 0) = ρ 3 := m2
  have m3 : γ 0 15 0 72 = ρ 4 := m3
  have m4 : γ 0 15 0 77 = ρ 5 := m4
  have m5 : γ 0 15 0 90 = ρ 6 := m5
  have m6 : γ 0 69 0 (ρ 0) = ρ 7 := m6
  have m7 : γ 0 15 0 44 = ρ 8 := m7
  have m8 : γ 0 15 0 71 = ρ 9 := m8
  have m9 : γ 0 15 0 76 = ρ 10 := m9
  have m10 : γ 0 15 0 81 = ρ 11 := m10
  have m11 : γ 0 15 0 82 = ρ 12 := m11
  have m12 : γ 0 15 0 83 = ρ 13 := m12
  have m13 : γ 0 15 0 94 = ρ 14 := m13
  have m14 : γ 1 15 0 72 = ρ 16 := m14
  have m15 : γ 1 15 0 77 = ρ 17 := m15
  have m16 : γ 1 15 0 90 = ρ 18 := m16
  have m17 : γ 1 15 0 71 = ρ 19 := m17
  have m18 : γ 1 15 0 81 = ρ 9 := m18
  have m19 : γ 1 109 0 (ρ 15) = ρ 20 := m19
  have m20 : γ 1 108 0 (ρ 15) = ρ 21 := m20
  have m21 : γ 0 66 0 (ρ 7) = ρ 22 := m21
  have m22 : γ 0 70 0 (4 * ρ 0) = ρ 23 := m22
  have m23 : γ 1 105 0 (4 * ρ 15) = ρ 24 := m23
  have m24 : γ 0 70 0 (4 * ρ 0 + 1) = ρ 25 := m24
  have m25 : γ 1 105 0 (4 * ρ 15 + 1) = ρ 26 := m25
  have m26 : γ 0 70 0 (4 * ρ 0 + 2) = ρ 27 := m26
  have m27 : γ 1 105 0 (4 * ρ 15 + 2) = ρ 28 := m27
  have m28 : γ 0 70 0 (4 * ρ 0 + 3) = ρ 29 := m28
  have m29 : γ 1 97 0 (ρ 19) = ρ 30 := m29
  have m30 : γ 1 100 0 (ρ 7) = ρ 31 := m30
  have m31 : γ 1 101 0 (ρ 7) = ρ 32 := m31
  have m32 : γ 6 15 0 71 = ρ 33 := m32
  have m33 : γ 6 97 0 (ρ 19) = ρ 34 := m33
  have m34 : γ 6 100 0 (ρ 7) = ρ 35 := m34
  have m35 : γ 6 101 0 (ρ 7) = ρ 36 := m35
  have m36 : γ 6 15 0 77 = ρ 37 := m36
  obtain ⟨⟨⟨⟨⟨⟨-, c1⟩, c2⟩, c3⟩, c4⟩, c5⟩, c6⟩ := hc
  have c1 : ∀ (G : Nat) (k j : Int), ¬ rMdP m51_ G j → γ 1 G k j = γ 0 G k j := c1
  have c2 : γ 2 = rUp (γ 1) 102 0 0 (ρ 24) := c2
  have c3 : γ 3 = rUp (γ 2) 102 0 1 (ρ 26) := c3
  have c4 : γ 4 = rUp (γ 3) 102 0 2 (ρ 28) := c4
  have c5 : γ 5 = rUp (γ 4) 102 0 3 (ρ 21) := c5
  have c6 : ∀ (G : Nat) (k j : Int), ¬ rMdP m40_ G j → γ 6 G k j = γ 5 G k j := c6
  obtain ⟨l0, -⟩ := hl
  have l0 : sn57 [ρ 7, ρ 0, ρ 2, ρ 19, ρ 30, ρ 31, ρ 32, ρ 10, ρ 17] (γ 5) 0 0 (γ 6) := hS57 _ _ _ _ _ l0
  show jn75 [ρ 0, ρ 1, ρ 2, ρ 3, ρ 4, ρ 5, ρ 6, ρ 7, ρ 8, ρ 9, ρ 10, ρ 11, ρ 12, ρ 13, ρ 14] (γ 0) 0 [ρ 0, ρ 1, ρ 2, ρ 3, ρ 4, ρ 5, ρ 6, ρ 7, ρ 8, ρ 9, ρ 10, ρ 11, ρ 12, ρ 13, ρ 14, ρ 15 + 1, ρ 16, ρ 37, ρ 18, ρ 33] (γ 6)
  have hD : en75 (γ 0) (0, [ρ 0, ρ 15], γ 1) = .inl (0, [ρ 0, ρ 15 + 1], γ 6) := by
    unfold en75
    refine (if_pos (show (0 : Nat) = 0 by decide)).trans ?_
    refine (zLet_eq (show _ = γ 1 from rfl)).trans ?_
    refine (zLet_eq (show _ = ρ 0 from rfl)).trans ?_
    refine (zLet_eq (show _ = ρ 15 from rfl)).trans ?_
    refine (zLet_eq m2).trans ?_
    refine (zLet_eq m6).trans ?_
    refine (zLet_eq m15).trans ?_
    refine (zLet_eq m16).trans ?_
    refine (if_neg (show ¬ (ρ 15 ≥ ρ 18) by omega)).trans ?_
    refine (if_neg (show ¬ (ρ 17 ≠ 0) by omega)).trans ?_
    refine (if_neg (show ¬ (ρ 3 ≤ 2) by omega)).trans ?_
    refine (zLet_eq m19).trans ?_
    refine (if_pos (show ρ 20 ≠ 0 by omega)).trans ?_
    refine (zLet_eq m20).trans ?_
    refine (zLet_eq m21).trans ?_
    refine (if_neg (show ¬ (0 ≥ ρ 22) by omega)).trans ?_
    refine (zLet_eq m22).trans ?_
    refine (if_pos (show ρ 23 ≠ 3 by omega)).trans ?_
    refine (zLet_eq m23).trans ?_
    refine (zLet_eq c2.symm).trans ?_
    refine (if_neg (show ¬ (1 ≥ ρ 22) by omega)).trans ?_
    refine (zLet_eq m24).trans ?_
    refine (if_pos (show ρ 25 ≠ 3 by omega)).trans ?_
    refine (zLet_eq m25).trans ?_
    refine (zLet_eq c3.symm).trans ?_
    refine (if_neg (show ¬ (2 ≥ ρ 22) by omega)).trans ?_
    refine (zLet_eq m26).trans ?_
    refine (if_pos (show ρ 27 ≠ 3 by omega)).trans ?_
    refine (zLet_eq m27).trans ?_
    refine (zLet_eq c4.symm).trans ?_
    refine (if_neg (show ¬ (3 ≥ ρ 22) by omega)).trans ?_
    refine (zLet_eq m28).trans ?_
    refine (if_neg (show ¬ (ρ 29 ≠ 3) by omega)).trans ?_
    refine (zLet_eq c5.symm).trans ?_
    refine (zLet_eq (show fn57 [ρ 7, ρ 0] (γ 5) = (0, 0, γ 6) from l0.symm)).trans ?_
    refine (zLet_eq (show _ = γ 6 from rfl)).trans ?_
    rfl
  exact zGoo_ato hJ hD
theorem vn75a0_70 {S : Nat → zSpc} (hS57 : ∀ x g o v gz, S 57 x g o v gz → sn57 x g o v gz) (hS73 : ∀ x g o v gz, S 73 x g o v gz → sn73 x g o v gz) {a : List Int} {g : rHp} : ∀ (ρ : Nat → Int) (γ : Nat → rHp), jn75 a g 0 (zAg (zNA a75_ 0) ρ) (γ 1) → zO 15 S a g q75a0_70 ρ γ → zGl (fun i vs g1 => jn75 a g i vs g1) (sn75 a g) q75a0_70 ρ γ := by
  intro ρ γ hJ h
  obtain ⟨ha, hg, hr, hf, hm, hc, hl⟩ := h
  have ha : a = [ρ 0, ρ 1, ρ 2, ρ 3, ρ 4, ρ 5, ρ 6, ρ 7, ρ 8, ρ 9, ρ 10, ρ 11, ρ 12, ρ 13, ρ 14] := ha
  subst ha
  subst hg
  have hJ : jn75 [ρ 0, ρ 1, ρ 2, ρ 3, ρ 4, ρ 5, ρ 6, ρ 7, ρ 8, ρ 9, ρ 10, ρ 11, ρ 12, ρ 13, ρ 14] (γ 0) 0 [ρ 0, ρ 1, ρ 2, ρ 3, ρ 4, ρ 5, ρ 6, ρ 7, ρ 8, ρ 9, ρ 10, ρ 11, ρ 12, ρ 13, ρ 14, ρ 15, ρ 16, ρ 17, ρ 18, ρ 19] (γ 1) := hJ
  obtain ⟨r0, r1, r2, r3, r4, r5, r6, r7, r8, r9, r10, r11, r12, r13, r14, r15, r16, r17, r18, r19, r20, r21, r22, r23, r24, r25, r26, r27, r28, r29, r30, r31, r32, r33, r34, r35, r36, -⟩ := hr
  have r0 : (0 : Int) ≤ ρ 0 ∧ ρ 0 ≤ 59 := r0
  have r1 : (0 : Int) ≤ ρ 1 ∧ ρ 1 ≤ 60 := r1
  have r2 : (0 : Int) ≤ ρ 2 ∧ ρ 2 ≤ 20 := r2
  have r3 : (3 : Int) ≤ ρ 3 ∧ ρ 3 ≤ 4 := r3
  have r4 : (0 : Int) ≤ ρ 4 ∧ ρ 4 ≤ 50001 := r4
  have r5 : (0 : Int) ≤ ρ 5 ∧ ρ 5 ≤ 3 := r5
  have r6 : (0 : Int) ≤ ρ 6 ∧ ρ 6 ≤ 2000 := r6
  have r7 : (0 : Int) ≤ ρ 7 ∧ ρ 7 ≤ 19 := r7
  have r8 : (0 : Int) ≤ ρ 8 ∧ ρ 8 ≤ 61 := r8
  have r9 : (0 : Int) ≤ ρ 9 ∧ ρ 9 ≤ 2000 := r9
  have r10 : ((-2147483648) : Int) ≤ ρ 10 ∧ ρ 10 ≤ 2147483647 := r10
  have r11 : (0 : Int) ≤ ρ 11 ∧ ρ 11 ≤ 2000 := r11
  have r12 : (0 : Int) ≤ ρ 12 ∧ ρ 12 ≤ 2000 := r12
  have r13 : (0 : Int) ≤ ρ 13 ∧ ρ 13 ≤ 2000 := r13
  have r14 : (0 : Int) ≤ ρ 14 ∧ ρ 14 ≤ 50001 := r14
  have r15 : (0 : Int) ≤ ρ 15 ∧ ρ 15 ≤ 2000 := r15
  have r16 : (0 : Int) ≤ ρ 16 ∧ ρ 16 ≤ 50001 := r16
  have r17 : (0 : Int) ≤ ρ 17 ∧ ρ 17 ≤ 0 := r17
  have r18 : (0 : Int) ≤ ρ 18 ∧ ρ 18 ≤ 2000 := r18
  have r19 : (0 : Int) ≤ ρ 19 ∧ ρ 19 ≤ 2000 := r19
  have r20 : (1 : Int) ≤ ρ 20 ∧ ρ 20 ≤ 1 := r20
  have r21 : ((-2147483648) : Int) ≤ ρ 21 ∧ ρ 21 ≤ 1099511640064 := r21
  have r22 : (3 : Int) ≤ ρ 22 ∧ ρ 22 ≤ 3 := r22
  have r23 : (0 : Int) ≤ ρ 23 ∧ ρ 23 ≤ 2 := r23
  have r24 : ((-2147483648) : Int) ≤ ρ 24 ∧ ρ 24 ≤ 1099511640064 := r24
  have r25 : (0 : Int) ≤ ρ 25 ∧ ρ 25 ≤ 2 := r25
  have r26 : ((-2147483648) : Int) ≤ ρ 26 ∧ ρ 26 ≤ 1099511640064 := r26
  have r27 : (3 : Int) ≤ ρ 27 ∧ ρ 27 ≤ 3 := r27
  have r28 : ((-2147483648) : Int) ≤ ρ 28 ∧ ρ 28 ≤ 1099511640064 := r28
  have r29 : (0 : Int) ≤ ρ 29 ∧ ρ 29 ≤ 8 := r29
  have r30 : ((-1) : Int) ≤ ρ 30 ∧ ρ 30 ≤ 1999 := r30
  have r31 : (0 : Int) ≤ ρ 31 ∧ ρ 31 ≤ 1999 := r31
  have r32 : (1 : Int) ≤ ρ 32 ∧ ρ 32 ≤ 2000 := r32
  have r33 : (0 : Int) ≤ ρ 33 ∧ ρ 33 ≤ 8 := r33
  have r34 : ((-1) : Int) ≤ ρ 34 ∧ ρ 34 ≤ 1999 := r34
  have r35 : (0 : Int) ≤ ρ 35 ∧ ρ 35 ≤ 1999 := r35
  have r36 : (0 : Int) ≤ ρ 36 ∧ ρ 36 ≤ 3 := r36
  obtain ⟨f0, f1, f2, f3, f4, f5, f6, f7, f8, f9, -⟩ := hf
  have f0 : (0 : Int) ≤ -ρ 7 + ρ 2 + (-1) := f0
  have f1 : (0 : Int) ≤ ρ 32 + -ρ 19 := f1
  have f2 : (0 : Int) ≤ ρ 34 + -ρ 30 := f2
  have f3 : (0 : Int) ≤ ρ 18 + -ρ 15 + (-1) := f3
  have f4 : (0 : Int) ≤ ρ 17 + -ρ 16 + 50000 := f4
  have f5 : (0 : Int) ≤ ρ 1 + -ρ 0 + (-1) := f5
  have f6 : (0 : Int) ≤ ρ 19 + -ρ 9 := f6
  have f7 : (0 : Int) ≤ ρ 18 + -ρ 15 := f7
  have f8 : (0 : Int) ≤ ρ 17 + -ρ 5 := f8
  have f9 : (0 : Int) ≤ ρ 16 + -ρ 4 := f9
  obtain ⟨m0, m1, m2, m3, m4, m5, m6, m7, m8, m9, m10, m11, m12, m13, m14, m15, m16, m17, m18, m19, m20, m21, m22, m23, m24, m25, m26, m27, m28, m29, m30, m31, m32, m33, m34, m35, -⟩ := hm
  have m0 : γ 0 15 0 32 = ρ 1 := m0
  have m1 : γ 0 15 0 13 = ρ 2 := m1
  have m2 : γ 0 71 0 (ρ 0) = ρ 3 := m2
  have m3 : γ 0 15 0 72 = ρ 4 := m3
  have m4 : γ 0 15 0 77 = ρ 5 := m4
  have m5 : γ 0 15 0 90 = ρ 6 := m5
  have m6 : γ 0 69 0 (ρ 0) = ρ 7 := m6
  have m7 : γ 0 15 0 44 = ρ 8 := m7
  have m8 : γ 0 15 0 71 = ρ 9 := m8
  have m9 : γ 0 15 0 76 = ρ 10 := m9
  have m10 : γ 0 15 0 81 = ρ 11 := m10
  have m11 : γ 0 15 0 82 = ρ 12 := m11
  have m12 : γ 0 15 0 83 = ρ 13 := m12
  have m13 : γ 0 15 0 94 = ρ 14 := m13
  have m14 : γ 1 15 0 72 = ρ 16 := m14
  have m15 : γ 1 15 0 77 = ρ 17 := m15
  have m16 : γ 1 15 0 90 = ρ 18 := m16
  have m17 : γ 1 15 0 71 = ρ 19 := m17
  have m18 : γ 1 15 0 81 = ρ 9 := m18
  have m19 : γ 1 109 0 (ρ 15) = ρ 20 := m19
  have m20 : γ 1 108 0 (ρ 15) = ρ 21 := m20
  have m21 : γ 0 66 0 (ρ 7) = ρ 22 := m21
  have m22 : γ 0 70 0 (4 * ρ 0) = ρ 23 := m22
  have m23 : γ 1 105 0 (4 * ρ 15) = ρ 24 := m23
  have m24 : γ 0 70 0 (4 * ρ 0 + 1) = ρ 25 := m24
  have m25 : γ 1 105 0 (4 * ρ 15 + 1) = ρ 26 := m25
  have m26 : γ 0 70 0 (4 * ρ 0 + 2) = ρ 27 := m26
  have m27 : γ 1 105 0 (4 * ρ 15 + 3) = ρ 28 := m27
  have m28 : γ 1 97 0 (ρ 19) = ρ 29 := m28
  have m29 : γ 1 100 0 (ρ 7) = ρ 30 := m29
  have m30 : γ 1 101 0 (ρ 7) = ρ 31 := m30
  have m31 : γ 6 15 0 71 = ρ 32 := m31
  have m32 : γ 6 97 0 (ρ 19) = ρ 33 := m32
  have m33 : γ 6 100 0 (ρ 7) = ρ 34 := m33
  have m34 : γ 6 101 0 (ρ 7) = ρ 35 := m34
  have m35 : γ 6 15 0 77 = ρ 36 := m35
  obtain ⟨⟨⟨⟨⟨⟨-, c1⟩, c2⟩, c3⟩, c4⟩, c5⟩, c6⟩ := hc
  have c1 : ∀ (G : Nat) (k j : Int), ¬ rMdP m51_ G j → γ 1 G k j = γ 0 G k j := c1
  have c2 : γ 2 = rUp (γ 1) 102 0 0 (ρ 24) := c2
  have c3 : γ 3 = rUp (γ 2) 102 0 1 (ρ 26) := c3
  have c4 : γ 4 = rUp (γ 3) 102 0 2 (ρ 21) := c4
  have c5 : γ 5 = rUp (γ 4) 102 0 3 (ρ 28) := c5
  have c6 : ∀ (G : Nat) (k j : Int), ¬ rMdP m40_ G j → γ 6 G k j = γ 5 G k j := c6
  obtain ⟨l0, -⟩ := hl
  have l0 : sn57 [ρ 7, ρ 0, ρ 2, ρ 19, ρ 29, ρ 30, ρ 31, ρ 10, ρ 17] (γ 5) 0 0 (γ 6) := hS57 _ _ _ _ _ l0
  show jn75 [ρ 0, ρ 1, ρ 2, ρ 3, ρ 4, ρ 5, ρ 6, ρ 7, ρ 8, ρ 9, ρ 10, ρ 11, ρ 12, ρ 13, ρ 14] (γ 0) 0 [ρ 0, ρ 1, ρ 2, ρ 3, ρ 4, ρ 5, ρ 6, ρ 7, ρ 8, ρ 9, ρ 10, ρ 11, ρ 12, ρ 13, ρ 14, ρ 15 + 1, ρ 16, ρ 36, ρ 18, ρ 32] (γ 6)
  have hD : en75 (γ 0) (0, [ρ 0, ρ 15], γ 1) = .inl (0, [ρ 0, ρ 15 + 1], γ 6) := by
    unfold en75
    refine (if_pos (show (0 : Nat) = 0 by decide)).trans ?_
    refine (zLet_eq (show _ = γ 1 from rfl)).trans ?_
    refine (zLet_eq (show _ = ρ 0 from rfl)).trans ?_
    refine (zLet_eq (show _ = ρ 15 from rfl)).trans ?_
    refine (zLet_eq m2).trans ?_
    refine (zLet_eq m6).trans ?_
    refine (zLet_eq m15).trans ?_
    refine (zLet_eq m16).trans ?_
    refine (if_neg (show ¬ (ρ 15 ≥ ρ 18) by omega)).trans ?_
    refine (if_neg (show ¬ (ρ 17 ≠ 0) by omega)).trans ?_
    refine (if_neg (show ¬ (ρ 3 ≤ 2) by omega)).trans ?_
    refine (zLet_eq m19).trans ?_
    refine (if_pos (show ρ 20 ≠ 0 by omega)).trans ?_
    refine (zLet_eq m20).trans ?_
    refine (zLet_eq m21).trans ?_
    refine (if_neg (show ¬ (0 ≥ ρ 22) by omega)).trans ?_
    refine (zLet_eq m22).trans ?_
    refine (if_pos (show ρ 23 ≠ 3 by omega)).trans ?_
    refine (zLet_eq m23).trans ?_
    refine (zLet_eq c2.symm).trans ?_
    refine (if_neg (show ¬ (1 ≥ ρ 22) by omega)).trans ?_
    refine (zLet_eq m24).trans ?_
    refine (if_pos (show ρ 25 ≠ 3 by omega)).trans ?_
    refine (zLet_eq m25).trans ?_
    refine (zLet_eq c3.symm).trans ?_
    refine (if_neg (show ¬ (2 ≥ ρ 22) by omega)).trans ?_
    refine (zLet_eq m26).trans ?_
    refine (if_neg (show ¬ (ρ 27 ≠ 3) by omega)).trans ?_
    refine (zLet_eq c4.symm).trans ?_
    refine (if_pos (show 3 ≥ ρ 22 by omega)).trans ?_
    refine (zLet_eq m27).trans ?_
    refine (zLet_eq c5.symm).trans ?_
    refine (zLet_eq (show fn57 [ρ 7, ρ 0] (γ 5) = (0, 0, γ 6) from l0.symm)).trans ?_
    refine (zLet_eq (show _ = γ 6 from rfl)).trans ?_
    rfl
  exact zGoo_ato hJ hD
theorem vn75a0_71 {S : Nat → zSpc} (hS57 : ∀ x g o v gz, S 57 x g o v gz → sn57 x g o v gz) (hS73 : ∀ x g o v gz, S 73 x g o v gz → sn73 x g o v gz) {a : List Int} {g : rHp} : ∀ (ρ : Nat → Int) (γ : Nat → rHp), jn75 a g 0 (zAg (zNA a75_ 0) ρ) (γ 1) → zO 15 S a g q75a0_71 ρ γ → zGl (fun i vs g1 => jn75 a g i vs g1) (sn75 a g) q75a0_71 ρ γ := by
  intro ρ γ hJ h
  obtain ⟨ha, hg, hr, hf, hm, hc, hl⟩ := h
  have ha : a = [ρ 0, ρ 1, ρ 2, ρ 3, ρ 4, ρ 5, ρ 6, ρ 7, ρ 8, ρ 9, ρ 10, ρ 11, ρ 12, ρ 13, ρ 14] := ha
  subst ha
  subst hg
  have hJ : jn75 [ρ 0, ρ 1, ρ 2, ρ 3, ρ 4, ρ 5, ρ 6, ρ 7, ρ 8, ρ 9, ρ 10, ρ 11, ρ 12, ρ 13, ρ 14] (γ 0) 0 [ρ 0, ρ 1, ρ 2, ρ 3, ρ 4, ρ 5, ρ 6, ρ 7, ρ 8, ρ 9, ρ 10, ρ 11, ρ 12, ρ 13, ρ 14, ρ 15, ρ 16, ρ 17, ρ 18, ρ 19] (γ 1) := hJ
  obtain ⟨r0, r1, r2, r3, r4, r5, r6, r7, r8, r9, r10, r11, r12, r13, r14, r15, r16, r17, r18, r19, r20, r21, r22, r23, r24, r25, r26, r27, r28, r29, r30, r31, r32, r33, r34, r35, r36, r37, -⟩ := hr
  have r0 : (0 : Int) ≤ ρ 0 ∧ ρ 0 ≤ 59 := r0
  have r1 : (0 : Int) ≤ ρ 1 ∧ ρ 1 ≤ 60 := r1
  have r2 : (0 : Int) ≤ ρ 2 ∧ ρ 2 ≤ 20 := r2
  have r3 : (3 : Int) ≤ ρ 3 ∧ ρ 3 ≤ 4 := r3
  have r4 : (0 : Int) ≤ ρ 4 ∧ ρ 4 ≤ 50001 := r4
  have r5 : (0 : Int) ≤ ρ 5 ∧ ρ 5 ≤ 3 := r5
  have r6 : (0 : Int) ≤ ρ 6 ∧ ρ 6 ≤ 2000 := r6
  have r7 : (0 : Int) ≤ ρ 7 ∧ ρ 7 ≤ 19 := r7
  have r8 : (0 : Int) ≤ ρ 8 ∧ ρ 8 ≤ 61 := r8
  have r9 : (0 : Int) ≤ ρ 9 ∧ ρ 9 ≤ 2000 := r9
  have r10 : ((-2147483648) : Int) ≤ ρ 10 ∧ ρ 10 ≤ 2147483647 := r10
  have r11 : (0 : Int) ≤ ρ 11 ∧ ρ 11 ≤ 2000 := r11
  have r12 : (0 : Int) ≤ ρ 12 ∧ ρ 12 ≤ 2000 := r12
  have r13 : (0 : Int) ≤ ρ 13 ∧ ρ 13 ≤ 2000 := r13
  have r14 : (0 : Int) ≤ ρ 14 ∧ ρ 14 ≤ 50001 := r14
  have r15 : (0 : Int) ≤ ρ 15 ∧ ρ 15 ≤ 2000 := r15
  have r16 : (0 : Int) ≤ ρ 16 ∧ ρ 16 ≤ 50001 := r16
  have r17 : (0 : Int) ≤ ρ 17 ∧ ρ 17 ≤ 0 := r17
  have r18 : (0 : Int) ≤ ρ 18 ∧ ρ 18 ≤ 2000 := r18
  have r19 : (0 : Int) ≤ ρ 19 ∧ ρ 19 ≤ 2000 := r19
  have r20 : (1 : Int) ≤ ρ 20 ∧ ρ 20 ≤ 1 := r20
  have r21 : ((-2147483648) : Int) ≤ ρ 21 ∧ ρ 21 ≤ 1099511640064 := r21
  have r22 : (4 : Int) ≤ ρ 22 ∧ ρ 22 ≤ 4 := r22
  have r23 : (0 : Int) ≤ ρ 23 ∧ ρ 23 ≤ 2 := r23
  have r24 : ((-2147483648) : Int) ≤ ρ 24 ∧ ρ 24 ≤ 1099511640064 := r24
  have r25 : (0 : Int) ≤ ρ 25 ∧ ρ 25 ≤ 2 := r25
  have r26 : ((-2147483648) : Int) ≤ ρ 26 ∧ ρ 26 ≤ 1099511640064 := r26
  have r27 : (3 : Int) ≤ ρ 27 ∧ ρ 27 ≤ 3 := r27
  have r28 : (0 : Int) ≤ ρ 28 ∧ ρ 28 ≤ 2 := r28
  have r29 : ((-2147483648) : Int) ≤ ρ 29 ∧ ρ 29 ≤ 1099511640064 := r29
  have r30 : (0 : Int) ≤ ρ 30 ∧ ρ 30 ≤ 8 := r30
  have r31 : ((-1) : Int) ≤ ρ 31 ∧ ρ 31 ≤ 1999 := r31
  have r32 : (0 : Int) ≤ ρ 32 ∧ ρ 32 ≤ 1999 := r32
  have r33 : (1 : Int) ≤ ρ 33 ∧ ρ 33 ≤ 2000 := r33
  have r34 : (0 : Int) ≤ ρ 34 ∧ ρ 34 ≤ 8 := r34
  have r35 : ((-1) : Int) ≤ ρ 35 ∧ ρ 35 ≤ 1999 := r35
  have r36 : (0 : Int) ≤ ρ 36 ∧ ρ 36 ≤ 1999 := r36
  have r37 : (0 : Int) ≤ ρ 37 ∧ ρ 37 ≤ 3 := r37
  obtain ⟨f0, f1, f2, f3, f4, f5, f6, f7, f8, f9, -⟩ := hf
  have f0 : (0 : Int) ≤ -ρ 7 + ρ 2 + (-1) := f0
  have f1 : (0 : Int) ≤ ρ 33 + -ρ 19 := f1
  have f2 : (0 : Int) ≤ ρ 35 + -ρ 31 := f2
  have f3 : (0 : Int) ≤ ρ 18 + -ρ 15 + (-1) := f3
  have f4 : (0 : Int) ≤ ρ 17 + -ρ 16 + 50000 := f4
  have f5 : (0 : Int) ≤ ρ 1 + -ρ 0 + (-1) := f5
  have f6 : (0 : Int) ≤ ρ 19 + -ρ 9 := f6
  have f7 : (0 : Int) ≤ ρ 18 + -ρ 15 := f7
  have f8 : (0 : Int) ≤ ρ 17 + -ρ 5 := f8
  have f9 : (0 : Int) ≤ ρ 16 + -ρ 4 := f9
  obtain ⟨m0, m1, m2, m3, m4, m5, m6, m7, m8, m9, m10, m11, m12, m13, m14, m15, m16, m17, m18, m19, m20, m21, m22, m23, m24, m25, m26, m27, m28, m29, m30, m31, m32, m33, m34, m35, m36, -⟩ := hm
  have m0 : γ 0 15 0 32 = ρ 1 := m0
  have m1 : γ 0 15 0 13 = ρ 2 := m1
  have m2 : γ 0 71 0 (ρ 0) = ρ 3 := m2
  have m3 : γ 0 15 0 72 = ρ 4 := m3
  have m4 : γ 0 15 0 77 = ρ 5 := m4
  have m5 : γ 0 15 0 90 = ρ 6 := m5
  have m6 : γ 0 69 0 (ρ 0) = ρ 7 := m6
  have m7 : γ 0 15 0 44 = ρ 8 := m7
  have m8 : γ 0 15 0 71 = ρ 9 := m8
  have m9 : γ 0 15 0 76 = ρ 10 := m9
  have m10 : γ 0 15 0 81 = ρ 11 := m10
  have m11 : γ 0 15 0 82 = ρ 12 := m11
  have m12 : γ 0 15 0 83 = ρ 13 := m12
  have m13 : γ 0 15 0 94 = ρ 14 := m13
  have m14 : γ 1 15 0 72 = ρ 16 := m14
  have m15 : γ 1 15 0 77 = ρ 17 := m15
  have m16 : γ 1 15 0 90 = ρ 18 := m16
  have m17 : γ 1 15 0 71 = ρ 19 := m17
  have m18 : γ 1 15 0 81 = ρ 9 := m18
  have m19 : γ 1 109 0 (ρ 15) = ρ 20 := m19
  have m20 : γ 1 108 0 (ρ 15) = ρ 21 := m20
  have m21 : γ 0 66 0 (ρ 7) = ρ 22 := m21
  have m22 : γ 0 70 0 (4 * ρ 0) = ρ 23 := m22
  have m23 : γ 1 105 0 (4 * ρ 15) = ρ 24 := m23
  have m24 : γ 0 70 0 (4 * ρ 0 + 1) = ρ 25 := m24
  have m25 : γ 1 105 0 (4 * ρ 15 + 1) = ρ 26 := m25
  have m26 : γ 0 70 0 (4 * ρ 0 + 2) = ρ 27 := m26
  have m27 : γ 0 70 0 (4 * ρ 0 + 3) = ρ 28 := m27
  have m28 : γ 1 105 0 (4 * ρ 15 + 3) = ρ 29 := m28
  have m29 : γ 1 97 0 (ρ 19) = ρ 30 := m29
  have m30 : γ 1 100 0 (ρ 7) = ρ 31 := m30
  have m31 : γ 1 101 0 (ρ 7) = ρ 32 := m31
  have m32 : γ 6 15 0 71 = ρ 33 := m32
  have m33 : γ 6 97 0 (ρ 19) = ρ 34 := m33
  have m34 : γ 6 100 0 (ρ 7) = ρ 35 := m34
  have m35 : γ 6 101 0 (ρ 7) = ρ 36 := m35
  have m36 : γ 6 15 0 77 = ρ 37 := m36
  obtain ⟨⟨⟨⟨⟨⟨-, c1⟩, c2⟩, c3⟩, c4⟩, c5⟩, c6⟩ := hc
  have c1 : ∀ (G : Nat) (k j : Int), ¬ rMdP m51_ G j → γ 1 G k j = γ 0 G k j := c1
  have c2 : γ 2 = rUp (γ 1) 102 0 0 (ρ 24) := c2
  have c3 : γ 3 = rUp (γ 2) 102 0 1 (ρ 26) := c3
  have c4 : γ 4 = rUp (γ 3) 102 0 2 (ρ 21) := c4
  have c5 : γ 5 = rUp (γ 4) 102 0 3 (ρ 29) := c5
  have c6 : ∀ (G : Nat) (k j : Int), ¬ rMdP m40_ G j → γ 6 G k j = γ 5 G k j := c6
  obtain ⟨l0, -⟩ := hl
  have l0 : sn57 [ρ 7, ρ 0, ρ 2, ρ 19, ρ 30, ρ 31, ρ 32, ρ 10, ρ 17] (γ 5) 0 0 (γ 6) := hS57 _ _ _ _ _ l0
  show jn75 [ρ 0, ρ 1, ρ 2, ρ 3, ρ 4, ρ 5, ρ 6, ρ 7, ρ 8, ρ 9, ρ 10, ρ 11, ρ 12, ρ 13, ρ 14] (γ 0) 0 [ρ 0, ρ 1, ρ 2, ρ 3, ρ 4, ρ 5, ρ 6, ρ 7, ρ 8, ρ 9, ρ 10, ρ 11, ρ 12, ρ 13, ρ 14, ρ 15 + 1, ρ 16, ρ 37, ρ 18, ρ 33] (γ 6)
  have hD : en75 (γ 0) (0, [ρ 0, ρ 15], γ 1) = .inl (0, [ρ 0, ρ 15 + 1], γ 6) := by
    unfold en75
    refine (if_pos (show (0 : Nat) = 0 by decide)).trans ?_
    refine (zLet_eq (show _ = γ 1 from rfl)).trans ?_
    refine (zLet_eq (show _ = ρ 0 from rfl)).trans ?_
    refine (zLet_eq (show _ = ρ 15 from rfl)).trans ?_
    refine (zLet_eq m2).trans ?_
    refine (zLet_eq m6).trans ?_
    refine (zLet_eq m15).trans ?_
    refine (zLet_eq m16).trans ?_
    refine (if_neg (show ¬ (ρ 15 ≥ ρ 18) by omega)).trans ?_
    refine (if_neg (show ¬ (ρ 17 ≠ 0) by omega)).trans ?_
    refine (if_neg (show ¬ (ρ 3 ≤ 2) by omega)).trans ?_
    refine (zLet_eq m19).trans ?_
    refine (if_pos (show ρ 20 ≠ 0 by omega)).trans ?_
    refine (zLet_eq m20).trans ?_
    refine (zLet_eq m21).trans ?_
    refine (if_neg (show ¬ (0 ≥ ρ 22) by omega)).trans ?_
    refine (zLet_eq m22).trans ?_
    refine (if_pos (show ρ 23 ≠ 3 by omega)).trans ?_
    refine (zLet_eq m23).trans ?_
    refine (zLet_eq c2.symm).trans ?_
    refine (if_neg (show ¬ (1 ≥ ρ 22) by omega)).trans ?_
    refine (zLet_eq m24).trans ?_
    refine (if_pos (show ρ 25 ≠ 3 by omega)).trans ?_
    refine (zLet_eq m25).trans ?_
    refine (zLet_eq c3.symm).trans ?_
    refine (if_neg (show ¬ (2 ≥ ρ 22) by omega)).trans ?_
    refine (zLet_eq m26).trans ?_
    refine (if_neg (show ¬ (ρ 27 ≠ 3) by omega)).trans ?_
    refine (zLet_eq c4.symm).trans ?_
    refine (if_neg (show ¬ (3 ≥ ρ 22) by omega)).trans ?_
    refine (zLet_eq m27).trans ?_
    refine (if_pos (show ρ 28 ≠ 3 by omega)).trans ?_
    refine (zLet_eq m28).trans ?_
    refine (zLet_eq c5.symm).trans ?_
    refine (zLet_eq (show fn57 [ρ 7, ρ 0] (γ 5) = (0, 0, γ 6) from l0.symm)).trans ?_
    refine (zLet_eq (show _ = γ 6 from rfl)).trans ?_
    rfl
  exact zGoo_ato hJ hD
theorem vn75a0_72 {S : Nat → zSpc} (hS57 : ∀ x g o v gz, S 57 x g o v gz → sn57 x g o v gz) (hS73 : ∀ x g o v gz, S 73 x g o v gz → sn73 x g o v gz) {a : List Int} {g : rHp} : ∀ (ρ : Nat → Int) (γ : Nat → rHp), jn75 a g 0 (zAg (zNA a75_ 0) ρ) (γ 1) → zO 15 S a g q75a0_72 ρ γ → zGl (fun i vs g1 => jn75 a g i vs g1) (sn75 a g) q75a0_72 ρ γ := by
  intro ρ γ hJ h
  obtain ⟨ha, hg, hr, hf, hm, hc, hl⟩ := h
  have ha : a = [ρ 0, ρ 1, ρ 2, ρ 3, ρ 4, ρ 5, ρ 6, ρ 7, ρ 8, ρ 9, ρ 10, ρ 11, ρ 12, ρ 13, ρ 14] := ha
  subst ha
  subst hg
  have hJ : jn75 [ρ 0, ρ 1, ρ 2, ρ 3, ρ 4, ρ 5, ρ 6, ρ 7, ρ 8, ρ 9, ρ 10, ρ 11, ρ 12, ρ 13, ρ 14] (γ 0) 0 [ρ 0, ρ 1, ρ 2, ρ 3, ρ 4, ρ 5, ρ 6, ρ 7, ρ 8, ρ 9, ρ 10, ρ 11, ρ 12, ρ 13, ρ 14, ρ 15, ρ 16, ρ 17, ρ 18, ρ 19] (γ 1) := hJ
  obtain ⟨r0, r1, r2, r3, r4, r5, r6, r7, r8, r9, r10, r11, r12, r13, r14, r15, r16, r17, r18, r19, r20, r21, r22, r23, r24, r25, r26, r27, r28, r29, r30, r31, r32, r33, r34, r35, r36, -⟩ := hr
  have r0 : (0 : Int) ≤ ρ 0 ∧ ρ 0 ≤ 59 := r0
  have r1 : (0 : Int) ≤ ρ 1 ∧ ρ 1 ≤ 60 := r1
  have r2 : (0 : Int) ≤ ρ 2 ∧ ρ 2 ≤ 20 := r2
  have r3 : (3 : Int) ≤ ρ 3 ∧ ρ 3 ≤ 4 := r3
  have r4 : (0 : Int) ≤ ρ 4 ∧ ρ 4 ≤ 50001 := r4
  have r5 : (0 : Int) ≤ ρ 5 ∧ ρ 5 ≤ 3 := r5
  have r6 : (0 : Int) ≤ ρ 6 ∧ ρ 6 ≤ 2000 := r6
  have r7 : (0 : Int) ≤ ρ 7 ∧ ρ 7 ≤ 19 := r7
  have r8 : (0 : Int) ≤ ρ 8 ∧ ρ 8 ≤ 61 := r8
  have r9 : (0 : Int) ≤ ρ 9 ∧ ρ 9 ≤ 2000 := r9
  have r10 : ((-2147483648) : Int) ≤ ρ 10 ∧ ρ 10 ≤ 2147483647 := r10
  have r11 : (0 : Int) ≤ ρ 11 ∧ ρ 11 ≤ 2000 := r11
  have r12 : (0 : Int) ≤ ρ 12 ∧ ρ 12 ≤ 2000 := r12
  have r13 : (0 : Int) ≤ ρ 13 ∧ ρ 13 ≤ 2000 := r13
  have r14 : (0 : Int) ≤ ρ 14 ∧ ρ 14 ≤ 50001 := r14
  have r15 : (0 : Int) ≤ ρ 15 ∧ ρ 15 ≤ 2000 := r15
  have r16 : (0 : Int) ≤ ρ 16 ∧ ρ 16 ≤ 50001 := r16
  have r17 : (0 : Int) ≤ ρ 17 ∧ ρ 17 ≤ 0 := r17
  have r18 : (0 : Int) ≤ ρ 18 ∧ ρ 18 ≤ 2000 := r18
  have r19 : (0 : Int) ≤ ρ 19 ∧ ρ 19 ≤ 2000 := r19
  have r20 : (1 : Int) ≤ ρ 20 ∧ ρ 20 ≤ 1 := r20
  have r21 : ((-2147483648) : Int) ≤ ρ 21 ∧ ρ 21 ≤ 1099511640064 := r21
  have r22 : (4 : Int) ≤ ρ 22 ∧ ρ 22 ≤ 4 := r22
  have r23 : (0 : Int) ≤ ρ 23 ∧ ρ 23 ≤ 2 := r23
  have r24 : ((-2147483648) : Int) ≤ ρ 24 ∧ ρ 24 ≤ 1099511640064 := r24
  have r25 : (0 : Int) ≤ ρ 25 ∧ ρ 25 ≤ 2 := r25
  have r26 : ((-2147483648) : Int) ≤ ρ 26 ∧ ρ 26 ≤ 1099511640064 := r26
  have r27 : (3 : Int) ≤ ρ 27 ∧ ρ 27 ≤ 3 := r27
  have r28 : (3 : Int) ≤ ρ 28 ∧ ρ 28 ≤ 3 := r28
  have r29 : (0 : Int) ≤ ρ 29 ∧ ρ 29 ≤ 8 := r29
  have r30 : ((-1) : Int) ≤ ρ 30 ∧ ρ 30 ≤ 1999 := r30
  have r31 : (0 : Int) ≤ ρ 31 ∧ ρ 31 ≤ 1999 := r31
  have r32 : (1 : Int) ≤ ρ 32 ∧ ρ 32 ≤ 2000 := r32
  have r33 : (0 : Int) ≤ ρ 33 ∧ ρ 33 ≤ 8 := r33
  have r34 : ((-1) : Int) ≤ ρ 34 ∧ ρ 34 ≤ 1999 := r34
  have r35 : (0 : Int) ≤ ρ 35 ∧ ρ 35 ≤ 1999 := r35
  have r36 : (0 : Int) ≤ ρ 36 ∧ ρ 36 ≤ 3 := r36
  obtain ⟨f0, f1, f2, f3, f4, f5, f6, f7, f8, f9, -⟩ := hf
  have f0 : (0 : Int) ≤ -ρ 7 + ρ 2 + (-1) := f0
  have f1 : (0 : Int) ≤ ρ 32 + -ρ 19 := f1
  have f2 : (0 : Int) ≤ ρ 34 + -ρ 30 := f2
  have f3 : (0 : Int) ≤ ρ 18 + -ρ 15 + (-1) := f3
  have f4 : (0 : Int) ≤ ρ 17 + -ρ 16 + 50000 := f4
  have f5 : (0 : Int) ≤ ρ 1 + -ρ 0 + (-1) := f5
  have f6 : (0 : Int) ≤ ρ 19 + -ρ 9 := f6
  have f7 : (0 : Int) ≤ ρ 18 + -ρ 15 := f7
  have f8 : (0 : Int) ≤ ρ 17 + -ρ 5 := f8
  have f9 : (0 : Int) ≤ ρ 16 + -ρ 4 := f9
  obtain ⟨m0, m1, m2, m3, m4, m5, m6, m7, m8, m9, m10, m11, m12, m13, m14, m15, m16, m17, m18, m19, m20, m21, m22, m23, m24, m25, m26, m27, m28, m29, m30, m31, m32, m33, m34, m35, -⟩ := hm
  have m0 : γ 0 15 0 32 = ρ 1 := m0
  have m1 : γ 0 15 0 13 = ρ 2 := m1
  have m2 : γ 0 71 0 (ρ 0) = ρ 3 := m2
  have m3 : γ 0 15 0 72 = ρ 4 := m3
  have m4 : γ 0 15 0 77 = ρ 5 := m4
  have m5 : γ 0 15 0 90 = ρ 6 := m5
  have m6 : γ 0 69 0 (ρ 0) = ρ 7 := m6
  have m7 : γ 0 15 0 44 = ρ 8 := m7
  have m8 : γ 0 15 0 71 = ρ 9 := m8
  have m9 : γ 0 15 0 76 = ρ 10 := m9
  have m10 : γ 0 15 0 81 = ρ 11 := m10
  have m11 : γ 0 15 0 82 = ρ 12 := m11
  have m12 : γ 0 15 0 83 = ρ 13 := m12
  have m13 : γ 0 15 0 94 = ρ 14 := m13
  have m14 : γ 1 15 0 72 = ρ 16 := m14
  have m15 : γ 1 15 0 77 = ρ 17 := m15
  have m16 : γ 1 15 0 90 = ρ 18 := m16
  have m17 : γ 1 15 0 71 = ρ 19 := m17
  have m18 : γ 1 15 0 81 = ρ 9 := m18
  have m19 : γ 1 109 0 (ρ 15) = ρ 20 := m19
  have m20 : γ 1 108 0 (ρ 15) = ρ 21 := m20
  have m21 : γ 0 66 0 (ρ 7) = ρ 22 := m21
  have m22 : γ 0 70 0 (4 * ρ 0) = ρ 23 := m22
  have m23 : γ 1 105 0 (4 * ρ 15) = ρ 24 := m23
  have m24 : γ 0 70 0 (4 * ρ 0 + 1) = ρ 25 := m24
  have m25 : γ 1 105 0 (4 * ρ 15 + 1) = ρ 26 := m25
  have m26 : γ 0 70 0 (4 * ρ 0 + 2) = ρ 27 := m26
  have m27 : γ 0 70 0 (4 * ρ 0 + 3) = ρ 28 := m27
  have m28 : γ 1 97 0 (ρ 19) = ρ 29 := m28
  have m29 : γ 1 100 0 (ρ 7) = ρ 30 := m29
  have m30 : γ 1 101 0 (ρ 7) = ρ 31 := m30
  have m31 : γ 6 15 0 71 = ρ 32 := m31
  have m32 : γ 6 97 0 (ρ 19) = ρ 33 := m32
  have m33 : γ 6 100 0 (ρ 7) = ρ 34 := m33
  have m34 : γ 6 101 0 (ρ 7) = ρ 35 := m34
  have m35 : γ 6 15 0 77 = ρ 36 := m35
  obtain ⟨⟨⟨⟨⟨⟨-, c1⟩, c2⟩, c3⟩, c4⟩, c5⟩, c6⟩ := hc
  have c1 : ∀ (G : Nat) (k j : Int), ¬ rMdP m51_ G j → γ 1 G k j = γ 0 G k j := c1
  have c2 : γ 2 = rUp (γ 1) 102 0 0 (ρ 24) := c2
  have c3 : γ 3 = rUp (γ 2) 102 0 1 (ρ 26) := c3
  have c4 : γ 4 = rUp (γ 3) 102 0 2 (ρ 21) := c4
  have c5 : γ 5 = rUp (γ 4) 102 0 3 (ρ 21) := c5
  have c6 : ∀ (G : Nat) (k j : Int), ¬ rMdP m40_ G j → γ 6 G k j = γ 5 G k j := c6
  obtain ⟨l0, -⟩ := hl
  have l0 : sn57 [ρ 7, ρ 0, ρ 2, ρ 19, ρ 29, ρ 30, ρ 31, ρ 10, ρ 17] (γ 5) 0 0 (γ 6) := hS57 _ _ _ _ _ l0
  show jn75 [ρ 0, ρ 1, ρ 2, ρ 3, ρ 4, ρ 5, ρ 6, ρ 7, ρ 8, ρ 9, ρ 10, ρ 11, ρ 12, ρ 13, ρ 14] (γ 0) 0 [ρ 0, ρ 1, ρ 2, ρ 3, ρ 4, ρ 5, ρ 6, ρ 7, ρ 8, ρ 9, ρ 10, ρ 11, ρ 12, ρ 13, ρ 14, ρ 15 + 1, ρ 16, ρ 36, ρ 18, ρ 32] (γ 6)
  have hD : en75 (γ 0) (0, [ρ 0, ρ 15], γ 1) = .inl (0, [ρ 0, ρ 15 + 1], γ 6) := by
    unfold en75
    refine (if_pos (show (0 : Nat) = 0 by decide)).trans ?_
    refine (zLet_eq (show _ = γ 1 from rfl)).trans ?_
    refine (zLet_eq (show _ = ρ 0 from rfl)).trans ?_
    refine (zLet_eq (show _ = ρ 15 from rfl)).trans ?_
    refine (zLet_eq m2).trans ?_
    refine (zLet_eq m6).trans ?_
    refine (zLet_eq m15).trans ?_
    refine (zLet_eq m16).trans ?_
    refine (if_neg (show ¬ (ρ 15 ≥ ρ 18) by omega)).trans ?_
    refine (if_neg (show ¬ (ρ 17 ≠ 0) by omega)).trans ?_
    refine (if_neg (show ¬ (ρ 3 ≤ 2) by omega)).trans ?_
    refine (zLet_eq m19).trans ?_
    refine (if_pos (show ρ 20 ≠ 0 by omega)).trans ?_
    refine (zLet_eq m20).trans ?_
    refine (zLet_eq m21).trans ?_
    refine (if_neg (show ¬ (0 ≥ ρ 22) by omega)).trans ?_
    refine (zLet_eq m22).trans ?_
    refine (if_pos (show ρ 23 ≠ 3 by omega)).trans ?_
    refine (zLet_eq m23).trans ?_
    refine (zLet_eq c2.symm).trans ?_
    refine (if_neg (show ¬ (1 ≥ ρ 22) by omega)).trans ?_
    refine (zLet_eq m24).trans ?_
    refine (if_pos (show ρ 25 ≠ 3 by omega)).trans ?_
    refine (zLet_eq m25).trans ?_
    refine (zLet_eq c3.symm).trans ?_
    refine (if_neg (show ¬ (2 ≥ ρ 22) by omega)).trans ?_
    refine (zLet_eq m26).trans ?_
    refine (if_neg (show ¬ (ρ 27 ≠ 3) by omega)).trans ?_
    refine (zLet_eq c4.symm).trans ?_
    refine (if_neg (show ¬ (3 ≥ ρ 22) by omega)).trans ?_
    refine (zLet_eq m27).trans ?_
    refine (if_neg (show ¬ (ρ 28 ≠ 3) by omega)).trans ?_
    refine (zLet_eq c5.symm).trans ?_
    refine (zLet_eq (show fn57 [ρ 7, ρ 0] (γ 5) = (0, 0, γ 6) from l0.symm)).trans ?_
    refine (zLet_eq (show _ = γ 6 from rfl)).trans ?_
    rfl
  exact zGoo_ato hJ hD
theorem vn75a0_73 {S : Nat → zSpc} (hS57 : ∀ x g o v gz, S 57 x g o v gz → sn57 x g o v gz) (hS73 : ∀ x g o v gz, S 73 x g o v gz → sn73 x g o v gz) {a : List Int} {g : rHp} : ∀ (ρ : Nat → Int) (γ : Nat → rHp), jn75 a g 0 (zAg (zNA a75_ 0) ρ) (γ 1) → zO 15 S a g q75a0_73 ρ γ → zGl (fun i vs g1 => jn75 a g i vs g1) (sn75 a g) q75a0_73 ρ γ := by
  intro ρ γ hJ h
  obtain ⟨ha, hg, hr, hf, hm, hc, hl⟩ := h
  have ha : a = [ρ 0, ρ 1, ρ 2, ρ 3, ρ 4, ρ 5, ρ 6, ρ 7, ρ 8, ρ 9, ρ 10, ρ 11, ρ 12, ρ 13, ρ 14] := ha
  subst ha
  subst hg
  have hJ : jn75 [ρ 0, ρ 1, ρ 2, ρ 3, ρ 4, ρ 5, ρ 6, ρ 7, ρ 8, ρ 9, ρ 10, ρ 11, ρ 12, ρ 13, ρ 14] (γ 0) 0 [ρ 0, ρ 1, ρ 2, ρ 3, ρ 4, ρ 5, ρ 6, ρ 7, ρ 8, ρ 9, ρ 10, ρ 11, ρ 12, ρ 13, ρ 14, ρ 15, ρ 16, ρ 17, ρ 18, ρ 19] (γ 1) := hJ
  obtain ⟨r0, r1, r2, r3, r4, r5, r6, r7, r8, r9, r10, r11, r12, r13, r14, r15, r16, r17, r18, r19, r20, r21, r22, r23, r24, r25, r26, r27, r28, r29, r30, r31, r32, r33, r34, r35, -⟩ := hr
  have r0 : (0 : Int) ≤ ρ 0 ∧ ρ 0 ≤ 59 := r0
  have r1 : (0 : Int) ≤ ρ 1 ∧ ρ 1 ≤ 60 := r1
  have r2 : (0 : Int) ≤ ρ 2 ∧ ρ 2 ≤ 20 := r2
  have r3 : (3 : Int) ≤ ρ 3 ∧ ρ 3 ≤ 4 := r3
  have r4 : (0 : Int) ≤ ρ 4 ∧ ρ 4 ≤ 50001 := r4
  have r5 : (0 : Int) ≤ ρ 5 ∧ ρ 5 ≤ 3 := r5
  have r6 : (0 : Int) ≤ ρ 6 ∧ ρ 6 ≤ 2000 := r6
  have r7 : (0 : Int) ≤ ρ 7 ∧ ρ 7 ≤ 19 := r7
  have r8 : (0 : Int) ≤ ρ 8 ∧ ρ 8 ≤ 61 := r8
  have r9 : (0 : Int) ≤ ρ 9 ∧ ρ 9 ≤ 2000 := r9
  have r10 : ((-2147483648) : Int) ≤ ρ 10 ∧ ρ 10 ≤ 2147483647 := r10
  have r11 : (0 : Int) ≤ ρ 11 ∧ ρ 11 ≤ 2000 := r11
  have r12 : (0 : Int) ≤ ρ 12 ∧ ρ 12 ≤ 2000 := r12
  have r13 : (0 : Int) ≤ ρ 13 ∧ ρ 13 ≤ 2000 := r13
  have r14 : (0 : Int) ≤ ρ 14 ∧ ρ 14 ≤ 50001 := r14
  have r15 : (0 : Int) ≤ ρ 15 ∧ ρ 15 ≤ 2000 := r15
  have r16 : (0 : Int) ≤ ρ 16 ∧ ρ 16 ≤ 50001 := r16
  have r17 : (0 : Int) ≤ ρ 17 ∧ ρ 17 ≤ 0 := r17
  have r18 : (0 : Int) ≤ ρ 18 ∧ ρ 18 ≤ 2000 := r18
  have r19 : (0 : Int) ≤ ρ 19 ∧ ρ 19 ≤ 2000 := r19
  have r20 : (1 : Int) ≤ ρ 20 ∧ ρ 20 ≤ 1 := r20
  have r21 : ((-2147483648) : Int) ≤ ρ 21 ∧ ρ 21 ≤ 1099511640064 := r21
  have r22 : (2 : Int) ≤ ρ 22 ∧ ρ 22 ≤ 2 := r22
  have r23 : (0 : Int) ≤ ρ 23 ∧ ρ 23 ≤ 2 := r23
  have r24 : ((-2147483648) : Int) ≤ ρ 24 ∧ ρ 24 ≤ 1099511640064 := r24
  have r25 : (3 : Int) ≤ ρ 25 ∧ ρ 25 ≤ 3 := r25
  have r26 : ((-2147483648) : Int) ≤ ρ 26 ∧ ρ 26 ≤ 1099511640064 := r26
  have r27 : ((-2147483648) : Int) ≤ ρ 27 ∧ ρ 27 ≤ 1099511640064 := r27
  have r28 : (0 : Int) ≤ ρ 28 ∧ ρ 28 ≤ 8 := r28
  have r29 : ((-1) : Int) ≤ ρ 29 ∧ ρ 29 ≤ 1999 := r29
  have r30 : (0 : Int) ≤ ρ 30 ∧ ρ 30 ≤ 1999 := r30
  have r31 : (1 : Int) ≤ ρ 31 ∧ ρ 31 ≤ 2000 := r31
  have r32 : (0 : Int) ≤ ρ 32 ∧ ρ 32 ≤ 8 := r32
  have r33 : ((-1) : Int) ≤ ρ 33 ∧ ρ 33 ≤ 1999 := r33
  have r34 : (0 : Int) ≤ ρ 34 ∧ ρ 34 ≤ 1999 := r34
  have r35 : (0 : Int) ≤ ρ 35 ∧ ρ 35 ≤ 3 := r35
  obtain ⟨f0, f1, f2, f3, f4, f5, f6, f7, f8, f9, -⟩ := hf
  have f0 : (0 : Int) ≤ -ρ 7 + ρ 2 + (-1) := f0
  have f1 : (0 : Int) ≤ ρ 31 + -ρ 19 := f1
  have f2 : (0 : Int) ≤ ρ 33 + -ρ 29 := f2
  have f3 : (0 : Int) ≤ ρ 18 + -ρ 15 + (-1) := f3
  have f4 : (0 : Int) ≤ ρ 17 + -ρ 16 + 50000 := f4
  have f5 : (0 : Int) ≤ ρ 1 + -ρ 0 + (-1) := f5
  have f6 : (0 : Int) ≤ ρ 19 + -ρ 9 := f6
  have f7 : (0 : Int) ≤ ρ 18 + -ρ 15 := f7
  have f8 : (0 : Int) ≤ ρ 17 + -ρ 5 := f8
  have f9 : (0 : Int) ≤ ρ 16 + -ρ 4 := f9
  obtain ⟨m0, m1, m2, m3, m4, m5, m6, m7, m8, m9, m10, m11, m12, m13, m14, m15, m16, m17, m18, m19, m20, m21, m22, m23, m24, m25, m26, m27, m28, m29, m30, m31, m32, m33, m34, -⟩ := hm
  have m0 : γ 0 15 0 32 = ρ 1 := m0
  have m1 : γ 0 15 0 13 = ρ 2 := m1
  have m2 : γ 0 71 0 (ρ 0) = ρ 3 := m2
  have m3 : γ 0 15 0 72 = ρ 4 := m3
  have m4 : γ 0 15 0 77 = ρ 5 := m4
  have m5 : γ 0 15 0 90 = ρ 6 := m5
  have m6 : γ 0 69 0 (ρ 0) = ρ 7 := m6
  have m7 : γ 0 15 0 44 = ρ 8 := m7
  have m8 : γ 0 15 0 71 = ρ 9 := m8
  have m9 : γ 0 15 0 76 = ρ 10 := m9
  have m10 : γ 0 15 0 81 = ρ 11 := m10
  have m11 : γ 0 15 0 82 = ρ 12 := m11
  have m12 : γ 0 15 0 83 = ρ 13 := m12
  have m13 : γ 0 15 0 94 = ρ 14 := m13
  have m14 : γ 1 15 0 72 = ρ 16 := m14
  have m15 : γ 1 15 0 77 = ρ 17 := m15
  have m16 : γ 1 15 0 90 = ρ 18 := m16
  have m17 : γ 1 15 0 71 = ρ 19 := m17
  have m18 : γ 1 15 0 81 = ρ 9 := m18
  have m19 : γ 1 109 0 (ρ 15) = ρ 20 := m19
  have m20 : γ 1 108 0 (ρ 15) = ρ 21 := m20
  have m21 : γ 0 66 0 (ρ 7) = ρ 22 := m21
  have m22 : γ 0 70 0 (4 * ρ 0) = ρ 23 := m22
  have m23 : γ 1 105 0 (4 * ρ 15) = ρ 24 := m23
  have m24 : γ 0 70 0 (4 * ρ 0 + 1) = ρ 25 := m24
  have m25 : γ 1 105 0 (4 * ρ 15 + 2) = ρ 26 := m25
  have m26 : γ 1 105 0 (4 * ρ 15 + 3) = ρ 27 := m26
  have m27 : γ 1 97 0 (ρ 19) = ρ 28 := m27
  have m28 : γ 1 100 0 (ρ 7) = ρ 29 := m28
  have m29 : γ 1 101 0 (ρ 7) = ρ 30 := m29
  have m30 : γ 6 15 0 71 = ρ 31 := m30
  have m31 : γ 6 97 0 (ρ 19) = ρ 32 := m31
  have m32 : γ 6 100 0 (ρ 7) = ρ 33 := m32
  have m33 : γ 6 101 0 (ρ 7) = ρ 34 := m33
  have m34 : γ 6 15 0 77 = ρ 35 := m34
  obtain ⟨⟨⟨⟨⟨⟨-, c1⟩, c2⟩, c3⟩, c4⟩, c5⟩, c6⟩ := hc
  have c1 : ∀ (G : Nat) (k j : Int), ¬ rMdP m51_ G j → γ 1 G k j = γ 0 G k j := c1
  have c2 : γ 2 = rUp (γ 1) 102 0 0 (ρ 24) := c2
  have c3 : γ 3 = rUp (γ 2) 102 0 1 (ρ 21) := c3
  have c4 : γ 4 = rUp (γ 3) 102 0 2 (ρ 26) := c4
  have c5 : γ 5 = rUp (γ 4) 102 0 3 (ρ 27) := c5
  have c6 : ∀ (G : Nat) (k j : Int), ¬ rMdP m40_ G j → γ 6 G k j = γ 5 G k j := c6
  obtain ⟨l0, -⟩ := hl
  have l0 : sn57 [ρ 7, ρ 0, ρ 2, ρ 19, ρ 28, ρ 29, ρ 30, ρ 10, ρ 17] (γ 5) 0 0 (γ 6) := hS57 _ _ _ _ _ l0
  show jn75 [ρ 0, ρ 1, ρ 2, ρ 3, ρ 4, ρ 5, ρ 6, ρ 7, ρ 8, ρ 9, ρ 10, ρ 11, ρ 12, ρ 13, ρ 14] (γ 0) 0 [ρ 0, ρ 1, ρ 2, ρ 3, ρ 4, ρ 5, ρ 6, ρ 7, ρ 8, ρ 9, ρ 10, ρ 11, ρ 12, ρ 13, ρ 14, ρ 15 + 1, ρ 16, ρ 35, ρ 18, ρ 31] (γ 6)
  have hD : en75 (γ 0) (0, [ρ 0, ρ 15], γ 1) = .inl (0, [ρ 0, ρ 15 + 1], γ 6) := by
    unfold en75
    refine (if_pos (show (0 : Nat) = 0 by decide)).trans ?_
    refine (zLet_eq (show _ = γ 1 from rfl)).trans ?_
    refine (zLet_eq (show _ = ρ 0 from rfl)).trans ?_
    refine (zLet_eq (show _ = ρ 15 from rfl)).trans ?_
    refine (zLet_eq m2).trans ?_
    refine (zLet_eq m6).trans ?_
    refine (zLet_eq m15).trans ?_
    refine (zLet_eq m16).trans ?_
    refine (if_neg (show ¬ (ρ 15 ≥ ρ 18) by omega)).trans ?_
    refine (if_neg (show ¬ (ρ 17 ≠ 0) by omega)).trans ?_
    refine (if_neg (show ¬ (ρ 3 ≤ 2) by omega)).trans ?_
    refine (zLet_eq m19).trans ?_
    refine (if_pos (show ρ 20 ≠ 0 by omega)).trans ?_
    refine (zLet_eq m20).trans ?_
    refine (zLet_eq m21).trans ?_
    refine (if_neg (show ¬ (0 ≥ ρ 22) by omega)).trans ?_
    refine (zLet_eq m22).trans ?_
    refine (if_pos (show ρ 23 ≠ 3 by omega)).trans ?_
    refine (zLet_eq m23).trans ?_
    refine (zLet_eq c2.symm).trans ?_
    refine (if_neg (show ¬ (1 ≥ ρ 22) by omega)).trans ?_
    refine (zLet_eq m24).trans ?_
    refine (if_neg (show ¬ (ρ 25 ≠ 3) by omega)).trans ?_
    refine (zLet_eq c3.symm).trans ?_
    refine (if_pos (show 2 ≥ ρ 22 by omega)).trans ?_
    refine (zLet_eq m25).trans ?_
    refine (zLet_eq c4.symm).trans ?_
    refine (zLet_eq m26).trans ?_
    refine (zLet_eq c5.symm).trans ?_
    refine (zLet_eq (show fn57 [ρ 7, ρ 0] (γ 5) = (0, 0, γ 6) from l0.symm)).trans ?_
    refine (zLet_eq (show _ = γ 6 from rfl)).trans ?_
    rfl
  exact zGoo_ato hJ hD
theorem vn75a0_74 {S : Nat → zSpc} (hS57 : ∀ x g o v gz, S 57 x g o v gz → sn57 x g o v gz) (hS73 : ∀ x g o v gz, S 73 x g o v gz → sn73 x g o v gz) {a : List Int} {g : rHp} : ∀ (ρ : Nat → Int) (γ : Nat → rHp), jn75 a g 0 (zAg (zNA a75_ 0) ρ) (γ 1) → zO 15 S a g q75a0_74 ρ γ → zGl (fun i vs g1 => jn75 a g i vs g1) (sn75 a g) q75a0_74 ρ γ := by
  intro ρ γ hJ h
  obtain ⟨ha, hg, hr, hf, hm, hc, hl⟩ := h
  have ha : a = [ρ 0, ρ 1, ρ 2, ρ 3, ρ 4, ρ 5, ρ 6, ρ 7, ρ 8, ρ 9, ρ 10, ρ 11, ρ 12, ρ 13, ρ 14] := ha
  subst ha
  subst hg
  have hJ : jn75 [ρ 0, ρ 1, ρ 2, ρ 3, ρ 4, ρ 5, ρ 6, ρ 7, ρ 8, ρ 9, ρ 10, ρ 11, ρ 12, ρ 13, ρ 14] (γ 0) 0 [ρ 0, ρ 1, ρ 2, ρ 3, ρ 4, ρ 5, ρ 6, ρ 7, ρ 8, ρ 9, ρ 10, ρ 11, ρ 12, ρ 13, ρ 14, ρ 15, ρ 16, ρ 17, ρ 18, ρ 19] (γ 1) := hJ
  obtain ⟨r0, r1, r2, r3, r4, r5, r6, r7, r8, r9, r10, r11, r12, r13, r14, r15, r16, r17, r18, r19, r20, r21, r22, r23, r24, r25, r26, r27, r28, r29, r30, r31, r32, r33, r34, r35, r36, -⟩ := hr
  have r0 : (0 : Int) ≤ ρ 0 ∧ ρ 0 ≤ 59 := r0
  have r1 : (0 : Int) ≤ ρ 1 ∧ ρ 1 ≤ 60 := r1
  have r2 : (0 : Int) ≤ ρ 2 ∧ ρ 2 ≤ 20 := r2
  have r3 : (3 : Int) ≤ ρ 3 ∧ ρ 3 ≤ 4 := r3
  have r4 : (0 : Int) ≤ ρ 4 ∧ ρ 4 ≤ 50001 := r4
  have r5 : (0 : Int) ≤ ρ 5 ∧ ρ 5 ≤ 3 := r5
  have r6 : (0 : Int) ≤ ρ 6 ∧ ρ 6 ≤ 2000 := r6
  have r7 : (0 : Int) ≤ ρ 7 ∧ ρ 7 ≤ 19 := r7
  have r8 : (0 : Int) ≤ ρ 8 ∧ ρ 8 ≤ 61 := r8
  have r9 : (0 : Int) ≤ ρ 9 ∧ ρ 9 ≤ 2000 := r9
  have r10 : ((-2147483648) : Int) ≤ ρ 10 ∧ ρ 10 ≤ 2147483647 := r10
  have r11 : (0 : Int) ≤ ρ 11 ∧ ρ 11 ≤ 2000 := r11
  have r12 : (0 : Int) ≤ ρ 12 ∧ ρ 12 ≤ 2000 := r12
  have r13 : (0 : Int) ≤ ρ 13 ∧ ρ 13 ≤ 2000 := r13
  have r14 : (0 : Int) ≤ ρ 14 ∧ ρ 14 ≤ 50001 := r14
  have r15 : (0 : Int) ≤ ρ 15 ∧ ρ 15 ≤ 2000 := r15
  have r16 : (0 : Int) ≤ ρ 16 ∧ ρ 16 ≤ 50001 := r16
  have r17 : (0 : Int) ≤ ρ 17 ∧ ρ 17 ≤ 0 := r17
  have r18 : (0 : Int) ≤ ρ 18 ∧ ρ 18 ≤ 2000 := r18
  have r19 : (0 : Int) ≤ ρ 19 ∧ ρ 19 ≤ 2000 := r19
  have r20 : (1 : Int) ≤ ρ 20 ∧ ρ 20 ≤ 1 := r20
  have r21 : ((-2147483648) : Int) ≤ ρ 21 ∧ ρ 21 ≤ 1099511640064 := r21
  have r22 : (3 : Int) ≤ ρ 22 ∧ ρ 22 ≤ 3 := r22
  have r23 : (0 : Int) ≤ ρ 23 ∧ ρ 23 ≤ 2 := r23
  have r24 : ((-2147483648) : Int) ≤ ρ 24 ∧ ρ 24 ≤ 1099511640064 := r24
  have r25 : (3 : Int) ≤ ρ 25 ∧ ρ 25 ≤ 3 := r25
  have r26 : (0 : Int) ≤ ρ 26 ∧ ρ 26 ≤ 2 := r26
  have r27 : ((-2147483648) : Int) ≤ ρ 27 ∧ ρ 27 ≤ 1099511640064 := r27
  have r28 : ((-2147483648) : Int) ≤ ρ 28 ∧ ρ 28 ≤ 1099511640064 := r28
  have r29 : (0 : Int) ≤ ρ 29 ∧ ρ 29 ≤ 8 := r29
  have r30 : ((-1) : Int) ≤ ρ 30 ∧ ρ 30 ≤ 1999 := r30
  have r31 : (0 : Int) ≤ ρ 31 ∧ ρ 31 ≤ 1999 := r31
  have r32 : (1 : Int) ≤ ρ 32 ∧ ρ 32 ≤ 2000 := r32
  have r33 : (0 : Int) ≤ ρ 33 ∧ ρ 33 ≤ 8 := r33
  have r34 : ((-1) : Int) ≤ ρ 34 ∧ ρ 34 ≤ 1999 := r34
  have r35 : (0 : Int) ≤ ρ 35 ∧ ρ 35 ≤ 1999 := r35
  have r36 : (0 : Int) ≤ ρ 36 ∧ ρ 36 ≤ 3 := r36
  obtain ⟨f0, f1, f2, f3, f4, f5, f6, f7, f8, f9, -⟩ := hf
  have f0 : (0 : Int) ≤ -ρ 7 + ρ 2 + (-1) := f0
  have f1 : (0 : Int) ≤ ρ 32 + -ρ 19 := f1
  have f2 : (0 : Int) ≤ ρ 34 + -ρ 30 := f2
  have f3 : (0 : Int) ≤ ρ 18 + -ρ 15 + (-1) := f3
  have f4 : (0 : Int) ≤ ρ 17 + -ρ 16 + 50000 := f4
  have f5 : (0 : Int) ≤ ρ 1 + -ρ 0 + (-1) := f5
  have f6 : (0 : Int) ≤ ρ 19 + -ρ 9 := f6
  have f7 : (0 : Int) ≤ ρ 18 + -ρ 15 := f7
  have f8 : (0 : Int) ≤ ρ 17 + -ρ 5 := f8
  have f9 : (0 : Int) ≤ ρ 16 + -ρ 4 := f9
  obtain ⟨m0, m1, m2, m3, m4, m5, m6, m7, m8, m9, m10, m11, m12, m13, m14, m15, m16, m17, m18, m19, m20, m21, m22, m23, m24, m25, m26, m27, m28, m29, m30, m31, m32, m33, m34, m35, -⟩ := hm
  have m0 : γ 0 15 0 32 = ρ 1 := m0
  have m1 : γ 0 15 0 13 = ρ 2 := m1
  have m2 : γ 0 71 0 (ρ 0) = ρ 3 := m2
  have m3 : γ 0 15 0 72 = ρ 4 := m3
  have m4 : γ 0 15 0 77 = ρ 5 := m4
  have m5 : γ 0 15 0 90 = ρ 6 := m5
  have m6 : γ 0 69 0 (ρ 0) = ρ 7 := m6
  have m7 : γ 0 15 0 44 = ρ 8 := m7
  have m8 : γ 0 15 0 71 = ρ 9 := m8
  have m9 : γ 0 15 0 76 = ρ 10 := m9
  have m10 : γ 0 15 0 81 = ρ 11 := m10
  have m11 : γ 0 15 0 82 = ρ 12 := m11
  have m12 : γ 0 15 0 83 = ρ 13 := m12
  have m13 : γ 0 15 0 94 = ρ 14 := m13
  have m14 : γ 1 15 0 72 = ρ 16 := m14
  have m15 : γ 1 15 0 77 = ρ 17 := m15
  have m16 : γ 1 15 0 90 = ρ 18 := m16
  have m17 : γ 1 15 0 71 = ρ 19 := m17
  have m18 : γ 1 15 0 81 = ρ 9 := m18
  have m19 : γ 1 109 0 (ρ 15) = ρ 20 := m19
  have m20 : γ 1 108 0 (ρ 15) = ρ 21 := m20
  have m21 : γ 0 66 0 (ρ 7) = ρ 22 := m21
  have m22 : γ 0 70 0 (4 * ρ 0) = ρ 23 := m22
  have m23 : γ 1 105 0 (4 * ρ 15) = ρ 24 := m23
  have m24 : γ 0 70 0 (4 * ρ 0 + 1) = ρ 25 := m24
  have m25 : γ 0 70 0 (4 * ρ 0 + 2) = ρ 26 := m25
  have m26 : γ 1 105 0 (4 * ρ 15 + 2) = ρ 27 := m26
  have m27 : γ 1 105 0 (4 * ρ 15 + 3) = ρ 28 := m27
  have m28 : γ 1 97 0 (ρ 19) = ρ 29 := m28
  have m29 : γ 1 100 0 (ρ 7) = ρ 30 := m29
  have m30 : γ 1 101 0 (ρ 7) = ρ 31 := m30
  have m31 : γ 6 15 0 71 = ρ 32 := m31
  have m32 : γ 6 97 0 (ρ 19) = ρ 33 := m32
  have m33 : γ 6 100 0 (ρ 7) = ρ 34 := m33
  have m34 : γ 6 101 0 (ρ 7) = ρ 35 := m34
  have m35 : γ 6 15 0 77 = ρ 36 := m35
  obtain ⟨⟨⟨⟨⟨⟨-, c1⟩, c2⟩, c3⟩, c4⟩, c5⟩, c6⟩ := hc
  have c1 : ∀ (G : Nat) (k j : Int), ¬ rMdP m51_ G j → γ 1 G k j = γ 0 G k j := c1
  have c2 : γ 2 = rUp (γ 1) 102 0 0 (ρ 24) := c2
  have c3 : γ 3 = rUp (γ 2) 102 0 1 (ρ 21) := c3
  have c4 : γ 4 = rUp (γ 3) 102 0 2 (ρ 27) := c4
  have c5 : γ 5 = rUp (γ 4) 102 0 3 (ρ 28) := c5
  have c6 : ∀ (G : Nat) (k j : Int), ¬ rMdP m40_ G j → γ 6 G k j = γ 5 G k j := c6
  obtain ⟨l0, -⟩ := hl
  have l0 : sn57 [ρ 7, ρ 0, ρ 2, ρ 19, ρ 29, ρ 30, ρ 31, ρ 10, ρ 17] (γ 5) 0 0 (γ 6) := hS57 _ _ _ _ _ l0
  show jn75 [ρ 0, ρ 1, ρ 2, ρ 3, ρ 4, ρ 5, ρ 6, ρ 7, ρ 8, ρ 9, ρ 10, ρ 11, ρ 12, ρ 13, ρ 14] (γ 0) 0 [ρ 0, ρ 1, ρ 2, ρ 3, ρ 4, ρ 5, ρ 6, ρ 7, ρ 8, ρ 9, ρ 10, ρ 11, ρ 12, ρ 13, ρ 14, ρ 15 + 1, ρ 16, ρ 36, ρ 18, ρ 32] (γ 6)
  have hD : en75 (γ 0) (0, [ρ 0, ρ 15], γ 1) = .inl (0, [ρ 0, ρ 15 + 1], γ 6) := by
    unfold en75
    refine (if_pos (show (0 : Nat) = 0 by decide)).trans ?_
    refine (zLet_eq (show _ = γ 1 from rfl)).trans ?_
    refine (zLet_eq (show _ = ρ 0 from rfl)).trans ?_
    refine (zLet_eq (show _ = ρ 15 from rfl)).trans ?_
    refine (zLet_eq m2).trans ?_
    refine (zLet_eq m6).trans ?_
    refine (zLet_eq m15).trans ?_
    refine (zLet_eq m16).trans ?_
    refine (if_neg (show ¬ (ρ 15 ≥ ρ 18) by omega)).trans ?_
    refine (if_neg (show ¬ (ρ 17 ≠ 0) by omega)).trans ?_
    refine (if_neg (show ¬ (ρ 3 ≤ 2) by omega)).trans ?_
    refine (zLet_eq m19).trans ?_
    refine (if_pos (show ρ 20 ≠ 0 by omega)).trans ?_
    refine (zLet_eq m20).trans ?_
    refine (zLet_eq m21).trans ?_
    refine (if_neg (show ¬ (0 ≥ ρ 22) by omega)).trans ?_
    refine (zLet_eq m22).trans ?_
    refine (if_pos (show ρ 23 ≠ 3 by omega)).trans ?_
    refine (zLet_eq m23).trans ?_
    refine (zLet_eq c2.symm).trans ?_
    refine (if_neg (show ¬ (1 ≥ ρ 22) by omega)).trans ?_
    refine (zLet_eq m24).trans ?_
    refine (if_neg (show ¬ (ρ 25 ≠ 3) by omega)).trans ?_
    refine (zLet_eq c3.symm).trans ?_
    refine (if_neg (show ¬ (2 ≥ ρ 22) by omega)).trans ?_
    refine (zLet_eq m25).trans ?_
    refine (if_pos (show ρ 26 ≠ 3 by omega)).trans ?_
    refine (zLet_eq m26).trans ?_
    refine (zLet_eq c4.symm).trans ?_
    refine (if_pos (show 3 ≥ ρ 22 by omega)).trans ?_
    refine (zLet_eq m27).trans ?_
    refine (zLet_eq c5.symm).trans ?_
    refine (zLet_eq (show fn57 [ρ 7, ρ 0] (γ 5) = (0, 0, γ 6) from l0.symm)).trans ?_
    refine (zLet_eq (show _ = γ 6 from rfl)).trans ?_
    rfl
  exact zGoo_ato hJ hD
theorem vn75a0_75 {S : Nat → zSpc} (hS57 : ∀ x g o v gz, S 57 x g o v gz → sn57 x g o v gz) (hS73 : ∀ x g o v gz, S 73 x g o v gz → sn73 x g o v gz) {a : List Int} {g : rHp} : ∀ (ρ : Nat → Int) (γ : Nat → rHp), jn75 a g 0 (zAg (zNA a75_ 0) ρ) (γ 1) → zO 15 S a g q75a0_75 ρ γ → zGl (fun i vs g1 => jn75 a g i vs g1) (sn75 a g) q75a0_75 ρ γ := by
  intro ρ γ hJ h
  obtain ⟨ha, hg, hr, hf, hm, hc, hl⟩ := h
  have ha : a = [ρ 0, ρ 1, ρ 2, ρ 3, ρ 4, ρ 5, ρ 6, ρ 7, ρ 8, ρ 9, ρ 10, ρ 11, ρ 12, ρ 13, ρ 14] := ha
  subst ha
  subst hg
  have hJ : jn75 [ρ 0, ρ 1, ρ 2, ρ 3, ρ 4, ρ 5, ρ 6, ρ 7, ρ 8, ρ 9, ρ 10, ρ 11, ρ 12, ρ 13, ρ 14] (γ 0) 0 [ρ 0, ρ 1, ρ 2, ρ 3, ρ 4, ρ 5, ρ 6, ρ 7, ρ 8, ρ 9, ρ 10, ρ 11, ρ 12, ρ 13, ρ 14, ρ 15, ρ 16, ρ 17, ρ 18, ρ 19] (γ 1) := hJ
  obtain ⟨r0, r1, r2, r3, r4, r5, r6, r7, r8, r9, r10, r11, r12, r13, r14, r15, r16, r17, r18, r19, r20, r21, r22, r23, r24, r25, r26, r27, r28, r29, r30, r31, r32, r33, r34, r35, r36, r37, -⟩ := hr
  have r0 : (0 : Int) ≤ ρ 0 ∧ ρ 0 ≤ 59 := r0
  have r1 : (0 : Int) ≤ ρ 1 ∧ ρ 1 ≤ 60 := r1
  have r2 : (0 : Int) ≤ ρ 2 ∧ ρ 2 ≤ 20 := r2
  have r3 : (3 : Int) ≤ ρ 3 ∧ ρ 3 ≤ 4 := r3
  have r4 : (0 : Int) ≤ ρ 4 ∧ ρ 4 ≤ 50001 := r4
  have r5 : (0 : Int) ≤ ρ 5 ∧ ρ 5 ≤ 3 := r5
  have r6 : (0 : Int) ≤ ρ 6 ∧ ρ 6 ≤ 2000 := r6
  have r7 : (0 : Int) ≤ ρ 7 ∧ ρ 7 ≤ 19 := r7
  have r8 : (0 : Int) ≤ ρ 8 ∧ ρ 8 ≤ 61 := r8
  have r9 : (0 : Int) ≤ ρ 9 ∧ ρ 9 ≤ 2000 := r9
  have r10 : ((-2147483648) : Int) ≤ ρ 10 ∧ ρ 10 ≤ 2147483647 := r10
  have r11 : (0 : Int) ≤ ρ 11 ∧ ρ 11 ≤ 2000 := r11
  have r12 : (0 : Int) ≤ ρ 12 ∧ ρ 12 ≤ 2000 := r12
  have r13 : (0 : Int) ≤ ρ 13 ∧ ρ 13 ≤ 2000 := r13
  have r14 : (0 : Int) ≤ ρ 14 ∧ ρ 14 ≤ 50001 := r14
  have r15 : (0 : Int) ≤ ρ 15 ∧ ρ 15 ≤ 2000 := r15
  have r16 : (0 : Int) ≤ ρ 16 ∧ ρ 16 ≤ 50001 := r16
  have r17 : (0 : Int) ≤ ρ 17 ∧ ρ 17 ≤ 0 := r17
  have r18 : (0 : Int) ≤ ρ 18 ∧ ρ 18 ≤ 2000 := r18
  have r19 : (0 : Int) ≤ ρ 19 ∧ ρ 19 ≤ 2000 := r19
  have r20 : (1 : Int) ≤ ρ 20 ∧ ρ 20 ≤ 1 := r20
  have r21 : ((-2147483648) : Int) ≤ ρ 21 ∧ ρ 21 ≤ 1099511640064 := r21
  have r22 : (4 : Int) ≤ ρ 22 ∧ ρ 22 ≤ 4 := r22
  have r23 : (0 : Int) ≤ ρ 23 ∧ ρ 23 ≤ 2 := r23
  have r24 : ((-2147483648) : Int) ≤ ρ 24 ∧ ρ 24 ≤ 1099511640064 := r24
  have r25 : (3 : Int) ≤ ρ 25 ∧ ρ 25 ≤ 3 := r25
  have r26 : (0 : Int) ≤ ρ 26 ∧ ρ 26 ≤ 2 := r26
  have r27 : ((-2147483648) : Int) ≤ ρ 27 ∧ ρ 27 ≤ 1099511640064 := r27
  have r28 : (0 : Int) ≤ ρ 28 ∧ ρ 28 ≤ 2 := r28
  have r29 : ((-2147483648) : Int) ≤ ρ 29 ∧ ρ 29 ≤ 1099511640064 := r29
  have r30 : (0 : Int) ≤ ρ 30 ∧ ρ 30 ≤ 8 := r30
  have r31 : ((-1) : Int) ≤ ρ 31 ∧ ρ 31 ≤ 1999 := r31
  have r32 : (0 : Int) ≤ ρ 32 ∧ ρ 32 ≤ 1999 := r32
  have r33 : (1 : Int) ≤ ρ 33 ∧ ρ 33 ≤ 2000 := r33
  have r34 : (0 : Int) ≤ ρ 34 ∧ ρ 34 ≤ 8 := r34
  have r35 : ((-1) : Int) ≤ ρ 35 ∧ ρ 35 ≤ 1999 := r35
  have r36 : (0 : Int) ≤ ρ 36 ∧ ρ 36 ≤ 1999 := r36
  have r37 : (0 : Int) ≤ ρ 37 ∧ ρ 37 ≤ 3 := r37
  obtain ⟨f0, f1, f2, f3, f4, f5, f6, f7, f8, f9, -⟩ := hf
  have f0 : (0 : Int) ≤ -ρ 7 + ρ 2 + (-1) := f0
  have f1 : (0 : Int) ≤ ρ 33 + -ρ 19 := f1
  have f2 : (0 : Int) ≤ ρ 35 + -ρ 31 := f2
  have f3 : (0 : Int) ≤ ρ 18 + -ρ 15 + (-1) := f3
  have f4 : (0 : Int) ≤ ρ 17 + -ρ 16 + 50000 := f4
  have f5 : (0 : Int) ≤ ρ 1 + -ρ 0 + (-1) := f5
  have f6 : (0 : Int) ≤ ρ 19 + -ρ 9 := f6
  have f7 : (0 : Int) ≤ ρ 18 + -ρ 15 := f7
  have f8 : (0 : Int) ≤ ρ 17 + -ρ 5 := f8
  have f9 : (0 : Int) ≤ ρ 16 + -ρ 4 := f9
  obtain ⟨m0, m1, m2, m3, m4, m5, m6, m7, m8, m9, m10, m11, m12, m13, m14, m15, m16, m17, m18, m19, m20, m21, m22, m23, m24, m25, m26, m27, m28, m29, m30, m31, m32, m33, m34, m35, m36, -⟩ := hm
  have m0 : γ 0 15 0 32 = ρ 1 := m0
  have m1 : γ 0 15 0 13 = ρ 2 := m1
  have m2 : γ 0 71 0 (ρ 0) = ρ 3 := m2
  have m3 : γ 0 15 0 72 = ρ 4 := m3
  have m4 : γ 0 15 0 77 = ρ 5 := m4
  have m5 : γ 0 15 0 90 = ρ 6 := m5
  have m6 : γ 0 69 0 (ρ 0) = ρ 7 := m6
  have m7 : γ 0 15 0 44 = ρ 8 := m7
  have m8 : γ 0 15 0 71 = ρ 9 := m8
  have m9 : γ 0 15 0 76 = ρ 10 := m9
  have m10 : γ 0 15 0 81 = ρ 11 := m10
  have m11 : γ 0 15 0 82 = ρ 12 := m11
  have m12 : γ 0 15 0 83 = ρ 13 := m12
  have m13 : γ 0 15 0 94 = ρ 14 := m13
  have m14 : γ 1 15 0 72 = ρ 16 := m14
  have m15 : γ 1 15 0 77 = ρ 17 := m15
  have m16 : γ 1 15 0 90 = ρ 18 := m16
  have m17 : γ 1 15 0 71 = ρ 19 := m17
  have m18 : γ 1 15 0 81 = ρ 9 := m18
  have m19 : γ 1 109 0 (ρ 15) = ρ 20 := m19
  have m20 : γ 1 108 0 (ρ 15) = ρ 21 := m20
  have m21 : γ 0 66 0 (ρ 7) = ρ 22 := m21
  have m22 : γ 0 70 0 (4 * ρ 0) = ρ 23 := m22
  have m23 : γ 1 105 0 (4 * ρ 15) = ρ 24 := m23
  have m24 : γ 0 70 0 (4 * ρ 0 + 1) = ρ 25 := m24
  have m25 : γ 0 70 0 (4 * ρ 0 + 2) = ρ 26 := m25
  have m26 : γ 1 105 0 (4 * ρ 15 + 2) = ρ 27 := m26
  have m27 : γ 0 70 0 (4 * ρ 0 + 3) = ρ 28 := m27
  have m28 : γ 1 105 0 (4 * ρ 15 + 3) = ρ 29 := m28
  have m29 : γ 1 97 0 (ρ 19) = ρ 30 := m29
  have m30 : γ 1 100 0 (ρ 7) = ρ 31 := m30
  have m31 : γ 1 101 0 (ρ 7) = ρ 32 := m31
  have m32 : γ 6 15 0 71 = ρ 33 := m32
  have m33 : γ 6 97 0 (ρ 19) = ρ 34 := m33
  have m34 : γ 6 100 0 (ρ 7) = ρ 35 := m34
  have m35 : γ 6 101 0 (ρ 7) = ρ 36 := m35
  have m36 : γ 6 15 0 77 = ρ 37 := m36
  obtain ⟨⟨⟨⟨⟨⟨-, c1⟩, c2⟩, c3⟩, c4⟩, c5⟩, c6⟩ := hc
  have c1 : ∀ (G : Nat) (k j : Int), ¬ rMdP m51_ G j → γ 1 G k j = γ 0 G k j := c1
  have c2 : γ 2 = rUp (γ 1) 102 0 0 (ρ 24) := c2
  have c3 : γ 3 = rUp (γ 2) 102 0 1 (ρ 21) := c3
  have c4 : γ 4 = rUp (γ 3) 102 0 2 (ρ 27) := c4
  have c5 : γ 5 = rUp (γ 4) 102 0 3 (ρ 29) := c5
  have c6 : ∀ (G : Nat) (k j : Int), ¬ rMdP m40_ G j → γ 6 G k j = γ 5 G k j := c6
  obtain ⟨l0, -⟩ := hl
  have l0 : sn57 [ρ 7, ρ 0, ρ 2, ρ 19, ρ 30, ρ 31, ρ 32, ρ 10, ρ 17] (γ 5) 0 0 (γ 6) := hS57 _ _ _ _ _ l0
  show jn75 [ρ 0, ρ 1, ρ 2, ρ 3, ρ 4, ρ 5, ρ 6, ρ 7, ρ 8, ρ 9, ρ 10, ρ 11, ρ 12, ρ 13, ρ 14] (γ 0) 0 [ρ 0, ρ 1, ρ 2, ρ 3, ρ 4, ρ 5, ρ 6, ρ 7, ρ 8, ρ 9, ρ 10, ρ 11, ρ 12, ρ 13, ρ 14, ρ 15 + 1, ρ 16, ρ 37, ρ 18, ρ 33] (γ 6)
  have hD : en75 (γ 0) (0, [ρ 0, ρ 15], γ 1) = .inl (0, [ρ 0, ρ 15 + 1], γ 6) := by
    unfold en75
    refine (if_pos (show (0 : Nat) = 0 by decide)).trans ?_
    refine (zLet_eq (show _ = γ 1 from rfl)).trans ?_
    refine (zLet_eq (show _ = ρ 0 from rfl)).trans ?_
    refine (zLet_eq (show _ = ρ 15 from rfl)).trans ?_
    refine (zLet_eq m2).trans ?_
    refine (zLet_eq m6).trans ?_
    refine (zLet_eq m15).trans ?_
    refine (zLet_eq m16).trans ?_
    refine (if_neg (show ¬ (ρ 15 ≥ ρ 18) by omega)).trans ?_
    refine (if_neg (show ¬ (ρ 17 ≠ 0) by omega)).trans ?_
    refine (if_neg (show ¬ (ρ 3 ≤ 2) by omega)).trans ?_
    refine (zLet_eq m19).trans ?_
    refine (if_pos (show ρ 20 ≠ 0 by omega)).trans ?_
    refine (zLet_eq m20).trans ?_
    refine (zLet_eq m21).trans ?_
    refine (if_neg (show ¬ (0 ≥ ρ 22) by omega)).trans ?_
    refine (zLet_eq m22).trans ?_
    refine (if_pos (show ρ 23 ≠ 3 by omega)).trans ?_
    refine (zLet_eq m23).trans ?_
    refine (zLet_eq c2.symm).trans ?_
    refine (if_neg (show ¬ (1 ≥ ρ 22) by omega)).trans ?_
    refine (zLet_eq m24).trans ?_
    refine (if_neg (show ¬ (ρ 25 ≠ 3) by omega)).trans ?_
    refine (zLet_eq c3.symm).trans ?_
    refine (if_neg (show ¬ (2 ≥ ρ 22) by omega)).trans ?_
    refine (zLet_eq m25).trans ?_
    refine (if_pos (show ρ 26 ≠ 3 by omega)).trans ?_
    refine (zLet_eq m26).trans ?_
    refine (zLet_eq c4.symm).trans ?_
    refine (if_neg (show ¬ (3 ≥ ρ 22) by omega)).trans ?_
    refine (zLet_eq m27).trans ?_
    refine (if_pos (show ρ 28 ≠ 3 by omega)).trans ?_
    refine (zLet_eq m28).trans ?_
    refine (zLet_eq c5.symm).trans ?_
    refine (zLet_eq (show fn57 [ρ 7, ρ 0] (γ 5) = (0, 0, γ 6) from l0.symm)).trans ?_
    refine (zLet_eq (show _ = γ 6 from rfl)).trans ?_
    rfl
  exact zGoo_ato hJ hD
theorem vn75a0_76 {S : Nat → zSpc} (hS57 : ∀ x g o v gz, S 57 x g o v gz → sn57 x g o v gz) (hS73 : ∀ x g o v gz, S 73 x g o v gz → sn73 x g o v gz) {a : List Int} {g : rHp} : ∀ (ρ : Nat → Int) (γ : Nat → rHp), jn75 a g 0 (zAg (zNA a75_ 0) ρ) (γ 1) → zO 15 S a g q75a0_76 ρ γ → zGl (fun i vs g1 => jn75 a g i vs g1) (sn75 a g) q75a0_76 ρ γ := by
  intro ρ γ hJ h
  obtain ⟨ha, hg, hr, hf, hm, hc, hl⟩ := h
  have ha : a = [ρ 0, ρ 1, ρ 2, ρ 3, ρ 4, ρ 5, ρ 6, ρ 7, ρ 8, ρ 9, ρ 10, ρ 11, ρ 12, ρ 13, ρ 14] := ha
  subst ha
  subst hg
  have hJ : jn75 [ρ 0, ρ 1, ρ 2, ρ 3, ρ 4, ρ 5, ρ 6, ρ 7, ρ 8, ρ 9, ρ 10, ρ 11, ρ 12, ρ 13, ρ 14] (γ 0) 0 [ρ 0, ρ 1, ρ 2, ρ 3, ρ 4, ρ 5, ρ 6, ρ 7, ρ 8, ρ 9, ρ 10, ρ 11, ρ 12, ρ 13, ρ 14, ρ 15, ρ 16, ρ 17, ρ 18, ρ 19] (γ 1) := hJ
  obtain ⟨r0, r1, r2, r3, r4, r5, r6, r7, r8, r9, r10, r11, r12, r13, r14, r15, r16, r17, r18, r19, r20, r21, r22, r23, r24, r25, r26, r27, r28, r29, r30, r31, r32, r33, r34, r35, r36, -⟩ := hr
  have r0 : (0 : Int) ≤ ρ 0 ∧ ρ 0 ≤ 59 := r0
  have r1 : (0 : Int) ≤ ρ 1 ∧ ρ 1 ≤ 60 := r1
  have r2 : (0 : Int) ≤ ρ 2 ∧ ρ 2 ≤ 20 := r2
  have r3 : (3 : Int) ≤ ρ 3 ∧ ρ 3 ≤ 4 := r3
  have r4 : (0 : Int) ≤ ρ 4 ∧ ρ 4 ≤ 50001 := r4
  have r5 : (0 : Int) ≤ ρ 5 ∧ ρ 5 ≤ 3 := r5
  have r6 : (0 : Int) ≤ ρ 6 ∧ ρ 6 ≤ 2000 := r6
  have r7 : (0 : Int) ≤ ρ 7 ∧ ρ 7 ≤ 19 := r7
  have r8 : (0 : Int) ≤ ρ 8 ∧ ρ 8 ≤ 61 := r8
  have r9 : (0 : Int) ≤ ρ 9 ∧ ρ 9 ≤ 2000 := r9
  have r10 : ((-2147483648) : Int) ≤ ρ 10 ∧ ρ 10 ≤ 2147483647 := r10
  have r11 : (0 : Int) ≤ ρ 11 ∧ ρ 11 ≤ 2000 := r11
  have r12 : (0 : Int) ≤ ρ 12 ∧ ρ 12 ≤ 2000 := r12
  have r13 : (0 : Int) ≤ ρ 13 ∧ ρ 13 ≤ 2000 := r13
  have r14 : (0 : Int) ≤ ρ 14 ∧ ρ 14 ≤ 50001 := r14
  have r15 : (0 : Int) ≤ ρ 15 ∧ ρ 15 ≤ 2000 := r15
  have r16 : (0 : Int) ≤ ρ 16 ∧ ρ 16 ≤ 50001 := r16
  have r17 : (0 : Int) ≤ ρ 17 ∧ ρ 17 ≤ 0 := r17
  have r18 : (0 : Int) ≤ ρ 18 ∧ ρ 18 ≤ 2000 := r18
  have r19 : (0 : Int) ≤ ρ 19 ∧ ρ 19 ≤ 2000 := r19
  have r20 : (1 : Int) ≤ ρ 20 ∧ ρ 20 ≤ 1 := r20
  have r21 : ((-2147483648) : Int) ≤ ρ 21 ∧ ρ 21 ≤ 1099511640064 := r21
  have r22 : (4 : Int) ≤ ρ 22 ∧ ρ 22 ≤ 4 := r22
  have r23 : (0 : Int) ≤ ρ 23 ∧ ρ 23 ≤ 2 := r23
  have r24 : ((-2147483648) : Int) ≤ ρ 24 ∧ ρ 24 ≤ 1099511640064 := r24
  have r25 : (3 : Int) ≤ ρ 25 ∧ ρ 25 ≤ 3 := r25
  have r26 : (0 : Int) ≤ ρ 26 ∧ ρ 26 ≤ 2 := r26
  have r27 : ((-2147483648) : Int) ≤ ρ 27 ∧ ρ 27 ≤ 1099511640064 := r27
  have r28 : (3 : Int) ≤ ρ 28 ∧ ρ 28 ≤ 3 := r28
  have r29 : (0 : Int) ≤ ρ 29 ∧ ρ 29 ≤ 8 := r29
  have r30 : ((-1) : Int) ≤ ρ 30 ∧ ρ 30 ≤ 1999 := r30
  have r31 : (0 : Int) ≤ ρ 31 ∧ ρ 31 ≤ 1999 := r31
  have r32 : (1 : Int) ≤ ρ 32 ∧ ρ 32 ≤ 2000 := r32
  have r33 : (0 : Int) ≤ ρ 33 ∧ ρ 33 ≤ 8 := r33
  have r34 : ((-1) : Int) ≤ ρ 34 ∧ ρ 34 ≤ 1999 := r34
  have r35 : (0 : Int) ≤ ρ 35 ∧ ρ 35 ≤ 1999 := r35
  have r36 : (0 : Int) ≤ ρ 36 ∧ ρ 36 ≤ 3 := r36
  obtain ⟨f0, f1, f2, f3, f4, f5, f6, f7, f8, f9, -⟩ := hf
  have f0 : (0 : Int) ≤ -ρ 7 + ρ 2 + (-1) := f0
  have f1 : (0 : Int) ≤ ρ 32 + -ρ 19 := f1
  have f2 : (0 : Int) ≤ ρ 34 + -ρ 30 := f2
  have f3 : (0 : Int) ≤ ρ 18 + -ρ 15 + (-1) := f3
  have f4 : (0 : Int) ≤ ρ 17 + -ρ 16 + 50000 := f4
  have f5 : (0 : Int) ≤ ρ 1 + -ρ 0 + (-1) := f5
  have f6 : (0 : Int) ≤ ρ 19 + -ρ 9 := f6
  have f7 : (0 : Int) ≤ ρ 18 + -ρ 15 := f7
  have f8 : (0 : Int) ≤ ρ 17 + -ρ 5 := f8
  have f9 : (0 : Int) ≤ ρ 16 + -ρ 4 := f9
  obtain ⟨m0, m1, m2, m3, m4, m5, m6, m7, m8, m9, m10, m11, m12, m13, m14, m15, m16, m17, m18, m19, m20, m21, m22, m23, m24, m25, m26, m27, m28, m29, m30, m31, m32, m33, m34, m35, -⟩ := hm
  have m0 : γ 0 15 0 32 = ρ 1 := m0
  have m1 : γ 0 15 0 13 = ρ 2 := m1
  have m2 : γ 0 71 0 (ρ 0) = ρ 3 := m2
  have m3 : γ 0 15 0 72 = ρ 4 := m3
  have m4 : γ 0 15 0 77 = ρ 5 := m4
  have m5 : γ 0 15 0 90 = ρ 6 := m5
  have m6 : γ 0 69 0 (ρ 0) = ρ 7 := m6
  have m7 : γ 0 15 0 44 = ρ 8 := m7
  have m8 : γ 0 15 0 71 = ρ 9 := m8
  have m9 : γ 0 15 0 76 = ρ 10 := m9
  have m10 : γ 0 15 0 81 = ρ 11 := m10
  have m11 : γ 0 15 0 82 = ρ 12 := m11
  have m12 : γ 0 15 0 83 = ρ 13 := m12
  have m13 : γ 0 15 0 94 = ρ 14 := m13
  have m14 : γ 1 15 0 72 = ρ 16 := m14
  have m15 : γ 1 15 0 77 = ρ 17 := m15
  have m16 : γ 1 15 0 90 = ρ 18 := m16
  have m17 : γ 1 15 0 71 = ρ 19 := m17
  have m18 : γ 1 15 0 81 = ρ 9 := m18
  have m19 : γ 1 109 0 (ρ 15) = ρ 20 := m19
  have m20 : γ 1 108 0 (ρ 15) = ρ 21 := m20
  have m21 : γ 0 66 0 (ρ 7) = ρ 22 := m21
  have m22 : γ 0 70 0 (4 * ρ 0) = ρ 23 := m22
  have m23 : γ 1 105 0 (4 * ρ 15) = ρ 24 := m23
  have m24 : γ 0 70 0 (4 * ρ 0 + 1) = ρ 25 := m24
  have m25 : γ 0 70 0 (4 * ρ 0 + 2) = ρ 26 := m25
  have m26 : γ 1 105 0 (4 * ρ 15 + 2) = ρ 27 := m26
  have m27 : γ 0 70 0 (4 * ρ 0 + 3) = ρ 28 := m27
  have m28 : γ 1 97 0 (ρ 19) = ρ 29 := m28
  have m29 : γ 1 100 0 (ρ 7) = ρ 30 := m29
  have m30 : γ 1 101 0 (ρ 7) = ρ 31 := m30
  have m31 : γ 6 15 0 71 = ρ 32 := m31
  have m32 : γ 6 97 0 (ρ 19) = ρ 33 := m32
  have m33 : γ 6 100 0 (ρ 7) = ρ 34 := m33
  have m34 : γ 6 101 0 (ρ 7) = ρ 35 := m34
  have m35 : γ 6 15 0 77 = ρ 36 := m35
  obtain ⟨⟨⟨⟨⟨⟨-, c1⟩, c2⟩, c3⟩, c4⟩, c5⟩, c6⟩ := hc
  have c1 : ∀ (G : Nat) (k j : Int), ¬ rMdP m51_ G j → γ 1 G k j = γ 0 G k j := c1
  have c2 : γ 2 = rUp (γ 1) 102 0 0 (ρ 24) := c2
  have c3 : γ 3 = rUp (γ 2) 102 0 1 (ρ 21) := c3
  have c4 : γ 4 = rUp (γ 3) 102 0 2 (ρ 27) := c4
  have c5 : γ 5 = rUp (γ 4) 102 0 3 (ρ 21) := c5
  have c6 : ∀ (G : Nat) (k j : Int), ¬ rMdP m40_ G j → γ 6 G k j = γ 5 G k j := c6
  obtain ⟨l0, -⟩ := hl
  have l0 : sn57 [ρ 7, ρ 0, ρ 2, ρ 19, ρ 29, ρ 30, ρ 31, ρ 10, ρ 17] (γ 5) 0 0 (γ 6) := hS57 _ _ _ _ _ l0
  show jn75 [ρ 0, ρ 1, ρ 2, ρ 3, ρ 4, ρ 5, ρ 6, ρ 7, ρ 8, ρ 9, ρ 10, ρ 11, ρ 12, ρ 13, ρ 14] (γ 0) 0 [ρ 0, ρ 1, ρ 2, ρ 3, ρ 4, ρ 5, ρ 6, ρ 7, ρ 8, ρ 9, ρ 10, ρ 11, ρ 12, ρ 13, ρ 14, ρ 15 + 1, ρ 16, ρ 36, ρ 18, ρ 32] (γ 6)
  have hD : en75 (γ 0) (0, [ρ 0, ρ 15], γ 1) = .inl (0, [ρ 0, ρ 15 + 1], γ 6) := by
    unfold en75
    refine (if_pos (show (0 : Nat) = 0 by decide)).trans ?_
    refine (zLet_eq (show _ = γ 1 from rfl)).trans ?_
    refine (zLet_eq (show _ = ρ 0 from rfl)).trans ?_
    refine (zLet_eq (show _ = ρ 15 from rfl)).trans ?_
    refine (zLet_eq m2).trans ?_
    refine (zLet_eq m6).trans ?_
    refine (zLet_eq m15).trans ?_
    refine (zLet_eq m16).trans ?_
    refine (if_neg (show ¬ (ρ 15 ≥ ρ 18) by omega)).trans ?_
    refine (if_neg (show ¬ (ρ 17 ≠ 0) by omega)).trans ?_
    refine (if_neg (show ¬ (ρ 3 ≤ 2) by omega)).trans ?_
    refine (zLet_eq m19).trans ?_
    refine (if_pos (show ρ 20 ≠ 0 by omega)).trans ?_
    refine (zLet_eq m20).trans ?_
    refine (zLet_eq m21).trans ?_
    refine (if_neg (show ¬ (0 ≥ ρ 22) by omega)).trans ?_
    refine (zLet_eq m22).trans ?_
    refine (if_pos (show ρ 23 ≠ 3 by omega)).trans ?_
    refine (zLet_eq m23).trans ?_
    refine (zLet_eq c2.symm).trans ?_
    refine (if_neg (show ¬ (1 ≥ ρ 22) by omega)).trans ?_
    refine (zLet_eq m24).trans ?_
    refine (if_neg (show ¬ (ρ 25 ≠ 3) by omega)).trans ?_
    refine (zLet_eq c3.symm).trans ?_
    refine (if_neg (show ¬ (2 ≥ ρ 22) by omega)).trans ?_
    refine (zLet_eq m25).trans ?_
    refine (if_pos (show ρ 26 ≠ 3 by omega)).trans ?_
    refine (zLet_eq m26).trans ?_
    refine (zLet_eq c4.symm).trans ?_
    refine (if_neg (show ¬ (3 ≥ ρ 22) by omega)).trans ?_
    refine (zLet_eq m27).trans ?_
    refine (if_neg (show ¬ (ρ 28 ≠ 3) by omega)).trans ?_
    refine (zLet_eq c5.symm).trans ?_
    refine (zLet_eq (show fn57 [ρ 7, ρ 0] (γ 5) = (0, 0, γ 6) from l0.symm)).trans ?_
    refine (zLet_eq (show _ = γ 6 from rfl)).trans ?_
    rfl
  exact zGoo_ato hJ hD
theorem vn75a0_77 {S : Nat → zSpc} (hS57 : ∀ x g o v gz, S 57 x g o v gz → sn57 x g o v gz) (hS73 : ∀ x g o v gz, S 73 x g o v gz → sn73 x g o v gz) {a : List Int} {g : rHp} : ∀ (ρ : Nat → Int) (γ : Nat → rHp), jn75 a g 0 (zAg (zNA a75_ 0) ρ) (γ 1) → zO 15 S a g q75a0_77 ρ γ → zGl (fun i vs g1 => jn75 a g i vs g1) (sn75 a g) q75a0_77 ρ γ := by
  intro ρ γ hJ h
  obtain ⟨ha, hg, hr, hf, hm, hc, hl⟩ := h
  have ha : a = [ρ 0, ρ 1, ρ 2, ρ 3, ρ 4, ρ 5, ρ 6, ρ 7, ρ 8, ρ 9, ρ 10, ρ 11, ρ 12, ρ 13, ρ 14] := ha
  subst ha
  subst hg
  have hJ : jn75 [ρ 0, ρ 1, ρ 2, ρ 3, ρ 4, ρ 5, ρ 6, ρ 7, ρ 8, ρ 9, ρ 10, ρ 11, ρ 12, ρ 13, ρ 14] (γ 0) 0 [ρ 0, ρ 1, ρ 2, ρ 3, ρ 4, ρ 5, ρ 6, ρ 7, ρ 8, ρ 9, ρ 10, ρ 11, ρ 12, ρ 13, ρ 14, ρ 15, ρ 16, ρ 17, ρ 18, ρ 19] (γ 1) := hJ
  obtain ⟨r0, r1, r2, r3, r4, r5, r6, r7, r8, r9, r10, r11, r12, r13, r14, r15, r16, r17, r18, r19, r20, r21, r22, r23, r24, r25, r26, r27, r28, r29, r30, r31, r32, r33, r34, r35, -⟩ := hr
  have r0 : (0 : Int) ≤ ρ 0 ∧ ρ 0 ≤ 59 := r0
  have r1 : (0 : Int) ≤ ρ 1 ∧ ρ 1 ≤ 60 := r1
  have r2 : (0 : Int) ≤ ρ 2 ∧ ρ 2 ≤ 20 := r2
  have r3 : (3 : Int) ≤ ρ 3 ∧ ρ 3 ≤ 4 := r3
  have r4 : (0 : Int) ≤ ρ 4 ∧ ρ 4 ≤ 50001 := r4
  have r5 : (0 : Int) ≤ ρ 5 ∧ ρ 5 ≤ 3 := r5
  have r6 : (0 : Int) ≤ ρ 6 ∧ ρ 6 ≤ 2000 := r6
  have r7 : (0 : Int) ≤ ρ 7 ∧ ρ 7 ≤ 19 := r7
  have r8 : (0 : Int) ≤ ρ 8 ∧ ρ 8 ≤ 61 := r8
  have r9 : (0 : Int) ≤ ρ 9 ∧ ρ 9 ≤ 2000 := r9
  have r10 : ((-2147483648) : Int) ≤ ρ 10 ∧ ρ 10 ≤ 2147483647 := r10
  have r11 : (0 : Int) ≤ ρ 11 ∧ ρ 11 ≤ 2000 := r11
  have r12 : (0 : Int) ≤ ρ 12 ∧ ρ 12 ≤ 2000 := r12
  have r13 : (0 : Int) ≤ ρ 13 ∧ ρ 13 ≤ 2000 := r13
  have r14 : (0 : Int) ≤ ρ 14 ∧ ρ 14 ≤ 50001 := r14
  have r15 : (0 : Int) ≤ ρ 15 ∧ ρ 15 ≤ 2000 := r15
  have r16 : (0 : Int) ≤ ρ 16 ∧ ρ 16 ≤ 50001 := r16
  have r17 : (0 : Int) ≤ ρ 17 ∧ ρ 17 ≤ 0 := r17
  have r18 : (0 : Int) ≤ ρ 18 ∧ ρ 18 ≤ 2000 := r18
  have r19 : (0 : Int) ≤ ρ 19 ∧ ρ 19 ≤ 2000 := r19
  have r20 : (1 : Int) ≤ ρ 20 ∧ ρ 20 ≤ 1 := r20
  have r21 : ((-2147483648) : Int) ≤ ρ 21 ∧ ρ 21 ≤ 1099511640064 := r21
  have r22 : (3 : Int) ≤ ρ 22 ∧ ρ 22 ≤ 3 := r22
  have r23 : (0 : Int) ≤ ρ 23 ∧ ρ 23 ≤ 2 := r23
  have r24 : ((-2147483648) : Int) ≤ ρ 24 ∧ ρ 24 ≤ 1099511640064 := r24
  have r25 : (3 : Int) ≤ ρ 25 ∧ ρ 25 ≤ 3 := r25
  have r26 : (3 : Int) ≤ ρ 26 ∧ ρ 26 ≤ 3 := r26
  have r27 : ((-2147483648) : Int) ≤ ρ 27 ∧ ρ 27 ≤ 1099511640064 := r27
  have r28 : (0 : Int) ≤ ρ 28 ∧ ρ 28 ≤ 8 := r28
  have r29 : ((-1) : Int) ≤ ρ 29 ∧ ρ 29 ≤ 1999 := r29
  have r30 : (0 : Int) ≤ ρ 30 ∧ ρ 30 ≤ 1999 := r30
  have r31 : (1 : Int) ≤ ρ 31 ∧ ρ 31 ≤ 2000 := r31
  have r32 : (0 : Int) ≤ ρ 32 ∧ ρ 32 ≤ 8 := r32
  have r33 : ((-1) : Int) ≤ ρ 33 ∧ ρ 33 ≤ 1999 := r33
  have r34 : (0 : Int) ≤ ρ 34 ∧ ρ 34 ≤ 1999 := r34
  have r35 : (0 : Int) ≤ ρ 35 ∧ ρ 35 ≤ 3 := r35
  obtain ⟨f0, f1, f2, f3, f4, f5, f6, f7, f8, f9, -⟩ := hf
  have f0 : (0 : Int) ≤ -ρ 7 + ρ 2 + (-1) := f0
  have f1 : (0 : Int) ≤ ρ 31 + -ρ 19 := f1
  have f2 : (0 : Int) ≤ ρ 33 + -ρ 29 := f2
  have f3 : (0 : Int) ≤ ρ 18 + -ρ 15 + (-1) := f3
  have f4 : (0 : Int) ≤ ρ 17 + -ρ 16 + 50000 := f4
  have f5 : (0 : Int) ≤ ρ 1 + -ρ 0 + (-1) := f5
  have f6 : (0 : Int) ≤ ρ 19 + -ρ 9 := f6
  have f7 : (0 : Int) ≤ ρ 18 + -ρ 15 := f7
  have f8 : (0 : Int) ≤ ρ 17 + -ρ 5 := f8
  have f9 : (0 : Int) ≤ ρ 16 + -ρ 4 := f9
  obtain ⟨m0, m1, m2, m3, m4, m5, m6, m7, m8, m9, m10, m11, m12, m13, m14, m15, m16, m17, m18, m19, m20, m21, m22, m23, m24, m25, m26, m27, m28, m29, m30, m31, m32, m33, m34, -⟩ := hm
  have m0 : γ 0 15 0 32 = ρ 1 := m0
  have m1 : γ 0 15 0 13 = ρ 2 := m1
  have m2 : γ 0 71 0 (ρ 0) = ρ 3 := m2
  have m3 : γ 0 15 0 72 = ρ 4 := m3
  have m4 : γ 0 15 0 77 = ρ 5 := m4
  have m5 : γ 0 15 0 90 = ρ 6 := m5
  have m6 : γ 0 69 0 (ρ 0) = ρ 7 := m6
  have m7 : γ 0 15 0 44 = ρ 8 := m7
  have m8 : γ 0 15 0 71 = ρ 9 := m8
  have m9 : γ 0 15 0 76 = ρ 10 := m9
  have m10 : γ 0 15 0 81 = ρ 11 := m10
  have m11 : γ 0 15 0 82 = ρ 12 := m11
  have m12 : γ 0 15 0 83 = ρ 13 := m12
  have m13 : γ 0 15 0 94 = ρ 14 := m13
  have m14 : γ 1 15 0 72 = ρ 16 := m14
  have m15 : γ 1 15 0 77 = ρ 17 := m15
  have m16 : γ 1 15 0 90 = ρ 18 := m16
  have m17 : γ 1 15 0 71 = ρ 19 := m17
  have m18 : γ 1 15 0 81 = ρ 9 := m18
  have m19 : γ 1 109 0 (ρ 15) = ρ 20 := m19
  have m20 : γ 1 108 0 (ρ 15) = ρ 21 := m20
  have m21 : γ 0 66 0 (ρ 7) = ρ 22 := m21
  have m22 : γ 0 70 0 (4 * ρ 0) = ρ 23 := m22
  have m23 : γ 1 105 0 (4 * ρ 15) = ρ 24 := m23
  have m24 : γ 0 70 0 (4 * ρ 0 + 1) = ρ 25 := m24
  have m25 : γ 0 70 0 (4 * ρ 0 + 2) = ρ 26 := m25
  have m26 : γ 1 105 0 (4 * ρ 15 + 3) = ρ 27 := m26
  have m27 : γ 1 97 0 (ρ 19) = ρ 28 := m27
  have m28 : γ 1 100 0 (ρ 7) = ρ 29 := m28
  have m29 : γ 1 101 0 (ρ 7) = ρ 30 := m29
  have m30 : γ 6 15 0 71 = ρ 31 := m30
  have m31 : γ 6 97 0 (ρ 19) = ρ 32 := m31
  have m32 : γ 6 100 0 (ρ 7) = ρ 33 := m32
  have m33 : γ 6 101 0 (ρ 7) = ρ 34 := m33
  have m34 : γ 6 15 0 77 = ρ 35 := m34
  obtain ⟨⟨⟨⟨⟨⟨-, c1⟩, c2⟩, c3⟩, c4⟩, c5⟩, c6⟩ := hc
  have c1 : ∀ (G : Nat) (k j : Int), ¬ rMdP m51_ G j → γ 1 G k j = γ 0 G k j := c1
  have c2 : γ 2 = rUp (γ 1) 102 0 0 (ρ 24) := c2
  have c3 : γ 3 = rUp (γ 2) 102 0 1 (ρ 21) := c3
  have c4 : γ 4 = rUp (γ 3) 102 0 2 (ρ 21) := c4
  have c5 : γ 5 = rUp (γ 4) 102 0 3 (ρ 27) := c5
  have c6 : ∀ (G : Nat) (k j : Int), ¬ rMdP m40_ G j → γ 6 G k j = γ 5 G k j := c6
  obtain ⟨l0, -⟩ := hl
  have l0 : sn57 [ρ 7, ρ 0, ρ 2, ρ 19, ρ 28, ρ 29, ρ 30, ρ 10, ρ 17] (γ 5) 0 0 (γ 6) := hS57 _ _ _ _ _ l0
  show jn75 [ρ 0, ρ 1, ρ 2, ρ 3, ρ 4, ρ 5, ρ 6, ρ 7, ρ 8, ρ 9, ρ 10, ρ 11, ρ 12, ρ 13, ρ 14] (γ 0) 0 [ρ 0, ρ 1, ρ 2, ρ 3, ρ 4, ρ 5, ρ 6, ρ 7, ρ 8, ρ 9, ρ 10, ρ 11, ρ 12, ρ 13, ρ 14, ρ 15 + 1, ρ 16, ρ 35, ρ 18, ρ 31] (γ 6)
  have hD : en75 (γ 0) (0, [ρ 0, ρ 15], γ 1) = .inl (0, [ρ 0, ρ 15 + 1], γ 6) := by
    unfold en75
    refine (if_pos (show (0 : Nat) = 0 by decide)).trans ?_
    refine (zLet_eq (show _ = γ 1 from rfl)).trans ?_
    refine (zLet_eq (show _ = ρ 0 from rfl)).trans ?_
    refine (zLet_eq (show _ = ρ 15 from rfl)).trans ?_
    refine (zLet_eq m2).trans ?_
    refine (zLet_eq m6).trans ?_
    refine (zLet_eq m15).trans ?_
    refine (zLet_eq m16).trans ?_
    refine (if_neg (show ¬ (ρ 15 ≥ ρ 18) by omega)).trans ?_
    refine (if_neg (show ¬ (ρ 17 ≠ 0) by omega)).trans ?_
    refine (if_neg (show ¬ (ρ 3 ≤ 2) by omega)).trans ?_
    refine (zLet_eq m19).trans ?_
    refine (if_pos (show ρ 20 ≠ 0 by omega)).trans ?_
    refine (zLet_eq m20).trans ?_
    refine (zLet_eq m21).trans ?_
    refine (if_neg (show ¬ (0 ≥ ρ 22) by omega)).trans ?_
    refine (zLet_eq m22).trans ?_
    refine (if_pos (show ρ 23 ≠ 3 by omega)).trans ?_
    refine (zLet_eq m23).trans ?_
    refine (zLet_eq c2.symm).trans ?_
    refine (if_neg (show ¬ (1 ≥ ρ 22) by omega)).trans ?_
    refine (zLet_eq m24).trans ?_
    refine (if_neg (show ¬ (ρ 25 ≠ 3) by omega)).trans ?_
    refine (zLet_eq c3.symm).trans ?_
    refine (if_neg (show ¬ (2 ≥ ρ 22) by omega)).trans ?_
    refine (zLet_eq m25).trans ?_
    refine (if_neg (show ¬ (ρ 26 ≠ 3) by omega)).trans ?_
    refine (zLet_eq c4.symm).trans ?_
    refine (if_pos (show 3 ≥ ρ 22 by omega)).trans ?_
    refine (zLet_eq m26).trans ?_
    refine (zLet_eq c5.symm).trans ?_
    refine (zLet_eq (show fn57 [ρ 7, ρ 0] (γ 5) = (0, 0, γ 6) from l0.symm)).trans ?_
    refine (zLet_eq (show _ = γ 6 from rfl)).trans ?_
    rfl
  exact zGoo_ato hJ hD
theorem vn75a0_78 {S : Nat → zSpc} (hS57 : ∀ x g o v gz, S 57 x g o v gz → sn57 x g o v gz) (hS73 : ∀ x g o v gz, S 73 x g o v gz → sn73 x g o v gz) {a : List Int} {g : rHp} : ∀ (ρ : Nat → Int) (γ : Nat → rHp), jn75 a g 0 (zAg (zNA a75_ 0) ρ) (γ 1) → zO 15 S a g q75a0_78 ρ γ → zGl (fun i vs g1 => jn75 a g i vs g1) (sn75 a g) q75a0_78 ρ γ := by
  intro ρ γ hJ h
  obtain ⟨ha, hg, hr, hf, hm, hc, hl⟩ := h
  have ha : a = [ρ 0, ρ 1, ρ 2, ρ 3, ρ 4, ρ 5, ρ 6, ρ 7, ρ 8, ρ 9, ρ 10, ρ 11, ρ 12, ρ 13, ρ 14] := ha
  subst ha
  subst hg
  have hJ : jn75 [ρ 0, ρ 1, ρ 2, ρ 3, ρ 4, ρ 5, ρ 6, ρ 7, ρ 8, ρ 9, ρ 10, ρ 11, ρ 12, ρ 13, ρ 14] (γ 0) 0 [ρ 0, ρ 1, ρ 2, ρ 3, ρ 4, ρ 5, ρ 6, ρ 7, ρ 8, ρ 9, ρ 10, ρ 11, ρ 12, ρ 13, ρ 14, ρ 15, ρ 16, ρ 17, ρ 18, ρ 19] (γ 1) := hJ
  obtain ⟨r0, r1, r2, r3, r4, r5, r6, r7, r8, r9, r10, r11, r12, r13, r14, r15, r16, r17, r18, r19, r20, r21, r22, r23, r24, r25, r26, r27, r28, r29, r30, r31, r32, r33, r34, r35, r36, -⟩ := hr
  have r0 : (0 : Int) ≤ ρ 0 ∧ ρ 0 ≤ 59 := r0
  have r1 : (0 : Int) ≤ ρ 1 ∧ ρ 1 ≤ 60 := r1
  have r2 : (0 : Int) ≤ ρ 2 ∧ ρ 2 ≤ 20 := r2
  have r3 : (3 : Int) ≤ ρ 3 ∧ ρ 3 ≤ 4 := r3
  have r4 : (0 : Int) ≤ ρ 4 ∧ ρ 4 ≤ 50001 := r4
  have r5 : (0 : Int) ≤ ρ 5 ∧ ρ 5 ≤ 3 := r5
  have r6 : (0 : Int) ≤ ρ 6 ∧ ρ 6 ≤ 2000 := r6
  have r7 : (0 : Int) ≤ ρ 7 ∧ ρ 7 ≤ 19 := r7
  have r8 : (0 : Int) ≤ ρ 8 ∧ ρ 8 ≤ 61 := r8
  have r9 : (0 : Int) ≤ ρ 9 ∧ ρ 9 ≤ 2000 := r9
  have r10 : ((-2147483648) : Int) ≤ ρ 10 ∧ ρ 10 ≤ 2147483647 := r10
  have r11 : (0 : Int) ≤ ρ 11 ∧ ρ 11 ≤ 2000 := r11
  have r12 : (0 : Int) ≤ ρ 12 ∧ ρ 12 ≤ 2000 := r12
  have r13 : (0 : Int) ≤ ρ 13 ∧ ρ 13 ≤ 2000 := r13
  have r14 : (0 : Int) ≤ ρ 14 ∧ ρ 14 ≤ 50001 := r14
  have r15 : (0 : Int) ≤ ρ 15 ∧ ρ 15 ≤ 2000 := r15
  have r16 : (0 : Int) ≤ ρ 16 ∧ ρ 16 ≤ 50001 := r16
  have r17 : (0 : Int) ≤ ρ 17 ∧ ρ 17 ≤ 0 := r17
  have r18 : (0 : Int) ≤ ρ 18 ∧ ρ 18 ≤ 2000 := r18
  have r19 : (0 : Int) ≤ ρ 19 ∧ ρ 19 ≤ 2000 := r19
  have r20 : (1 : Int) ≤ ρ 20 ∧ ρ 20 ≤ 1 := r20
  have r21 : ((-2147483648) : Int) ≤ ρ 21 ∧ ρ 21 ≤ 1099511640064 := r21
  have r22 : (4 : Int) ≤ ρ 22 ∧ ρ 22 ≤ 4 := r22
  have r23 : (0 : Int) ≤ ρ 23 ∧ ρ 23 ≤ 2 := r23
  have r24 : ((-2147483648) : Int) ≤ ρ 24 ∧ ρ 24 ≤ 1099511640064 := r24
  have r25 : (3 : Int) ≤ ρ 25 ∧ ρ 25 ≤ 3 := r25
  have r26 : (3 : Int) ≤ ρ 26 ∧ ρ 26 ≤ 3 := r26
  have r27 : (0 : Int) ≤ ρ 27 ∧ ρ 27 ≤ 2 := r27
  have r28 : ((-2147483648) : Int) ≤ ρ 28 ∧ ρ 28 ≤ 1099511640064 := r28
  have r29 : (0 : Int) ≤ ρ 29 ∧ ρ 29 ≤ 8 := r29
  have r30 : ((-1) : Int) ≤ ρ 30 ∧ ρ 30 ≤ 1999 := r30
  have r31 : (0 : Int) ≤ ρ 31 ∧ ρ 31 ≤ 1999 := r31
  have r32 : (1 : Int) ≤ ρ 32 ∧ ρ 32 ≤ 2000 := r32
  have r33 : (0 : Int) ≤ ρ 33 ∧ ρ 33 ≤ 8 := r33
  have r34 : ((-1) : Int) ≤ ρ 34 ∧ ρ 34 ≤ 1999 := r34
  have r35 : (0 : Int) ≤ ρ 35 ∧ ρ 35 ≤ 1999 := r35
  have r36 : (0 : Int) ≤ ρ 36 ∧ ρ 36 ≤ 3 := r36
  obtain ⟨f0, f1, f2, f3, f4, f5, f6, f7, f8, f9, -⟩ := hf
  have f0 : (0 : Int) ≤ -ρ 7 + ρ 2 + (-1) := f0
  have f1 : (0 : Int) ≤ ρ 32 + -ρ 19 := f1
  have f2 : (0 : Int) ≤ ρ 34 + -ρ 30 := f2
  have f3 : (0 : Int) ≤ ρ 18 + -ρ 15 + (-1) := f3
  have f4 : (0 : Int) ≤ ρ 17 + -ρ 16 + 50000 := f4
  have f5 : (0 : Int) ≤ ρ 1 + -ρ 0 + (-1) := f5
  have f6 : (0 : Int) ≤ ρ 19 + -ρ 9 := f6
  have f7 : (0 : Int) ≤ ρ 18 + -ρ 15 := f7
  have f8 : (0 : Int) ≤ ρ 17 + -ρ 5 := f8
  have f9 : (0 : Int) ≤ ρ 16 + -ρ 4 := f9
  obtain ⟨m0, m1, m2, m3, m4, m5, m6, m7, m8, m9, m10, m11, m12, m13, m14, m15, m16, m17, m18, m19, m20, m21, m22, m23, m24, m25, m26, m27, m28, m29, m30, m31, m32, m33, m34, m35, -⟩ := hm
  have m0 : γ 0 15 0 32 = ρ 1 := m0
  have m1 : γ 0 15 0 13 = ρ 2 := m1
  have m2 : γ 0 71 0 (ρ 0) = ρ 3 := m2
  have m3 : γ 0 15 0 72 = ρ 4 := m3
  have m4 : γ 0 15 0 77 = ρ 5 := m4
  have m5 : γ 0 15 0 90 = ρ 6 := m5
  have m6 : γ 0 69 0 (ρ 0) = ρ 7 := m6
  have m7 : γ 0 15 0 44 = ρ 8 := m7
  have m8 : γ 0 15 0 71 = ρ 9 := m8
  have m9 : γ 0 15 0 76 = ρ 10 := m9
  have m10 : γ 0 15 0 81 = ρ 11 := m10
  have m11 : γ 0 15 0 82 = ρ 12 := m11
  have m12 : γ 0 15 0 83 = ρ 13 := m12
  have m13 : γ 0 15 0 94 = ρ 14 := m13
  have m14 : γ 1 15 0 72 = ρ 16 := m14
  have m15 : γ 1 15 0 77 = ρ 17 := m15
  have m16 : γ 1 15 0 90 = ρ 18 := m16
  have m17 : γ 1 15 0 71 = ρ 19 := m17
  have m18 : γ 1 15 0 81 = ρ 9 := m18
  have m19 : γ 1 109 0 (ρ 15) = ρ 20 := m19
  have m20 : γ 1 108 0 (ρ 15) = ρ 21 := m20
  have m21 : γ 0 66 0 (ρ 7) = ρ 22 := m21
  have m22 : γ 0 70 0 (4 * ρ 0) = ρ 23 := m22
  have m23 : γ 1 105 0 (4 * ρ 15) = ρ 24 := m23
  have m24 : γ 0 70 0 (4 * ρ 0 + 1) = ρ 25 := m24
  have m25 : γ 0 70 0 (4 * ρ 0 + 2) = ρ 26 := m25
  have m26 : γ 0 70 0 (4 * ρ 0 + 3) = ρ 27 := m26
  have m27 : γ 1 105 0 (4 * ρ 15 + 3) = ρ 28 := m27
  have m28 : γ 1 97 0 (ρ 19) = ρ 29 := m28
  have m29 : γ 1 100 0 (ρ 7) = ρ 30 := m29
  have m30 : γ 1 101 0 (ρ 7) = ρ 31 := m30
  have m31 : γ 6 15 0 71 = ρ 32 := m31
  have m32 : γ 6 97 0 (ρ 19) = ρ 33 := m32
  have m33 : γ 6 100 0 (ρ 7) = ρ 34 := m33
  have m34 : γ 6 101 0 (ρ 7) = ρ 35 := m34
  have m35 : γ 6 15 0 77 = ρ 36 := m35
  obtain ⟨⟨⟨⟨⟨⟨-, c1⟩, c2⟩, c3⟩, c4⟩, c5⟩, c6⟩ := hc
  have c1 : ∀ (G : Nat) (k j : Int), ¬ rMdP m51_ G j → γ 1 G k j = γ 0 G k j := c1
  have c2 : γ 2 = rUp (γ 1) 102 0 0 (ρ 24) := c2
  have c3 : γ 3 = rUp (γ 2) 102 0 1 (ρ 21) := c3
  have c4 : γ 4 = rUp (γ 3) 102 0 2 (ρ 21) := c4
  have c5 : γ 5 = rUp (γ 4) 102 0 3 (ρ 28) := c5
  have c6 : ∀ (G : Nat) (k j : Int), ¬ rMdP m40_ G j → γ 6 G k j = γ 5 G k j := c6
  obtain ⟨l0, -⟩ := hl
  have l0 : sn57 [ρ 7, ρ 0, ρ 2, ρ 19, ρ 29, ρ 30, ρ 31, ρ 10, ρ 17] (γ 5) 0 0 (γ 6) := hS57 _ _ _ _ _ l0
  show jn75 [ρ 0, ρ 1, ρ 2, ρ 3, ρ 4, ρ 5, ρ 6, ρ 7, ρ 8, ρ 9, ρ 10, ρ 11, ρ 12, ρ 13, ρ 14] (γ 0) 0 [ρ 0, ρ 1, ρ 2, ρ 3, ρ 4, ρ 5, ρ 6, ρ 7, ρ 8, ρ 9, ρ 10, ρ 11, ρ 12, ρ 13, ρ 14, ρ 15 + 1, ρ 16, ρ 36, ρ 18, ρ 32] (γ 6)
  have hD : en75 (γ 0) (0, [ρ 0, ρ 15], γ 1) = .inl (0, [ρ 0, ρ 15 + 1], γ 6) := by
    unfold en75
    refine (if_pos (show (0 : Nat) = 0 by decide)).trans ?_
    refine (zLet_eq (show _ = γ 1 from rfl)).trans ?_
    refine (zLet_eq (show _ = ρ 0 from rfl)).trans ?_
    refine (zLet_eq (show _ = ρ 15 from rfl)).trans ?_
    refine (zLet_eq m2).trans ?_
    refine (zLet_eq m6).trans ?_
    refine (zLet_eq m15).trans ?_
    refine (zLet_eq m16).trans ?_
    refine (if_neg (show ¬ (ρ 15 ≥ ρ 18) by omega)).trans ?_
    refine (if_neg (show ¬ (ρ 17 ≠ 0) by omega)).trans ?_
    refine (if_neg (show ¬ (ρ 3 ≤ 2) by omega)).trans ?_
    refine (zLet_eq m19).trans ?_
    refine (if_pos (show ρ 20 ≠ 0 by omega)).trans ?_
    refine (zLet_eq m20).trans ?_
    refine (zLet_eq m21).trans ?_
    refine (if_neg (show ¬ (0 ≥ ρ 22) by omega)).trans ?_
    refine (zLet_eq m22).trans ?_
    refine (if_pos (show ρ 23 ≠ 3 by omega)).trans ?_
    refine (zLet_eq m23).trans ?_
    refine (zLet_eq c2.symm).trans ?_
    refine (if_neg (show ¬ (1 ≥ ρ 22) by omega)).trans ?_
    refine (zLet_eq m24).trans ?_
    refine (if_neg (show ¬ (ρ 25 ≠ 3) by omega)).trans ?_
    refine (zLet_eq c3.symm).trans ?_
    refine (if_neg (show ¬ (2 ≥ ρ 22) by omega)).trans ?_
    refine (zLet_eq m25).trans ?_
    refine (if_neg (show ¬ (ρ 26 ≠ 3) by omega)).trans ?_
    refine (zLet_eq c4.symm).trans ?_
    refine (if_neg (show ¬ (3 ≥ ρ 22) by omega)).trans ?_
    refine (zLet_eq m26).trans ?_
    refine (if_pos (show ρ 27 ≠ 3 by omega)).trans ?_
    refine (zLet_eq m27).trans ?_
    refine (zLet_eq c5.symm).trans ?_
    refine (zLet_eq (show fn57 [ρ 7, ρ 0] (γ 5) = (0, 0, γ 6) from l0.symm)).trans ?_
    refine (zLet_eq (show _ = γ 6 from rfl)).trans ?_
    rfl
  exact zGoo_ato hJ hD
theorem vn75a0_79 {S : Nat → zSpc} (hS57 : ∀ x g o v gz, S 57 x g o v gz → sn57 x g o v gz) (hS73 : ∀ x g o v gz, S 73 x g o v gz → sn73 x g o v gz) {a : List Int} {g : rHp} : ∀ (ρ : Nat → Int) (γ : Nat → rHp), jn75 a g 0 (zAg (zNA a75_ 0) ρ) (γ 1) → zO 15 S a g q75a0_79 ρ γ → zGl (fun i vs g1 => jn75 a g i vs g1) (sn75 a g) q75a0_79 ρ γ := by
  intro ρ γ hJ h
  obtain ⟨ha, hg, hr, hf, hm, hc, hl⟩ := h
  have ha : a = [ρ 0, ρ 1, ρ 2, ρ 3, ρ 4, ρ 5, ρ 6, ρ 7, ρ 8, ρ 9, ρ 10, ρ 11, ρ 12, ρ 13, ρ 14] := ha
  subst ha
  subst hg
  have hJ : jn75 [ρ 0, ρ 1, ρ 2, ρ 3, ρ 4, ρ 5, ρ 6, ρ 7, ρ 8, ρ 9, ρ 10, ρ 11, ρ 12, ρ 13, ρ 14] (γ 0) 0 [ρ 0, ρ 1, ρ 2, ρ 3, ρ 4, ρ 5, ρ 6, ρ 7, ρ 8, ρ 9, ρ 10, ρ 11, ρ 12, ρ 13, ρ 14, ρ 15, ρ 16, ρ 17, ρ 18, ρ 19] (γ 1) := hJ
  obtain ⟨r0, r1, r2, r3, r4, r5, r6, r7, r8, r9, r10, r11, r12, r13, r14, r15, r16, r17, r18, r19, r20, r21, r22, r23, r24, r25, r26, r27, r28, r29, r30, r31, r32, r33, r34, r35, -⟩ := hr
  have r0 : (0 : Int) ≤ ρ 0 ∧ ρ 0 ≤ 59 := r0
  have r1 : (0 : Int) ≤ ρ 1 ∧ ρ 1 ≤ 60 := r1
  have r2 : (0 : Int) ≤ ρ 2 ∧ ρ 2 ≤ 20 := r2
  have r3 : (3 : Int) ≤ ρ 3 ∧ ρ 3 ≤ 4 := r3
  have r4 : (0 : Int) ≤ ρ 4 ∧ ρ 4 ≤ 50001 := r4
  have r5 : (0 : Int) ≤ ρ 5 ∧ ρ 5 ≤ 3 := r5
  have r6 : (0 : Int) ≤ ρ 6 ∧ ρ 6 ≤ 2000 := r6
  have r7 : (0 : Int) ≤ ρ 7 ∧ ρ 7 ≤ 19 := r7
  have r8 : (0 : Int) ≤ ρ 8 ∧ ρ 8 ≤ 61 := r8
  have r9 : (0 : Int) ≤ ρ 9 ∧ ρ 9 ≤ 2000 := r9
  have r10 : ((-2147483648) : Int) ≤ ρ 10 ∧ ρ 10 ≤ 2147483647 := r10
  have r11 : (0 : Int) ≤ ρ 11 ∧ ρ 11 ≤ 2000 := r11
  have r12 : (0 : Int) ≤ ρ 12 ∧ ρ 12 ≤ 2000 := r12
  have r13 : (0 : Int) ≤ ρ 13 ∧ ρ 13 ≤ 2000 := r13
  have r14 : (0 : Int) ≤ ρ 14 ∧ ρ 14 ≤ 50001 := r14
  have r15 : (0 : Int) ≤ ρ 15 ∧ ρ 15 ≤ 2000 := r15
  have r16 : (0 : Int) ≤ ρ 16 ∧ ρ 16 ≤ 50001 := r16
  have r17 : (0 : Int) ≤ ρ 17 ∧ ρ 17 ≤ 0 := r17
  have r18 : (0 : Int) ≤ ρ 18 ∧ ρ 18 ≤ 2000 := r18
  have r19 : (0 : Int) ≤ ρ 19 ∧ ρ 19 ≤ 2000 := r19
  have r20 : (1 : Int) ≤ ρ 20 ∧ ρ 20 ≤ 1 := r20
  have r21 : ((-2147483648) : Int) ≤ ρ 21 ∧ ρ 21 ≤ 1099511640064 := r21
  have r22 : (4 : Int) ≤ ρ 22 ∧ ρ 22 ≤ 4 := r22
  have r23 : (0 : Int) ≤ ρ 23 ∧ ρ 23 ≤ 2 := r23
  have r24 : ((-2147483648) : Int) ≤ ρ 24 ∧ ρ 24 ≤ 1099511640064 := r24
  have r25 : (3 : Int) ≤ ρ 25 ∧ ρ 25 ≤ 3 := r25
  have r26 : (3 : Int) ≤ ρ 26 ∧ ρ 26 ≤ 3 := r26
  have r27 : (3 : Int) ≤ ρ 27 ∧ ρ 27 ≤ 3 := r27
  have r28 : (0 : Int) ≤ ρ 28 ∧ ρ 28 ≤ 8 := r28
  have r29 : ((-1) : Int) ≤ ρ 29 ∧ ρ 29 ≤ 1999 := r29
  have r30 : (0 : Int) ≤ ρ 30 ∧ ρ 30 ≤ 1999 := r30
  have r31 : (1 : Int) ≤ ρ 31 ∧ ρ 31 ≤ 2000 := r31
  have r32 : (0 : Int) ≤ ρ 32 ∧ ρ 32 ≤ 8 := r32
  have r33 : ((-1) : Int) ≤ ρ 33 ∧ ρ 33 ≤ 1999 := r33
  have r34 : (0 : Int) ≤ ρ 34 ∧ ρ 34 ≤ 1999 := r34
  have r35 : (0 : Int) ≤ ρ 35 ∧ ρ 35 ≤ 3 := r35
  obtain ⟨f0, f1, f2, f3, f4, f5, f6, f7, f8, f9, -⟩ := hf
  have f0 : (0 : Int) ≤ -ρ 7 + ρ 2 + (-1) := f0
  have f1 : (0 : Int) ≤ ρ 31 + -ρ 19 := f1
  have f2 : (0 : Int) ≤ ρ 33 + -ρ 29 := f2
  have f3 : (0 : Int) ≤ ρ 18 + -ρ 15 + (-1) := f3
  have f4 : (0 : Int) ≤ ρ 17 + -ρ 16 + 50000 := f4
  have f5 : (0 : Int) ≤ ρ 1 + -ρ 0 + (-1) := f5
  have f6 : (0 : Int) ≤ ρ 19 + -ρ 9 := f6
  have f7 : (0 : Int) ≤ ρ 18 + -ρ 15 := f7
  have f8 : (0 : Int) ≤ ρ 17 + -ρ 5 := f8
  have f9 : (0 : Int) ≤ ρ 16 + -ρ 4 := f9
  obtain ⟨m0, m1, m2, m3, m4, m5, m6, m7, m8, m9, m10, m11, m12, m13, m14, m15, m16, m17, m18, m19, m20, m21, m22, m23, m24, m25, m26, m27, m28, m29, m30, m31, m32, m33, m34, -⟩ := hm
  have m0 : γ 0 15 0 32 = ρ 1 := m0
  have m1 : γ 0 15 0 13 = ρ 2 := m1
  have m2 : γ 0 71 0 (ρ 0) = ρ 3 := m2
  have m3 : γ 0 15 0 72 = ρ 4 := m3
  have m4 : γ 0 15 0 77 = ρ 5 := m4
  have m5 : γ 0 15 0 90 = ρ 6 := m5
  have m6 : γ 0 69 0 (ρ 0) = ρ 7 := m6
  have m7 : γ 0 15 0 44 = ρ 8 := m7
  have m8 : γ 0 15 0 71 = ρ 9 := m8
  have m9 : γ 0 15 0 76 = ρ 10 := m9
  have m10 : γ 0 15 0 81 = ρ 11 := m10
  have m11 : γ 0 15 0 82 = ρ 12 := m11
  have m12 : γ 0 15 0 83 = ρ 13 := m12
  have m13 : γ 0 15 0 94 = ρ 14 := m13
  have m14 : γ 1 15 0 72 = ρ 16 := m14
  have m15 : γ 1 15 0 77 = ρ 17 := m15
  have m16 : γ 1 15 0 90 = ρ 18 := m16
  have m17 : γ 1 15 0 71 = ρ 19 := m17
  have m18 : γ 1 15 0 81 = ρ 9 := m18
  have m19 : γ 1 109 0 (ρ 15) = ρ 20 := m19
  have m20 : γ 1 108 0 (ρ 15) = ρ 21 := m20
  have m21 : γ 0 66 0 (ρ 7) = ρ 22 := m21
  have m22 : γ 0 70 0 (4 * ρ 0) = ρ 23 := m22
  have m23 : γ 1 105 0 (4 * ρ 15) = ρ 24 := m23
  have m24 : γ 0 70 0 (4 * ρ 0 + 1) = ρ 25 := m24
  have m25 : γ 0 70 0 (4 * ρ 0 + 2) = ρ 26 := m25
  have m26 : γ 0 70 0 (4 * ρ 0 + 3) = ρ 27 := m26
  have m27 : γ 1 97 0 (ρ 19) = ρ 28 := m27
  have m28 : γ 1 100 0 (ρ 7) = ρ 29 := m28
  have m29 : γ 1 101 0 (ρ 7) = ρ 30 := m29
  have m30 : γ 6 15 0 71 = ρ 31 := m30
  have m31 : γ 6 97 0 (ρ 19) = ρ 32 := m31
  have m32 : γ 6 100 0 (ρ 7) = ρ 33 := m32
  have m33 : γ 6 101 0 (ρ 7) = ρ 34 := m33
  have m34 : γ 6 15 0 77 = ρ 35 := m34
  obtain ⟨⟨⟨⟨⟨⟨-, c1⟩, c2⟩, c3⟩, c4⟩, c5⟩, c6⟩ := hc
  have c1 : ∀ (G : Nat) (k j : Int), ¬ rMdP m51_ G j → γ 1 G k j = γ 0 G k j := c1
  have c2 : γ 2 = rUp (γ 1) 102 0 0 (ρ 24) := c2
  have c3 : γ 3 = rUp (γ 2) 102 0 1 (ρ 21) := c3
  have c4 : γ 4 = rUp (γ 3) 102 0 2 (ρ 21) := c4
  have c5 : γ 5 = rUp (γ 4) 102 0 3 (ρ 21) := c5
  have c6 : ∀ (G : Nat) (k j : Int), ¬ rMdP m40_ G j → γ 6 G k j = γ 5 G k j := c6
  obtain ⟨l0, -⟩ := hl
  have l0 : sn57 [ρ 7, ρ 0, ρ 2, ρ 19, ρ 28, ρ 29, ρ 30, ρ 10, ρ 17] (γ 5) 0 0 (γ 6) := hS57 _ _ _ _ _ l0
  show jn75 [ρ 0, ρ 1, ρ 2, ρ 3, ρ 4, ρ 5, ρ 6, ρ 7, ρ 8, ρ 9, ρ 10, ρ 11, ρ 12, ρ 13, ρ 14] (γ 0) 0 [ρ 0, ρ 1, ρ 2, ρ 3, ρ 4, ρ 5, ρ 6, ρ 7, ρ 8, ρ 9, ρ 10, ρ 11, ρ 12, ρ 13, ρ 14, ρ 15 + 1, ρ 16, ρ 35, ρ 18, ρ 31] (γ 6)
  have hD : en75 (γ 0) (0, [ρ 0, ρ 15], γ 1) = .inl (0, [ρ 0, ρ 15 + 1], γ 6) := by
    unfold en75
    refine (if_pos (show (0 : Nat) = 0 by decide)).trans ?_
    refine (zLet_eq (show _ = γ 1 from rfl)).trans ?_
    refine (zLet_eq (show _ = ρ 0 from rfl)).trans ?_
    refine (zLet_eq (show _ = ρ 15 from rfl)).trans ?_
    refine (zLet_eq m2).trans ?_
    refine (zLet_eq m6).trans ?_
    refine (zLet_eq m15).trans ?_
    refine (zLet_eq m16).trans ?_
    refine (if_neg (show ¬ (ρ 15 ≥ ρ 18) by omega)).trans ?_
    refine (if_neg (show ¬ (ρ 17 ≠ 0) by omega)).trans ?_
    refine (if_neg (show ¬ (ρ 3 ≤ 2) by omega)).trans ?_
    refine (zLet_eq m19).trans ?_
    refine (if_pos (show ρ 20 ≠ 0 by omega)).trans ?_
    refine (zLet_eq m20).trans ?_
    refine (zLet_eq m21).trans ?_
    refine (if_neg (show ¬ (0 ≥ ρ 22) by omega)).trans ?_
    refine (zLet_eq m22).trans ?_
    refine (if_pos (show ρ 23 ≠ 3 by omega)).trans ?_
    refine (zLet_eq m23).trans ?_
    refine (zLet_eq c2.symm).trans ?_
    refine (if_neg (show ¬ (1 ≥ ρ 22) by omega)).trans ?_
    refine (zLet_eq m24).trans ?_
    refine (if_neg (show ¬ (ρ 25 ≠ 3) by omega)).trans ?_
    refine (zLet_eq c3.symm).trans ?_
    refine (if_neg (show ¬ (2 ≥ ρ 22) by omega)).trans ?_
    refine (zLet_eq m25).trans ?_
    refine (if_neg (show ¬ (ρ 26 ≠ 3) by omega)).trans ?_
    refine (zLet_eq c4.symm).trans ?_
    refine (if_neg (show ¬ (3 ≥ ρ 22) by omega)).trans ?_
    refine (zLet_eq m26).trans ?_
    refine (if_neg (show ¬ (ρ 27 ≠ 3) by omega)).trans ?_
    refine (zLet_eq c5.symm).trans ?_
    refine (zLet_eq (show fn57 [ρ 7, ρ 0] (γ 5) = (0, 0, γ 6) from l0.symm)).trans ?_
    refine (zLet_eq (show _ = γ 6 from rfl)).trans ?_
    rfl
  exact zGoo_ato hJ hD
theorem vn75a0_80 {S : Nat → zSpc} (hS57 : ∀ x g o v gz, S 57 x g o v gz → sn57 x g o v gz) (hS73 : ∀ x g o v gz, S 73 x g o v gz → sn73 x g o v gz) {a : List Int} {g : rHp} : ∀ (ρ : Nat → Int) (γ : Nat → rHp), jn75 a g 0 (zAg (zNA a75_ 0) ρ) (γ 1) → zO 15 S a g q75a0_80 ρ γ → zGl (fun i vs g1 => jn75 a g i vs g1) (sn75 a g) q75a0_80 ρ γ := by
  intro ρ γ hJ h
  obtain ⟨ha, hg, hr, hf, hm, hc, hl⟩ := h
  have ha : a = [ρ 0, ρ 1, ρ 2, ρ 3, ρ 4, ρ 5, ρ 6, ρ 7, ρ 8, ρ 9, ρ 10, ρ 11, ρ 12, ρ 13, ρ 14] := ha
  subst ha
  subst hg
  have hJ : jn75 [ρ 0, ρ 1, ρ 2, ρ 3, ρ 4, ρ 5, ρ 6, ρ 7, ρ 8, ρ 9, ρ 10, ρ 11, ρ 12, ρ 13, ρ 14] (γ 0) 0 [ρ 0, ρ 1, ρ 2, ρ 3, ρ 4, ρ 5, ρ 6, ρ 7, ρ 8, ρ 9, ρ 10, ρ 11, ρ 12, ρ 13, ρ 14, ρ 15, ρ 16, ρ 17, ρ 18, ρ 19] (γ 1) := hJ
  obtain ⟨r0, r1, r2, r3, r4, r5, r6, r7, r8, r9, r10, r11, r12, r13, r14, r15, r16, r17, r18, r19, r20, r21, r22, r23, r24, r25, r26, r27, r28, r29, r30, r31, r32, r33, r34, -⟩ := hr
  have r0 : (0 : Int) ≤ ρ 0 ∧ ρ 0 ≤ 59 := r0
  have r1 : (0 : Int) ≤ ρ 1 ∧ ρ 1 ≤ 60 := r1
  have r2 : (0 : Int) ≤ ρ 2 ∧ ρ 2 ≤ 20 := r2
  have r3 : (3 : Int) ≤ ρ 3 ∧ ρ 3 ≤ 4 := r3
  have r4 : (0 : Int) ≤ ρ 4 ∧ ρ 4 ≤ 50001 := r4
  have r5 : (0 : Int) ≤ ρ 5 ∧ ρ 5 ≤ 3 := r5
  have r6 : (0 : Int) ≤ ρ 6 ∧ ρ 6 ≤ 2000 := r6
  have r7 : (0 : Int) ≤ ρ 7 ∧ ρ 7 ≤ 19 := r7
  have r8 : (0 : Int) ≤ ρ 8 ∧ ρ 8 ≤ 61 := r8
  have r9 : (0 : Int) ≤ ρ 9 ∧ ρ 9 ≤ 2000 := r9
  have r10 : ((-2147483648) : Int) ≤ ρ 10 ∧ ρ 10 ≤ 2147483647 := r10
  have r11 : (0 : Int) ≤ ρ 11 ∧ ρ 11 ≤ 2000 := r11
  have r12 : (0 : Int) ≤ ρ 12 ∧ ρ 12 ≤ 2000 := r12
  have r13 : (0 : Int) ≤ ρ 13 ∧ ρ 13 ≤ 2000 := r13
  have r14 : (0 : Int) ≤ ρ 14 ∧ ρ 14 ≤ 50001 := r14
  have r15 : (0 : Int) ≤ ρ 15 ∧ ρ 15 ≤ 2000 := r15
  have r16 : (0 : Int) ≤ ρ 16 ∧ ρ 16 ≤ 50001 := r16
  have r17 : (0 : Int) ≤ ρ 17 ∧ ρ 17 ≤ 0 := r17
  have r18 : (0 : Int) ≤ ρ 18 ∧ ρ 18 ≤ 2000 := r18
  have r19 : (0 : Int) ≤ ρ 19 ∧ ρ 19 ≤ 2000 := r19
  have r20 : (1 : Int) ≤ ρ 20 ∧ ρ 20 ≤ 1 := r20
  have r21 : ((-2147483648) : Int) ≤ ρ 21 ∧ ρ 21 ≤ 1099511640064 := r21
  have r22 : (1 : Int) ≤ ρ 22 ∧ ρ 22 ≤ 1 := r22
  have r23 : (3 : Int) ≤ ρ 23 ∧ ρ 23 ≤ 3 := r23
  have r24 : ((-2147483648) : Int) ≤ ρ 24 ∧ ρ 24 ≤ 1099511640064 := r24
  have r25 : ((-2147483648) : Int) ≤ ρ 25 ∧ ρ 25 ≤ 1099511640064 := r25
  have r26 : ((-2147483648) : Int) ≤ ρ 26 ∧ ρ 26 ≤ 1099511640064 := r26
  have r27 : (0 : Int) ≤ ρ 27 ∧ ρ 27 ≤ 8 := r27
  have r28 : ((-1) : Int) ≤ ρ 28 ∧ ρ 28 ≤ 1999 := r28
  have r29 : (0 : Int) ≤ ρ 29 ∧ ρ 29 ≤ 1999 := r29
  have r30 : (1 : Int) ≤ ρ 30 ∧ ρ 30 ≤ 2000 := r30
  have r31 : (0 : Int) ≤ ρ 31 ∧ ρ 31 ≤ 8 := r31
  have r32 : ((-1) : Int) ≤ ρ 32 ∧ ρ 32 ≤ 1999 := r32
  have r33 : (0 : Int) ≤ ρ 33 ∧ ρ 33 ≤ 1999 := r33
  have r34 : (0 : Int) ≤ ρ 34 ∧ ρ 34 ≤ 3 := r34
  obtain ⟨f0, f1, f2, f3, f4, f5, f6, f7, f8, f9, -⟩ := hf
  have f0 : (0 : Int) ≤ -ρ 7 + ρ 2 + (-1) := f0
  have f1 : (0 : Int) ≤ ρ 30 + -ρ 19 := f1
  have f2 : (0 : Int) ≤ ρ 32 + -ρ 28 := f2
  have f3 : (0 : Int) ≤ ρ 18 + -ρ 15 + (-1) := f3
  have f4 : (0 : Int) ≤ ρ 17 + -ρ 16 + 50000 := f4
  have f5 : (0 : Int) ≤ ρ 1 + -ρ 0 + (-1) := f5
  have f6 : (0 : Int) ≤ ρ 19 + -ρ 9 := f6
  have f7 : (0 : Int) ≤ ρ 18 + -ρ 15 := f7
  have f8 : (0 : Int) ≤ ρ 17 + -ρ 5 := f8
  have f9 : (0 : Int) ≤ ρ 16 + -ρ 4 := f9
  obtain ⟨m0, m1, m2, m3, m4, m5, m6, m7, m8, m9, m10, m11, m12, m13, m14, m15, m16, m17, m18, m19, m20, m21, m22, m23, m24, m25, m26, m27, m28, m29, m30, m31, m32, m33, -⟩ := hm
  have m0 : γ 0 15 0 32 = ρ 1 := m0
  have m1 : γ 0 15 0 13 = ρ 2 := m1
  have m2 : γ 0 71 0 (ρ 0) = ρ 3 := m2
  have m3 : γ 0 15 0 72 = ρ 4 := m3
  have m4 : γ 0 15 0 77 = ρ 5 := m4
  have m5 : γ 0 15 0 90 = ρ 6 := m5
  have m6 : γ 0 69 0 (ρ 0) = ρ 7 := m6
  have m7 : γ 0 15 0 44 = ρ 8 := m7
  have m8 : γ 0 15 0 71 = ρ 9 := m8
  have m9 : γ 0 15 0 76 = ρ 10 := m9
  have m10 : γ 0 15 0 81 = ρ 11 := m10
  have m11 : γ 0 15 0 82 = ρ 12 := m11
  have m12 : γ 0 15 0 83 = ρ 13 := m12
  have m13 : γ 0 15 0 94 = ρ 14 := m13
  have m14 : γ 1 15 0 72 = ρ 16 := m14
  have m15 : γ 1 15 0 77 = ρ 17 := m15
  have m16 : γ 1 15 0 90 = ρ 18 := m16
  have m17 : γ 1 15 0 71 = ρ 19 := m17
  have m18 : γ 1 15 0 81 = ρ 9 := m18
  have m19 : γ 1 109 0 (ρ 15) = ρ 20 := m19
  have m20 : γ 1 108 0 (ρ 15) = ρ 21 := m20
  have m21 : γ 0 66 0 (ρ 7) = ρ 22 := m21
  have m22 : γ 0 70 0 (4 * ρ 0) = ρ 23 := m22
  have m23 : γ 1 105 0 (4 * ρ 15 + 1) = ρ 24 := m23
  have m24 : γ 1 105 0 (4 * ρ 15 + 2) = ρ 25 := m24
  have m25 : γ 1 105 0 (4 * ρ 15 + 3) = ρ 26 := m25
  have m26 : γ 1 97 0 (ρ 19) = ρ 27 := m26
  have m27 : γ 1 100 0 (ρ 7) = ρ 28 := m27
  have m28 : γ 1 101 0 (ρ 7) = ρ 29 := m28
  have m29 : γ 6 15 0 71 = ρ 30 := m29
  have m30 : γ 6 97 0 (ρ 19) = ρ 31 := m30
  have m31 : γ 6 100 0 (ρ 7) = ρ 32 := m31
  have m32 : γ 6 101 0 (ρ 7) = ρ 33 := m32
  have m33 : γ 6 15 0 77 = ρ 34 := m33
  obtain ⟨⟨⟨⟨⟨⟨-, c1⟩, c2⟩, c3⟩, c4⟩, c5⟩, c6⟩ := hc
  have c1 : ∀ (G : Nat) (k j : Int), ¬ rMdP m51_ G j → γ 1 G k j = γ 0 G k j := c1
  have c2 : γ 2 = rUp (γ 1) 102 0 0 (ρ 21) := c2
  have c3 : γ 3 = rUp (γ 2) 102 0 1 (ρ 24) := c3
  have c4 : γ 4 = rUp (γ 3) 102 0 2 (ρ 25) := c4
  have c5 : γ 5 = rUp (γ 4) 102 0 3 (ρ 26) := c5
  have c6 : ∀ (G : Nat) (k j : Int), ¬ rMdP m40_ G j → γ 6 G k j = γ 5 G k j := c6
  obtain ⟨l0, -⟩ := hl
  have l0 : sn57 [ρ 7, ρ 0, ρ 2, ρ 19, ρ 27, ρ 28, ρ 29, ρ 10, ρ 17] (γ 5) 0 0 (γ 6) := hS57 _ _ _ _ _ l0
  show jn75 [ρ 0, ρ 1, ρ 2, ρ 3, ρ 4, ρ 5, ρ 6, ρ 7, ρ 8, ρ 9, ρ 10, ρ 11, ρ 12, ρ 13, ρ 14] (γ 0) 0 [ρ 0, ρ 1, ρ 2, ρ 3, ρ 4, ρ 5, ρ 6, ρ 7, ρ 8, ρ 9, ρ 10, ρ 11, ρ 12, ρ 13, ρ 14, ρ 15 + 1, ρ 16, ρ 34, ρ 18, ρ 30] (γ 6)
  have hD : en75 (γ 0) (0, [ρ 0, ρ 15], γ 1) = .inl (0, [ρ 0, ρ 15 + 1], γ 6) := by
    unfold en75
    refine (if_pos (show (0 : Nat) = 0 by decide)).trans ?_
    refine (zLet_eq (show _ = γ 1 from rfl)).trans ?_
    refine (zLet_eq (show _ = ρ 0 from rfl)).trans ?_
    refine (zLet_eq (show _ = ρ 15 from rfl)).trans ?_
    refine (zLet_eq m2).trans ?_
    refine (zLet_eq m6).trans ?_
    refine (zLet_eq m15).trans ?_
    refine (zLet_eq m16).trans ?_
    refine (if_neg (show ¬ (ρ 15 ≥ ρ 18) by omega)).trans ?_
    refine (if_neg (show ¬ (ρ 17 ≠ 0) by omega)).trans ?_
    refine (if_neg (show ¬ (ρ 3 ≤ 2) by omega)).trans ?_
    refine (zLet_eq m19).trans ?_
    refine (if_pos (show ρ 20 ≠ 0 by omega)).trans ?_
    refine (zLet_eq m20).trans ?_
    refine (zLet_eq m21).trans ?_
    refine (if_neg (show ¬ (0 ≥ ρ 22) by omega)).trans ?_
    refine (zLet_eq m22).trans ?_
    refine (if_neg (show ¬ (ρ 23 ≠ 3) by omega)).trans ?_
    refine (zLet_eq c2.symm).trans ?_
    refine (if_pos (show 1 ≥ ρ 22 by omega)).trans ?_
    refine (zLet_eq m23).trans ?_
    refine (zLet_eq c3.symm).trans ?_
    refine (zLet_eq m24).trans ?_
    refine (zLet_eq c4.symm).trans ?_
    refine (zLet_eq m25).trans ?_
    refine (zLet_eq c5.symm).trans ?_
    refine (zLet_eq (show fn57 [ρ 7, ρ 0] (γ 5) = (0, 0, γ 6) from l0.symm)).trans ?_
    refine (zLet_eq (show _ = γ 6 from rfl)).trans ?_
    rfl
  exact zGoo_ato hJ hD
theorem vn75a0_81 {S : Nat → zSpc} (hS57 : ∀ x g o v gz, S 57 x g o v gz → sn57 x g o v gz) (hS73 : ∀ x g o v gz, S 73 x g o v gz → sn73 x g o v gz) {a : List Int} {g : rHp} : ∀ (ρ : Nat → Int) (γ : Nat → rHp), jn75 a g 0 (zAg (zNA a75_ 0) ρ) (γ 1) → zO 15 S a g q75a0_81 ρ γ → zGl (fun i vs g1 => jn75 a g i vs g1) (sn75 a g) q75a0_81 ρ γ := by
  intro ρ γ hJ h
  obtain ⟨ha, hg, hr, hf, hm, hc, hl⟩ := h
  have ha : a = [ρ 0, ρ 1, ρ 2, ρ 3, ρ 4, ρ 5, ρ 6, ρ 7, ρ 8, ρ 9, ρ 10, ρ 11, ρ 12, ρ 13, ρ 14] := ha
  subst ha
  subst hg
  have hJ : jn75 [ρ 0, ρ 1, ρ 2, ρ 3, ρ 4, ρ 5, ρ 6, ρ 7, ρ 8, ρ 9, ρ 10, ρ 11, ρ 12, ρ 13, ρ 14] (γ 0) 0 [ρ 0, ρ 1, ρ 2, ρ 3, ρ 4, ρ 5, ρ 6, ρ 7, ρ 8, ρ 9, ρ 10, ρ 11, ρ 12, ρ 13, ρ 14, ρ 15, ρ 16, ρ 17, ρ 18, ρ 19] (γ 1) := hJ
  obtain ⟨r0, r1, r2, r3, r4, r5, r6, r7, r8, r9, r10, r11, r12, r13, r14, r15, r16, r17, r18, r19, r20, r21, r22, r23, r24, r25, r26, r27, r28, r29, r30, r31, r32, r33, r34, r35, -⟩ := hr
  have r0 : (0 : Int) ≤ ρ 0 ∧ ρ 0 ≤ 59 := r0
  have r1 : (0 : Int) ≤ ρ 1 ∧ ρ 1 ≤ 60 := r1
  have r2 : (0 : Int) ≤ ρ 2 ∧ ρ 2 ≤ 20 := r2
  have r3 : (3 : Int) ≤ ρ 3 ∧ ρ 3 ≤ 4 := r3
  have r4 : (0 : Int) ≤ ρ 4 ∧ ρ 4 ≤ 50001 := r4
  have r5 : (0 : Int) ≤ ρ 5 ∧ ρ 5 ≤ 3 := r5
  have r6 : (0 : Int) ≤ ρ 6 ∧ ρ 6 ≤ 2000 := r6
  have r7 : (0 : Int) ≤ ρ 7 ∧ ρ 7 ≤ 19 := r7
  have r8 : (0 : Int) ≤ ρ 8 ∧ ρ 8 ≤ 61 := r8
  have r9 : (0 : Int) ≤ ρ 9 ∧ ρ 9 ≤ 2000 := r9
  have r10 : ((-2147483648) : Int) ≤ ρ 10 ∧ ρ 10 ≤ 2147483647 := r10
  have r11 : (0 : Int) ≤ ρ 11 ∧ ρ 11 ≤ 2000 := r11
  have r12 : (0 : Int) ≤ ρ 12 ∧ ρ 12 ≤ 2000 := r12
  have r13 : (0 : Int) ≤ ρ 13 ∧ ρ 13 ≤ 2000 := r13
  have r14 : (0 : Int) ≤ ρ 14 ∧ ρ 14 ≤ 50001 := r14
  have r15 : (0 : Int) ≤ ρ 15 ∧ ρ 15 ≤ 2000 := r15
  have r16 : (0 : Int) ≤ ρ 16 ∧ ρ 16 ≤ 50001 := r16
  have r17 : (0 : Int) ≤ ρ 17 ∧ ρ 17 ≤ 0 := r17
  have r18 : (0 : Int) ≤ ρ 18 ∧ ρ 18 ≤ 2000 := r18
  have r19 : (0 : Int) ≤ ρ 19 ∧ ρ 19 ≤ 2000 := r19
  have r20 : (1 : Int) ≤ ρ 20 ∧ ρ 20 ≤ 1 := r20
  have r21 : ((-2147483648) : Int) ≤ ρ 21 ∧ ρ 21 ≤ 1099511640064 := r21
  have r22 : (2 : Int) ≤ ρ 22 ∧ ρ 22 ≤ 2 := r22
  have r23 : (3 : Int) ≤ ρ 23 ∧ ρ 23 ≤ 3 := r23
  have r24 : (0 : Int) ≤ ρ 24 ∧ ρ 24 ≤ 2 := r24
  have r25 : ((-2147483648) : Int) ≤ ρ 25 ∧ ρ 25 ≤ 1099511640064 := r25
  have r26 : ((-2147483648) : Int) ≤ ρ 26 ∧ ρ 26 ≤ 1099511640064 := r26
  have r27 : ((-2147483648) : Int) ≤ ρ 27 ∧ ρ 27 ≤ 1099511640064 := r27
  have r28 : (0 : Int) ≤ ρ 28 ∧ ρ 28 ≤ 8 := r28
  have r29 : ((-1) : Int) ≤ ρ 29 ∧ ρ 29 ≤ 1999 := r29
  have r30 : (0 : Int) ≤ ρ 30 ∧ ρ 30 ≤ 1999 := r30
  have r31 : (1 : Int) ≤ ρ 31 ∧ ρ 31 ≤ 2000 := r31
  have r32 : (0 : Int) ≤ ρ 32 ∧ ρ 32 ≤ 8 := r32
  have r33 : ((-1) : Int) ≤ ρ 33 ∧ ρ 33 ≤ 1999 := r33
  have r34 : (0 : Int) ≤ ρ 34 ∧ ρ 34 ≤ 1999 := r34
  have r35 : (0 : Int) ≤ ρ 35 ∧ ρ 35 ≤ 3 := r35
  obtain ⟨f0, f1, f2, f3, f4, f5, f6, f7, f8, f9, -⟩ := hf
  have f0 : (0 : Int) ≤ -ρ 7 + ρ 2 + (-1) := f0
  have f1 : (0 : Int) ≤ ρ 31 + -ρ 19 := f1
  have f2 : (0 : Int) ≤ ρ 33 + -ρ 29 := f2
  have f3 : (0 : Int) ≤ ρ 18 + -ρ 15 + (-1) := f3
  have f4 : (0 : Int) ≤ ρ 17 + -ρ 16 + 50000 := f4
  have f5 : (0 : Int) ≤ ρ 1 + -ρ 0 + (-1) := f5
  have f6 : (0 : Int) ≤ ρ 19 + -ρ 9 := f6
  have f7 : (0 : Int) ≤ ρ 18 + -ρ 15 := f7
  have f8 : (0 : Int) ≤ ρ 17 + -ρ 5 := f8
  have f9 : (0 : Int) ≤ ρ 16 + -ρ 4 := f9
  obtain ⟨m0, m1, m2, m3, m4, m5, m6, m7, m8, m9, m10, m11, m12, m13, m14, m15, m16, m17, m18, m19, m20, m21, m22, m23, m24, m25, m26, m27, m28, m29, m30, m31, m32, m33, m34, -⟩ := hm
  have m0 : γ 0 15 0 32 = ρ 1 := m0
  have m1 : γ 0 15 0 13 = ρ 2 := m1
  have m2 : γ 0 71 0 (ρ 0) = ρ 3 := m2
  have m3 : γ 0 15 0 72 = ρ 4 := m3
  have m4 : γ 0 15 0 77 = ρ 5 := m4
  have m5 : γ 0 15 0 90 = ρ 6 := m5
  have m6 : γ 0 69 0 (ρ 0) = ρ 7 := m6
  have m7 : γ 0 15 0 44 = ρ 8 := m7
  have m8 : γ 0 15 0 71 = ρ 9 := m8
  have m9 : γ 0 15 0 76 = ρ 10 := m9
  have m10 : γ 0 15 0 81 = ρ 11 := m10
  have m11 : γ 0 15 0 82 = ρ 12 := m11
  have m12 : γ 0 15 0 83 = ρ 13 := m12
  have m13 : γ 0 15 0 94 = ρ 14 := m13
  have m14 : γ 1 15 0 72 = ρ 16 := m14
  have m15 : γ 1 15 0 77 = ρ 17 := m15
  have m16 : γ 1 15 0 90 = ρ 18 := m16
  have m17 : γ 1 15 0 71 = ρ 19 := m17
  have m18 : γ 1 15 0 81 = ρ 9 := m18
  have m19 : γ 1 109 0 (ρ 15) = ρ 20 := m19
  have m20 : γ 1 108 0 (ρ 15) = ρ 21 := m20
  have m21 : γ 0 66 0 (ρ 7) = ρ 22 := m21
  have m22 : γ 0 70 0 (4 * ρ 0) = ρ 23 := m22
  have m23 : γ 0 70 0 (4 * ρ 0 + 1) = ρ 24 := m23
  have m24 : γ 1 105 0 (4 * ρ 15 + 1) = ρ 25 := m24
  have m25 : γ 1 105 0 (4 * ρ 15 + 2) = ρ 26 := m25
  have m26 : γ 1 105 0 (4 * ρ 15 + 3) = ρ 27 := m26
  have m27 : γ 1 97 0 (ρ 19) = ρ 28 := m27
  have m28 : γ 1 100 0 (ρ 7) = ρ 29 := m28
  have m29 : γ 1 101 0 (ρ 7) = ρ 30 := m29
  have m30 : γ 6 15 0 71 = ρ 31 := m30
  have m31 : γ 6 97 0 (ρ 19) = ρ 32 := m31
  have m32 : γ 6 100 0 (ρ 7) = ρ 33 := m32
  have m33 : γ 6 101 0 (ρ 7) = ρ 34 := m33
  have m34 : γ 6 15 0 77 = ρ 35 := m34
  obtain ⟨⟨⟨⟨⟨⟨-, c1⟩, c2⟩, c3⟩, c4⟩, c5⟩, c6⟩ := hc
  have c1 : ∀ (G : Nat) (k j : Int), ¬ rMdP m51_ G j → γ 1 G k j = γ 0 G k j := c1
  have c2 : γ 2 = rUp (γ 1) 102 0 0 (ρ 21) := c2
  have c3 : γ 3 = rUp (γ 2) 102 0 1 (ρ 25) := c3
  have c4 : γ 4 = rUp (γ 3) 102 0 2 (ρ 26) := c4
  have c5 : γ 5 = rUp (γ 4) 102 0 3 (ρ 27) := c5
  have c6 : ∀ (G : Nat) (k j : Int), ¬ rMdP m40_ G j → γ 6 G k j = γ 5 G k j := c6
  obtain ⟨l0, -⟩ := hl
  have l0 : sn57 [ρ 7, ρ 0, ρ 2, ρ 19, ρ 28, ρ 29, ρ 30, ρ 10, ρ 17] (γ 5) 0 0 (γ 6) := hS57 _ _ _ _ _ l0
  show jn75 [ρ 0, ρ 1, ρ 2, ρ 3, ρ 4, ρ 5, ρ 6, ρ 7, ρ 8, ρ 9, ρ 10, ρ 11, ρ 12, ρ 13, ρ 14] (γ 0) 0 [ρ 0, ρ 1, ρ 2, ρ 3, ρ 4, ρ 5, ρ 6, ρ 7, ρ 8, ρ 9, ρ 10, ρ 11, ρ 12, ρ 13, ρ 14, ρ 15 + 1, ρ 16, ρ 35, ρ 18, ρ 31] (γ 6)
  have hD : en75 (γ 0) (0, [ρ 0, ρ 15], γ 1) = .inl (0, [ρ 0, ρ 15 + 1], γ 6) := by
    unfold en75
    refine (if_pos (show (0 : Nat) = 0 by decide)).trans ?_
    refine (zLet_eq (show _ = γ 1 from rfl)).trans ?_
    refine (zLet_eq (show _ = ρ 0 from rfl)).trans ?_
    refine (zLet_eq (show _ = ρ 15 from rfl)).trans ?_
    refine (zLet_eq m2).trans ?_
    refine (zLet_eq m6).trans ?_
    refine (zLet_eq m15).trans ?_
    refine (zLet_eq m16).trans ?_
    refine (if_neg (show ¬ (ρ 15 ≥ ρ 18) by omega)).trans ?_
    refine (if_neg (show ¬ (ρ 17 ≠ 0) by omega)).trans ?_
    refine (if_neg (show ¬ (ρ 3 ≤ 2) by omega)).trans ?_
    refine (zLet_eq m19).trans ?_
    refine (if_pos (show ρ 20 ≠ 0 by omega)).trans ?_
    refine (zLet_eq m20).trans ?_
    refine (zLet_eq m21).trans ?_
    refine (if_neg (show ¬ (0 ≥ ρ 22) by omega)).trans ?_
    refine (zLet_eq m22).trans ?_
    refine (if_neg (show ¬ (ρ 23 ≠ 3) by omega)).trans ?_
    refine (zLet_eq c2.symm).trans ?_
    refine (if_neg (show ¬ (1 ≥ ρ 22) by omega)).trans ?_
    refine (zLet_eq m23).trans ?_
    refine (if_pos (show ρ 24 ≠ 3 by omega)).trans ?_
    refine (zLet_eq m24).trans ?_
    refine (zLet_eq c3.symm).trans ?_
    refine (if_pos (show 2 ≥ ρ 22 by omega)).trans ?_
    refine (zLet_eq m25).trans ?_
    refine (zLet_eq c4.symm).trans ?_
    refine (zLet_eq m26).trans ?_
    refine (zLet_eq c5.symm).trans ?_
    refine (zLet_eq (show fn57 [ρ 7, ρ 0] (γ 5) = (0, 0, γ 6) from l0.symm)).trans ?_
    refine (zLet_eq (show _ = γ 6 from rfl)).trans ?_
    rfl
  exact zGoo_ato hJ hD
theorem vn75a0_82 {S : Nat → zSpc} (hS57 : ∀ x g o v gz, S 57 x g o v gz → sn57 x g o v gz) (hS73 : ∀ x g o v gz, S 73 x g o v gz → sn73 x g o v gz) {a : List Int} {g : rHp} : ∀ (ρ : Nat → Int) (γ : Nat → rHp), jn75 a g 0 (zAg (zNA a75_ 0) ρ) (γ 1) → zO 15 S a g q75a0_82 ρ γ → zGl (fun i vs g1 => jn75 a g i vs g1) (sn75 a g) q75a0_82 ρ γ := by
  intro ρ γ hJ h
  obtain ⟨ha, hg, hr, hf, hm, hc, hl⟩ := h
  have ha : a = [ρ 0, ρ 1, ρ 2, ρ 3, ρ 4, ρ 5, ρ 6, ρ 7, ρ 8, ρ 9, ρ 10, ρ 11, ρ 12, ρ 13, ρ 14] := ha
  subst ha
  subst hg
  have hJ : jn75 [ρ 0, ρ 1, ρ 2, ρ 3, ρ 4, ρ 5, ρ 6, ρ 7, ρ 8, ρ 9, ρ 10, ρ 11, ρ 12, ρ 13, ρ 14] (γ 0) 0 [ρ 0, ρ 1, ρ 2, ρ 3, ρ 4, ρ 5, ρ 6, ρ 7, ρ 8, ρ 9, ρ 10, ρ 11, ρ 12, ρ 13, ρ 14, ρ 15, ρ 16, ρ 17, ρ 18, ρ 19] (γ 1) := hJ
  obtain ⟨r0, r1, r2, r3, r4, r5, r6, r7, r8, r9, r10, r11, r12, r13, r14, r15, r16, r17, r18, r19, r20, r21, r22, r23, r24, r25, r26, r27, r28, r29, r30, r31, r32, r33, r34, r35, r36, -⟩ := hr
  have r0 : (0 : Int) ≤ ρ 0 ∧ ρ 0 ≤ 59 := r0
  have r1 : (0 : Int) ≤ ρ 1 ∧ ρ 1 ≤ 60 := r1
  have r2 : (0 : Int) ≤ ρ 2 ∧ ρ 2 ≤ 20 := r2
  have r3 : (3 : Int) ≤ ρ 3 ∧ ρ 3 ≤ 4 := r3
  have r4 : (0 : Int) ≤ ρ 4 ∧ ρ 4 ≤ 50001 := r4
  have r5 : (0 : Int) ≤ ρ 5 ∧ ρ 5 ≤ 3 := r5
  have r6 : (0 : Int) ≤ ρ 6 ∧ ρ 6 ≤ 2000 := r6
  have r7 : (0 : Int) ≤ ρ 7 ∧ ρ 7 ≤ 19 := r7
  have r8 : (0 : Int) ≤ ρ 8 ∧ ρ 8 ≤ 61 := r8
  have r9 : (0 : Int) ≤ ρ 9 ∧ ρ 9 ≤ 2000 := r9
  have r10 : ((-2147483648) : Int) ≤ ρ 10 ∧ ρ 10 ≤ 2147483647 := r10
  have r11 : (0 : Int) ≤ ρ 11 ∧ ρ 11 ≤ 2000 := r11
  have r12 : (0 : Int) ≤ ρ 12 ∧ ρ 12 ≤ 2000 := r12
  have r13 : (0 : Int) ≤ ρ 13 ∧ ρ 13 ≤ 2000 := r13
  have r14 : (0 : Int) ≤ ρ 14 ∧ ρ 14 ≤ 50001 := r14
  have r15 : (0 : Int) ≤ ρ 15 ∧ ρ 15 ≤ 2000 := r15
  have r16 : (0 : Int) ≤ ρ 16 ∧ ρ 16 ≤ 50001 := r16
  have r17 : (0 : Int) ≤ ρ 17 ∧ ρ 17 ≤ 0 := r17
  have r18 : (0 : Int) ≤ ρ 18 ∧ ρ 18 ≤ 2000 := r18
  have r19 : (0 : Int) ≤ ρ 19 ∧ ρ 19 ≤ 2000 := r19
  have r20 : (1 : Int) ≤ ρ 20 ∧ ρ 20 ≤ 1 := r20
  have r21 : ((-2147483648) : Int) ≤ ρ 21 ∧ ρ 21 ≤ 1099511640064 := r21
  have r22 : (3 : Int) ≤ ρ 22 ∧ ρ 22 ≤ 3 := r22
  have r23 : (3 : Int) ≤ ρ 23 ∧ ρ 23 ≤ 3 := r23
  have r24 : (0 : Int) ≤ ρ 24 ∧ ρ 24 ≤ 2 := r24
  have r25 : ((-2147483648) : Int) ≤ ρ 25 ∧ ρ 25 ≤ 1099511640064 := r25
  have r26 : (0 : Int) ≤ ρ 26 ∧ ρ 26 ≤ 2 := r26
  have r27 : ((-2147483648) : Int) ≤ ρ 27 ∧ ρ 27 ≤ 1099511640064 := r27
  have r28 : ((-2147483648) : Int) ≤ ρ 28 ∧ ρ 28 ≤ 1099511640064 := r28
  have r29 : (0 : Int) ≤ ρ 29 ∧ ρ 29 ≤ 8 := r29
  have r30 : ((-1) : Int) ≤ ρ 30 ∧ ρ 30 ≤ 1999 := r30
  have r31 : (0 : Int) ≤ ρ 31 ∧ ρ 31 ≤ 1999 := r31
  have r32 : (1 : Int) ≤ ρ 32 ∧ ρ 32 ≤ 2000 := r32
  have r33 : (0 : Int) ≤ ρ 33 ∧ ρ 33 ≤ 8 := r33
  have r34 : ((-1) : Int) ≤ ρ 34 ∧ ρ 34 ≤ 1999 := r34
  have r35 : (0 : Int) ≤ ρ 35 ∧ ρ 35 ≤ 1999 := r35
  have r36 : (0 : Int) ≤ ρ 36 ∧ ρ 36 ≤ 3 := r36
  obtain ⟨f0, f1, f2, f3, f4, f5, f6, f7, f8, f9, -⟩ := hf
  have f0 : (0 : Int) ≤ -ρ 7 + ρ 2 + (-1) := f0
  have f1 : (0 : Int) ≤ ρ 32 + -ρ 19 := f1
  have f2 : (0 : Int) ≤ ρ 34 + -ρ 30 := f2
  have f3 : (0 : Int) ≤ ρ 18 + -ρ 15 + (-1) := f3
  have f4 : (0 : Int) ≤ ρ 17 + -ρ 16 + 50000 := f4
  have f5 : (0 : Int) ≤ ρ 1 + -ρ 0 + (-1) := f5
  have f6 : (0 : Int) ≤ ρ 19 + -ρ 9 := f6
  have f7 : (0 : Int) ≤ ρ 18 + -ρ 15 := f7
  have f8 : (0 : Int) ≤ ρ 17 + -ρ 5 := f8
  have f9 : (0 : Int) ≤ ρ 16 + -ρ 4 := f9
  obtain ⟨m0, m1, m2, m3, m4, m5, m6, m7, m8, m9, m10, m11, m12, m13, m14, m15, m16, m17, m18, m19, m20, m21, m22, m23, m24, m25, m26, m27, m28, m29, m30, m31, m32, m33, m34, m35, -⟩ := hm
  have m0 : γ 0 15 0 32 = ρ 1 := m0
  have m1 : γ 0 15 0 13 = ρ 2 := m1
  have m2 : γ 0 71 0 (ρ 0) = ρ 3 := m2
  have m3 : γ 0 15 0 72 = ρ 4 := m3
  have m4 : γ 0 15 0 77 = ρ 5 := m4
  have m5 : γ 0 15 0 90 = ρ 6 := m5
  have m6 : γ 0 69 0 (ρ 0) = ρ 7 := m6
  have m7 : γ 0 15 0 44 = ρ 8 := m7
  have m8 : γ 0 15 0 71 = ρ 9 := m8
  have m9 : γ 0 15 0 76 = ρ 10 := m9
  have m10 : γ 0 15 0 81 = ρ 11 := m10
  have m11 : γ 0 15 0 82 = ρ 12 := m11
  have m12 : γ 0 15 0 83 = ρ 13 := m12
  have m13 : γ 0 15 0 94 = ρ 14 := m13
  have m14 : γ 1 15 0 72 = ρ 16 := m14
  have m15 : γ 1 15 0 77 = ρ 17 := m15
  have m16 : γ 1 15 0 90 = ρ 18 := m16
  have m17 : γ 1 15 0 71 = ρ 19 := m17
  have m18 : γ 1 15 0 81 = ρ 9 := m18
  have m19 : γ 1 109 0 (ρ 15) = ρ 20 := m19
  have m20 : γ 1 108 0 (ρ 15) = ρ 21 := m20
  have m21 : γ 0 66 0 (ρ 7) = ρ 22 := m21
  have m22 : γ 0 70 0 (4 * ρ 0) = ρ 23 := m22
  have m23 : γ 0 70 0 (4 * ρ 0 + 1) = ρ 24 := m23
  have m24 : γ 1 105 0 (4 * ρ 15 + 1) = ρ 25 := m24
  have m25 : γ 0 70 0 (4 * ρ 0 + 2) = ρ 26 := m25
  have m26 : γ 1 105 0 (4 * ρ 15 + 2) = ρ 27 := m26
  have m27 : γ 1 105 0 (4 * ρ 15 + 3) = ρ 28 := m27
  have m28 : γ 1 97 0 (ρ 19) = ρ 29 := m28
  have m29 : γ 1 100 0 (ρ 7) = ρ 30 := m29
  have m30 : γ 1 101 0 (ρ 7) = ρ 31 := m30
  have m31 : γ 6 15 0 71 = ρ 32 := m31
  have m32 : γ 6 97 0 (ρ 19) = ρ 33 := m32
  have m33 : γ 6 100 0 (ρ 7) = ρ 34 := m33
  have m34 : γ 6 101 0 (ρ 7) = ρ 35 := m34
  have m35 : γ 6 15 0 77 = ρ 36 := m35
  obtain ⟨⟨⟨⟨⟨⟨-, c1⟩, c2⟩, c3⟩, c4⟩, c5⟩, c6⟩ := hc
  have c1 : ∀ (G : Nat) (k j : Int), ¬ rMdP m51_ G j → γ 1 G k j = γ 0 G k j := c1
  have c2 : γ 2 = rUp (γ 1) 102 0 0 (ρ 21) := c2
  have c3 : γ 3 = rUp (γ 2) 102 0 1 (ρ 25) := c3
  have c4 : γ 4 = rUp (γ 3) 102 0 2 (ρ 27) := c4
  have c5 : γ 5 = rUp (γ 4) 102 0 3 (ρ 28) := c5
  have c6 : ∀ (G : Nat) (k j : Int), ¬ rMdP m40_ G j → γ 6 G k j = γ 5 G k j := c6
  obtain ⟨l0, -⟩ := hl
  have l0 : sn57 [ρ 7, ρ 0, ρ 2, ρ 19, ρ 29, ρ 30, ρ 31, ρ 10, ρ 17] (γ 5) 0 0 (γ 6) := hS57 _ _ _ _ _ l0
  show jn75 [ρ 0, ρ 1, ρ 2, ρ 3, ρ 4, ρ 5, ρ 6, ρ 7, ρ 8, ρ 9, ρ 10, ρ 11, ρ 12, ρ 13, ρ 14] (γ 0) 0 [ρ 0, ρ 1, ρ 2, ρ 3, ρ 4, ρ 5, ρ 6, ρ 7, ρ 8, ρ 9, ρ 10, ρ 11, ρ 12, ρ 13, ρ 14, ρ 15 + 1, ρ 16, ρ 36, ρ 18, ρ 32] (γ 6)
  have hD : en75 (γ 0) (0, [ρ 0, ρ 15], γ 1) = .inl (0, [ρ 0, ρ 15 + 1], γ 6) := by
    unfold en75
    refine (if_pos (show (0 : Nat) = 0 by decide)).trans ?_
    refine (zLet_eq (show _ = γ 1 from rfl)).trans ?_
    refine (zLet_eq (show _ = ρ 0 from rfl)).trans ?_
    refine (zLet_eq (show _ = ρ 15 from rfl)).trans ?_
    refine (zLet_eq m2).trans ?_
    refine (zLet_eq m6).trans ?_
    refine (zLet_eq m15).trans ?_
    refine (zLet_eq m16).trans ?_
    refine (if_neg (show ¬ (ρ 15 ≥ ρ 18) by omega)).trans ?_
    refine (if_neg (show ¬ (ρ 17 ≠ 0) by omega)).trans ?_
    refine (if_neg (show ¬ (ρ 3 ≤ 2) by omega)).trans ?_
    refine (zLet_eq m19).trans ?_
    refine (if_pos (show ρ 20 ≠ 0 by omega)).trans ?_
    refine (zLet_eq m20).trans ?_
    refine (zLet_eq m21).trans ?_
    refine (if_neg (show ¬ (0 ≥ ρ 22) by omega)).trans ?_
    refine (zLet_eq m22).trans ?_
    refine (if_neg (show ¬ (ρ 23 ≠ 3) by omega)).trans ?_
    refine (zLet_eq c2.symm).trans ?_
    refine (if_neg (show ¬ (1 ≥ ρ 22) by omega)).trans ?_
    refine (zLet_eq m23).trans ?_
    refine (if_pos (show ρ 24 ≠ 3 by omega)).trans ?_
    refine (zLet_eq m24).trans ?_
    refine (zLet_eq c3.symm).trans ?_
    refine (if_neg (show ¬ (2 ≥ ρ 22) by omega)).trans ?_
    refine (zLet_eq m25).trans ?_
    refine (if_pos (show ρ 26 ≠ 3 by omega)).trans ?_
    refine (zLet_eq m26).trans ?_
    refine (zLet_eq c4.symm).trans ?_
    refine (if_pos (show 3 ≥ ρ 22 by omega)).trans ?_
    refine (zLet_eq m27).trans ?_
    refine (zLet_eq c5.symm).trans ?_
    refine (zLet_eq (show fn57 [ρ 7, ρ 0] (γ 5) = (0, 0, γ 6) from l0.symm)).trans ?_
    refine (zLet_eq (show _ = γ 6 from rfl)).trans ?_
    rfl
  exact zGoo_ato hJ hD
theorem vn75a0_83 {S : Nat → zSpc} (hS57 : ∀ x g o v gz, S 57 x g o v gz → sn57 x g o v gz) (hS73 : ∀ x g o v gz, S 73 x g o v gz → sn73 x g o v gz) {a : List Int} {g : rHp} : ∀ (ρ : Nat → Int) (γ : Nat → rHp), jn75 a g 0 (zAg (zNA a75_ 0) ρ) (γ 1) → zO 15 S a g q75a0_83 ρ γ → zGl (fun i vs g1 => jn75 a g i vs g1) (sn75 a g) q75a0_83 ρ γ := by
  intro ρ γ hJ h
  obtain ⟨ha, hg, hr, hf, hm, hc, hl⟩ := h
  have ha : a = [ρ 0, ρ 1, ρ 2, ρ 3, ρ 4, ρ 5, ρ 6, ρ 7, ρ 8, ρ 9, ρ 10, ρ 11, ρ 12, ρ 13, ρ 14] := ha
  subst ha
  subst hg
  have hJ : jn75 [ρ 0, ρ 1, ρ 2, ρ 3, ρ 4, ρ 5, ρ 6, ρ 7, ρ 8, ρ 9, ρ 10, ρ 11, ρ 12, ρ 13, ρ 14] (γ 0) 0 [ρ 0, ρ 1, ρ 2, ρ 3, ρ 4, ρ 5, ρ 6, ρ 7, ρ 8, ρ 9, ρ 10, ρ 11, ρ 12, ρ 13, ρ 14, ρ 15, ρ 16, ρ 17, ρ 18, ρ 19] (γ 1) := hJ
  obtain ⟨r0, r1, r2, r3, r4, r5, r6, r7, r8, r9, r10, r11, r12, r13, r14, r15, r16, r17, r18, r19, r20, r21, r22, r23, r24, r25, r26, r27, r28, r29, r30, r31, r32, r33, r34, r35, r36, r37, -⟩ := hr
  have r0 : (0 : Int) ≤ ρ 0 ∧ ρ 0 ≤ 59 := r0
  have r1 : (0 : Int) ≤ ρ 1 ∧ ρ 1 ≤ 60 := r1
  have r2 : (0 : Int) ≤ ρ 2 ∧ ρ 2 ≤ 20 := r2
  have r3 : (3 : Int) ≤ ρ 3 ∧ ρ 3 ≤ 4 := r3
  have r4 : (0 : Int) ≤ ρ 4 ∧ ρ 4 ≤ 50001 := r4
  have r5 : (0 : Int) ≤ ρ 5 ∧ ρ 5 ≤ 3 := r5
  have r6 : (0 : Int) ≤ ρ 6 ∧ ρ 6 ≤ 2000 := r6
  have r7 : (0 : Int) ≤ ρ 7 ∧ ρ 7 ≤ 19 := r7
  have r8 : (0 : Int) ≤ ρ 8 ∧ ρ 8 ≤ 61 := r8
  have r9 : (0 : Int) ≤ ρ 9 ∧ ρ 9 ≤ 2000 := r9
  have r10 : ((-2147483648) : Int) ≤ ρ 10 ∧ ρ 10 ≤ 2147483647 := r10
  have r11 : (0 : Int) ≤ ρ 11 ∧ ρ 11 ≤ 2000 := r11
  have r12 : (0 : Int) ≤ ρ 12 ∧ ρ 12 ≤ 2000 := r12
  have r13 : (0 : Int) ≤ ρ 13 ∧ ρ 13 ≤ 2000 := r13
  have r14 : (0 : Int) ≤ ρ 14 ∧ ρ 14 ≤ 50001 := r14
  have r15 : (0 : Int) ≤ ρ 15 ∧ ρ 15 ≤ 2000 := r15
  have r16 : (0 : Int) ≤ ρ 16 ∧ ρ 16 ≤ 50001 := r16
  have r17 : (0 : Int) ≤ ρ 17 ∧ ρ 17 ≤ 0 := r17
  have r18 : (0 : Int) ≤ ρ 18 ∧ ρ 18 ≤ 2000 := r18
  have r19 : (0 : Int) ≤ ρ 19 ∧ ρ 19 ≤ 2000 := r19
  have r20 : (1 : Int) ≤ ρ 20 ∧ ρ 20 ≤ 1 := r20
  have r21 : ((-2147483648) : Int) ≤ ρ 21 ∧ ρ 21 ≤ 1099511640064 := r21
  have r22 : (4 : Int) ≤ ρ 22 ∧ ρ 22 ≤ 4 := r22
  have r23 : (3 : Int) ≤ ρ 23 ∧ ρ 23 ≤ 3 := r23
  have r24 : (0 : Int) ≤ ρ 24 ∧ ρ 24 ≤ 2 := r24
  have r25 : ((-2147483648) : Int) ≤ ρ 25 ∧ ρ 25 ≤ 1099511640064 := r25
  have r26 : (0 : Int) ≤ ρ 26 ∧ ρ 26 ≤ 2 := r26
  have r27 : ((-2147483648) : Int) ≤ ρ 27 ∧ ρ 27 ≤ 1099511640064 := r27
  have r28 : (0 : Int) ≤ ρ 28 ∧ ρ 28 ≤ 2 := r28
  have r29 : ((-2147483648) : Int) ≤ ρ 29 ∧ ρ 29 ≤ 1099511640064 := r29
  have r30 : (0 : Int) ≤ ρ 30 ∧ ρ 30 ≤ 8 := r30
  have r31 : ((-1) : Int) ≤ ρ 31 ∧ ρ 31 ≤ 1999 := r31
  have r32 : (0 : Int) ≤ ρ 32 ∧ ρ 32 ≤ 1999 := r32
  have r33 : (1 : Int) ≤ ρ 33 ∧ ρ 33 ≤ 2000 := r33
  have r34 : (0 : Int) ≤ ρ 34 ∧ ρ 34 ≤ 8 := r34
  have r35 : ((-1) : Int) ≤ ρ 35 ∧ ρ 35 ≤ 1999 := r35
  have r36 : (0 : Int) ≤ ρ 36 ∧ ρ 36 ≤ 1999 := r36
  have r37 : (0 : Int) ≤ ρ 37 ∧ ρ 37 ≤ 3 := r37
  obtain ⟨f0, f1, f2, f3, f4, f5, f6, f7, f8, f9, -⟩ := hf
  have f0 : (0 : Int) ≤ -ρ 7 + ρ 2 + (-1) := f0
  have f1 : (0 : Int) ≤ ρ 33 + -ρ 19 := f1
  have f2 : (0 : Int) ≤ ρ 35 + -ρ 31 := f2
  have f3 : (0 : Int) ≤ ρ 18 + -ρ 15 + (-1) := f3
  have f4 : (0 : Int) ≤ ρ 17 + -ρ 16 + 50000 := f4
  have f5 : (0 : Int) ≤ ρ 1 + -ρ 0 + (-1) := f5
  have f6 : (0 : Int) ≤ ρ 19 + -ρ 9 := f6
  have f7 : (0 : Int) ≤ ρ 18 + -ρ 15 := f7
  have f8 : (0 : Int) ≤ ρ 17 + -ρ 5 := f8
  have f9 : (0 : Int) ≤ ρ 16 + -ρ 4 := f9
  obtain ⟨m0, m1, m2, m3, m4, m5, m6, m7, m8, m9, m10, m11, m12, m13, m14, m15, m16, m17, m18, m19, m20, m21, m22, m23, m24, m25, m26, m27, m28, m29, m30, m31, m32, m33, m34, m35, m36, -⟩ := hm
  have m0 : γ 0 15 0 32 = ρ 1 := m0
  have m1 : γ 0 15 0 13 = ρ 2 := m1
  have m2 : γ 0 71 0 (ρ 0) = ρ 3 := m2
  have m3 : γ 0 15 0 72 = ρ 4 := m3
  have m4 : γ 0 15 0 77 = ρ 5 := m4
  have m5 : γ 0 15 0 90 = ρ 6 := m5
  have m6 : γ 0 69 0 (ρ 0) = ρ 7 := m6
  have m7 : γ 0 15 0 44 = ρ 8 := m7
  have m8 : γ 0 15 0 71 = ρ 9 := m8
  have m9 : γ 0 15 0 76 = ρ 10 := m9
  have m10 : γ 0 15 0 81 = ρ 11 := m10
  have m11 : γ 0 15 0 82 = ρ 12 := m11
  have m12 : γ 0 15 0 83 = ρ 13 := m12
  have m13 : γ 0 15 0 94 = ρ 14 := m13
  have m14 : γ 1 15 0 72 = ρ 16 := m14
  have m15 : γ 1 15 0 77 = ρ 17 := m15
  have m16 : γ 1 15 0 90 = ρ 18 := m16
  have m17 : γ 1 15 0 71 = ρ 19 := m17
  have m18 : γ 1 15 0 81 = ρ 9 := m18
  have m19 : γ 1 109 0 (ρ 15) = ρ 20 := m19
  have m20 : γ 1 108 0 (ρ 15) = ρ 21 := m20
  have m21 : γ 0 66 0 (ρ 7) = ρ 22 := m21
  have m22 : γ 0 70 0 (4 * ρ 0) = ρ 23 := m22
  have m23 : γ 0 70 0 (4 * ρ 0 + 1) = ρ 24 := m23
  have m24 : γ 1 105 0 (4 * ρ 15 + 1) = ρ 25 := m24
  have m25 : γ 0 70 0 (4 * ρ 0 + 2) = ρ 26 := m25
  have m26 : γ 1 105 0 (4 * ρ 15 + 2) = ρ 27 := m26
  have m27 : γ 0 70 0 (4 * ρ 0 + 3) = ρ 28 := m27
  have m28 : γ 1 105 0 (4 * ρ 15 + 3) = ρ 29 := m28
  have m29 : γ 1 97 0 (ρ 19) = ρ 30 := m29
  have m30 : γ 1 100 0 (ρ 7) = ρ 31 := m30
  have m31 : γ 1 101 0 (ρ 7) = ρ 32 := m31
  have m32 : γ 6 15 0 71 = ρ 33 := m32
  have m33 : γ 6 97 0 (ρ 19) = ρ 34 := m33
  have m34 : γ 6 100 0 (ρ 7) = ρ 35 := m34
  have m35 : γ 6 101 0 (ρ 7) = ρ 36 := m35
  have m36 : γ 6 15 0 77 = ρ 37 := m36
  obtain ⟨⟨⟨⟨⟨⟨-, c1⟩, c2⟩, c3⟩, c4⟩, c5⟩, c6⟩ := hc
  have c1 : ∀ (G : Nat) (k j : Int), ¬ rMdP m51_ G j → γ 1 G k j = γ 0 G k j := c1
  have c2 : γ 2 = rUp (γ 1) 102 0 0 (ρ 21) := c2
  have c3 : γ 3 = rUp (γ 2) 102 0 1 (ρ 25) := c3
  have c4 : γ 4 = rUp (γ 3) 102 0 2 (ρ 27) := c4
  have c5 : γ 5 = rUp (γ 4) 102 0 3 (ρ 29) := c5
  have c6 : ∀ (G : Nat) (k j : Int), ¬ rMdP m40_ G j → γ 6 G k j = γ 5 G k j := c6
  obtain ⟨l0, -⟩ := hl
  have l0 : sn57 [ρ 7, ρ 0, ρ 2, ρ 19, ρ 30, ρ 31, ρ 32, ρ 10, ρ 17] (γ 5) 0 0 (γ 6) := hS57 _ _ _ _ _ l0
  show jn75 [ρ 0, ρ 1, ρ 2, ρ 3, ρ 4, ρ 5, ρ 6, ρ 7, ρ 8, ρ 9, ρ 10, ρ 11, ρ 12, ρ 13, ρ 14] (γ 0) 0 [ρ 0, ρ 1, ρ 2, ρ 3, ρ 4, ρ 5, ρ 6, ρ 7, ρ 8, ρ 9, ρ 10, ρ 11, ρ 12, ρ 13, ρ 14, ρ 15 + 1, ρ 16, ρ 37, ρ 18, ρ 33] (γ 6)
  have hD : en75 (γ 0) (0, [ρ 0, ρ 15], γ 1) = .inl (0, [ρ 0, ρ 15 + 1], γ 6) := by
    unfold en75
    refine (if_pos (show (0 : Nat) = 0 by decide)).trans ?_
    refine (zLet_eq (show _ = γ 1 from rfl)).trans ?_
    refine (zLet_eq (show _ = ρ 0 from rfl)).trans ?_
    refine (zLet_eq (show _ = ρ 15 from rfl)).trans ?_
    refine (zLet_eq m2).trans ?_
    refine (zLet_eq m6).trans ?_
    refine (zLet_eq m15).trans ?_
    refine (zLet_eq m16).trans ?_
    refine (if_neg (show ¬ (ρ 15 ≥ ρ 18) by omega)).trans ?_
    refine (if_neg (show ¬ (ρ 17 ≠ 0) by omega)).trans ?_
    refine (if_neg (show ¬ (ρ 3 ≤ 2) by omega)).trans ?_
    refine (zLet_eq m19).trans ?_
    refine (if_pos (show ρ 20 ≠ 0 by omega)).trans ?_
    refine (zLet_eq m20).trans ?_
    refine (zLet_eq m21).trans ?_
    refine (if_neg (show ¬ (0 ≥ ρ 22) by omega)).trans ?_
    refine (zLet_eq m22).trans ?_
    refine (if_neg (show ¬ (ρ 23 ≠ 3) by omega)).trans ?_
    refine (zLet_eq c2.symm).trans ?_
    refine (if_neg (show ¬ (1 ≥ ρ 22) by omega)).trans ?_
    refine (zLet_eq m23).trans ?_
    refine (if_pos (show ρ 24 ≠ 3 by omega)).trans ?_
    refine (zLet_eq m24).trans ?_
    refine (zLet_eq c3.symm).trans ?_
    refine (if_neg (show ¬ (2 ≥ ρ 22) by omega)).trans ?_
    refine (zLet_eq m25).trans ?_
    refine (if_pos (show ρ 26 ≠ 3 by omega)).trans ?_
    refine (zLet_eq m26).trans ?_
    refine (zLet_eq c4.symm).trans ?_
    refine (if_neg (show ¬ (3 ≥ ρ 22) by omega)).trans ?_
    refine (zLet_eq m27).trans ?_
    refine (if_pos (show ρ 28 ≠ 3 by omega)).trans ?_
    refine (zLet_eq m28).trans ?_
    refine (zLet_eq c5.symm).trans ?_
    refine (zLet_eq (show fn57 [ρ 7, ρ 0] (γ 5) = (0, 0, γ 6) from l0.symm)).trans ?_
    refine (zLet_eq (show _ = γ 6 from rfl)).trans ?_
    rfl
  exact zGoo_ato hJ hD
theorem vn75a0_84 {S : Nat → zSpc} (hS57 : ∀ x g o v gz, S 57 x g o v gz → sn57 x g o v gz) (hS73 : ∀ x g o v gz, S 73 x g o v gz → sn73 x g o v gz) {a : List Int} {g : rHp} : ∀ (ρ : Nat → Int) (γ : Nat → rHp), jn75 a g 0 (zAg (zNA a75_ 0) ρ) (γ 1) → zO 15 S a g q75a0_84 ρ γ → zGl (fun i vs g1 => jn75 a g i vs g1) (sn75 a g) q75a0_84 ρ γ := by
  intro ρ γ hJ h
  obtain ⟨ha, hg, hr, hf, hm, hc, hl⟩ := h
  have ha : a = [ρ 0, ρ 1, ρ 2, ρ 3, ρ 4, ρ 5, ρ 6, ρ 7, ρ 8, ρ 9, ρ 10, ρ 11, ρ 12, ρ 13, ρ 14] := ha
  subst ha
  subst hg
  have hJ : jn75 [ρ 0, ρ 1, ρ 2, ρ 3, ρ 4, ρ 5, ρ 6, ρ 7, ρ 8, ρ 9, ρ 10, ρ 11, ρ 12, ρ 13, ρ 14] (γ 0) 0 [ρ 0, ρ 1, ρ 2, ρ 3, ρ 4, ρ 5, ρ 6, ρ 7, ρ 8, ρ 9, ρ 10, ρ 11, ρ 12, ρ 13, ρ 14, ρ 15, ρ 16, ρ 17, ρ 18, ρ 19] (γ 1) := hJ
  obtain ⟨r0, r1, r2, r3, r4, r5, r6, r7, r8, r9, r10, r11, r12, r13, r14, r15, r16, r17, r18, r19, r20, r21, r22, r23, r24, r25, r26, r27, r28, r29, r30, r31, r32, r33, r34, r35, r36, -⟩ := hr
  have r0 : (0 : Int) ≤ ρ 0 ∧ ρ 0 ≤ 59 := r0
  have r1 : (0 : Int) ≤ ρ 1 ∧ ρ 1 ≤ 60 := r1
  have r2 : (0 : Int) ≤ ρ 2 ∧ ρ 2 ≤ 20 := r2
  have r3 : (3 : Int) ≤ ρ 3 ∧ ρ 3 ≤ 4 := r3
  have r4 : (0 : Int) ≤ ρ 4 ∧ ρ 4 ≤ 50001 := r4
  have r5 : (0 : Int) ≤ ρ 5 ∧ ρ 5 ≤ 3 := r5
  have r6 : (0 : Int) ≤ ρ 6 ∧ ρ 6 ≤ 2000 := r6
  have r7 : (0 : Int) ≤ ρ 7 ∧ ρ 7 ≤ 19 := r7
  have r8 : (0 : Int) ≤ ρ 8 ∧ ρ 8 ≤ 61 := r8
  have r9 : (0 : Int) ≤ ρ 9 ∧ ρ 9 ≤ 2000 := r9
  have r10 : ((-2147483648) : Int) ≤ ρ 10 ∧ ρ 10 ≤ 2147483647 := r10
  have r11 : (0 : Int) ≤ ρ 11 ∧ ρ 11 ≤ 2000 := r11
  have r12 : (0 : Int) ≤ ρ 12 ∧ ρ 12 ≤ 2000 := r12
  have r13 : (0 : Int) ≤ ρ 13 ∧ ρ 13 ≤ 2000 := r13
  have r14 : (0 : Int) ≤ ρ 14 ∧ ρ 14 ≤ 50001 := r14
  have r15 : (0 : Int) ≤ ρ 15 ∧ ρ 15 ≤ 2000 := r15
  have r16 : (0 : Int) ≤ ρ 16 ∧ ρ 16 ≤ 50001 := r16
  have r17 : (0 : Int) ≤ ρ 17 ∧ ρ 17 ≤ 0 := r17
  have r18 : (0 : Int) ≤ ρ 18 ∧ ρ 18 ≤ 2000 := r18
  have r19 : (0 : Int) ≤ ρ 19 ∧ ρ 19 ≤ 2000 := r19
  have r20 : (1 : Int) ≤ ρ 20 ∧ ρ 20 ≤ 1 := r20
  have r21 : ((-2147483648) : Int) ≤ ρ 21 ∧ ρ 21 ≤ 1099511640064 := r21
  have r22 : (4 : Int) ≤ ρ 22 ∧ ρ 22 ≤ 4 := r22
  have r23 : (3 : Int) ≤ ρ 23 ∧ ρ 23 ≤ 3 := r23
  have r24 : (0 : Int) ≤ ρ 24 ∧ ρ 24 ≤ 2 := r24
  have r25 : ((-2147483648) : Int) ≤ ρ 25 ∧ ρ 25 ≤ 1099511640064 := r25
  have r26 : (0 : Int) ≤ ρ 26 ∧ ρ 26 ≤ 2 := r26
  have r27 : ((-2147483648) : Int) ≤ ρ 27 ∧ ρ 27 ≤ 1099511640064 := r27
  have r28 : (3 : Int) ≤ ρ 28 ∧ ρ 28 ≤ 3 := r28
  have r29 : (0 : Int) ≤ ρ 29 ∧ ρ 29 ≤ 8 := r29
  have r30 : ((-1) : Int) ≤ ρ 30 ∧ ρ 30 ≤ 1999 := r30
  have r31 : (0 : Int) ≤ ρ 31 ∧ ρ 31 ≤ 1999 := r31
  have r32 : (1 : Int) ≤ ρ 32 ∧ ρ 32 ≤ 2000 := r32
  have r33 : (0 : Int) ≤ ρ 33 ∧ ρ 33 ≤ 8 := r33
  have r34 : ((-1) : Int) ≤ ρ 34 ∧ ρ 34 ≤ 1999 := r34
  have r35 : (0 : Int) ≤ ρ 35 ∧ ρ 35 ≤ 1999 := r35
  have r36 : (0 : Int) ≤ ρ 36 ∧ ρ 36 ≤ 3 := r36
  obtain ⟨f0, f1, f2, f3, f4, f5, f6, f7, f8, f9, -⟩ := hf
  have f0 : (0 : Int) ≤ -ρ 7 + ρ 2 + (-1) := f0
  have f1 : (0 : Int) ≤ ρ 32 + -ρ 19 := f1
  have f2 : (0 : Int) ≤ ρ 34 + -ρ 30 := f2
  have f3 : (0 : Int) ≤ ρ 18 + -ρ 15 + (-1) := f3
  have f4 : (0 : Int) ≤ ρ 17 + -ρ 16 + 50000 := f4
  have f5 : (0 : Int) ≤ ρ 1 + -ρ 0 + (-1) := f5
  have f6 : (0 : Int) ≤ ρ 19 + -ρ 9 := f6
  have f7 : (0 : Int) ≤ ρ 18 + -ρ 15 := f7
  have f8 : (0 : Int) ≤ ρ 17 + -ρ 5 := f8
  have f9 : (0 : Int) ≤ ρ 16 + -ρ 4 := f9
  obtain ⟨m0, m1, m2, m3, m4, m5, m6, m7, m8, m9, m10, m11, m12, m13, m14, m15, m16, m17, m18, m19, m20, m21, m22, m23, m24, m25, m26, m27, m28, m29, m30, m31, m32, m33, m34, m35, -⟩ := hm
  have m0 : γ 0 15 0 32 = ρ 1 := m0
  have m1 : γ 0 15 0 13 = ρ 2 := m1
  have m2 : γ 0 71 0 (ρ 0) = ρ 3 := m2
  have m3 : γ 0 15 0 72 = ρ 4 := m3
  have m4 : γ 0 15 0 77 = ρ 5 := m4
  have m5 : γ 0 15 0 90 = ρ 6 := m5
  have m6 : γ 0 69 0 (ρ 0) = ρ 7 := m6
  have m7 : γ 0 15 0 44 = ρ 8 := m7
  have m8 : γ 0 15 0 71 = ρ 9 := m8
  have m9 : γ 0 15 0 76 = ρ 10 := m9
  have m10 : γ 0 15 0 81 = ρ 11 := m10
  have m11 : γ 0 15 0 82 = ρ 12 := m11
  have m12 : γ 0 15 0 83 = ρ 13 := m12
  have m13 : γ 0 15 0 94 = ρ 14 := m13
  have m14 : γ 1 15 0 72 = ρ 16 := m14
  have m15 : γ 1 15 0 77 = ρ 17 := m15
  have m16 : γ 1 15 0 90 = ρ 18 := m16
  have m17 : γ 1 15 0 71 = ρ 19 := m17
  have m18 : γ 1 15 0 81 = ρ 9 := m18
  have m19 : γ 1 109 0 (ρ 15) = ρ 20 := m19
  have m20 : γ 1 108 0 (ρ 15) = ρ 21 := m20
  have m21 : γ 0 66 0 (ρ 7) = ρ 22 := m21
  have m22 : γ 0 70 0 (4 * ρ 0) = ρ 23 := m22
  have m23 : γ 0 70 0 (4 * ρ 0 + 1) = ρ 24 := m23
  have m24 : γ 1 105 0 (4 * ρ 15 + 1) = ρ 25 := m24
  have m25 : γ 0 70 0 (4 * ρ 0 + 2) = ρ 26 := m25
  have m26 : γ 1 105 0 (4 * ρ 15 + 2) = ρ 27 := m26
  have m27 : γ 0 70 0 (4 * ρ 0 + 3) = ρ 28 := m27
  have m28 : γ 1 97 0 (ρ 19) = ρ 29 := m28
  have m29 : γ 1 100 0 (ρ 7) = ρ 30 := m29
  have m30 : γ 1 101 0 (ρ 7) = ρ 31 := m30
  have m31 : γ 6 15 0 71 = ρ 32 := m31
  have m32 : γ 6 97 0 (ρ 19) = ρ 33 := m32
  have m33 : γ 6 100 0 (ρ 7) = ρ 34 := m33
  have m34 : γ 6 101 0 (ρ 7) = ρ 35 := m34
  have m35 : γ 6 15 0 77 = ρ 36 := m35
  obtain ⟨⟨⟨⟨⟨⟨-, c1⟩, c2⟩, c3⟩, c4⟩, c5⟩, c6⟩ := hc
  have c1 : ∀ (G : Nat) (k j : Int), ¬ rMdP m51_ G j → γ 1 G k j = γ 0 G k j := c1
  have c2 : γ 2 = rUp (γ 1) 102 0 0 (ρ 21) := c2
  have c3 : γ 3 = rUp (γ 2) 102 0 1 (ρ 25) := c3
  have c4 : γ 4 = rUp (γ 3) 102 0 2 (ρ 27) := c4
  have c5 : γ 5 = rUp (γ 4) 102 0 3 (ρ 21) := c5
  have c6 : ∀ (G : Nat) (k j : Int), ¬ rMdP m40_ G j → γ 6 G k j = γ 5 G k j := c6
  obtain ⟨l0, -⟩ := hl
  have l0 : sn57 [ρ 7, ρ 0, ρ 2, ρ 19, ρ 29, ρ 30, ρ 31, ρ 10, ρ 17] (γ 5) 0 0 (γ 6) := hS57 _ _ _ _ _ l0
  show jn75 [ρ 0, ρ 1, ρ 2, ρ 3, ρ 4, ρ 5, ρ 6, ρ 7, ρ 8, ρ 9, ρ 10, ρ 11, ρ 12, ρ 13, ρ 14] (γ 0) 0 [ρ 0, ρ 1, ρ 2, ρ 3, ρ 4, ρ 5, ρ 6, ρ 7, ρ 8, ρ 9, ρ 10, ρ 11, ρ 12, ρ 13, ρ 14, ρ 15 + 1, ρ 16, ρ 36, ρ 18, ρ 32] (γ 6)
  have hD : en75 (γ 0) (0, [ρ 0, ρ 15], γ 1) = .inl (0, [ρ 0, ρ 15 + 1], γ 6) := by
    unfold en75
    refine (if_pos (show (0 : Nat) = 0 by decide)).trans ?_
    refine (zLet_eq (show _ = γ 1 from rfl)).trans ?_
    refine (zLet_eq (show _ = ρ 0 from rfl)).trans ?_
    refine (zLet_eq (show _ = ρ 15 from rfl)).trans ?_
    refine (zLet_eq m2).trans ?_
    refine (zLet_eq m6).trans ?_
    refine (zLet_eq m15).trans ?_
    refine (zLet_eq m16).trans ?_
    refine (if_neg (show ¬ (ρ 15 ≥ ρ 18) by omega)).trans ?_
    refine (if_neg (show ¬ (ρ 17 ≠ 0) by omega)).trans ?_
    refine (if_neg (show ¬ (ρ 3 ≤ 2) by omega)).trans ?_
    refine (zLet_eq m19).trans ?_
    refine (if_pos (show ρ 20 ≠ 0 by omega)).trans ?_
    refine (zLet_eq m20).trans ?_
    refine (zLet_eq m21).trans ?_
    refine (if_neg (show ¬ (0 ≥ ρ 22) by omega)).trans ?_
    refine (zLet_eq m22).trans ?_
    refine (if_neg (show ¬ (ρ 23 ≠ 3) by omega)).trans ?_
    refine (zLet_eq c2.symm).trans ?_
    refine (if_neg (show ¬ (1 ≥ ρ 22) by omega)).trans ?_
    refine (zLet_eq m23).trans ?_
    refine (if_pos (show ρ 24 ≠ 3 by omega)).trans ?_
    refine (zLet_eq m24).trans ?_
    refine (zLet_eq c3.symm).trans ?_
    refine (if_neg (show ¬ (2 ≥ ρ 22) by omega)).trans ?_
    refine (zLet_eq m25).trans ?_
    refine (if_pos (show ρ 26 ≠ 3 by omega)).trans ?_
    refine (zLet_eq m26).trans ?_
    refine (zLet_eq c4.symm).trans ?_
    refine (if_neg (show ¬ (3 ≥ ρ 22) by omega)).trans ?_
    refine (zLet_eq m27).trans ?_
    refine (if_neg (show ¬ (ρ 28 ≠ 3) by omega)).trans ?_
    refine (zLet_eq c5.symm).trans ?_
    refine (zLet_eq (show fn57 [ρ 7, ρ 0] (γ 5) = (0, 0, γ 6) from l0.symm)).trans ?_
    refine (zLet_eq (show _ = γ 6 from rfl)).trans ?_
    rfl
  exact zGoo_ato hJ hD
theorem vn75a0_85 {S : Nat → zSpc} (hS57 : ∀ x g o v gz, S 57 x g o v gz → sn57 x g o v gz) (hS73 : ∀ x g o v gz, S 73 x g o v gz → sn73 x g o v gz) {a : List Int} {g : rHp} : ∀ (ρ : Nat → Int) (γ : Nat → rHp), jn75 a g 0 (zAg (zNA a75_ 0) ρ) (γ 1) → zO 15 S a g q75a0_85 ρ γ → zGl (fun i vs g1 => jn75 a g i vs g1) (sn75 a g) q75a0_85 ρ γ := by
  intro ρ γ hJ h
  obtain ⟨ha, hg, hr, hf, hm, hc, hl⟩ := h
  have ha : a = [ρ 0, ρ 1, ρ 2, ρ 3, ρ 4, ρ 5, ρ 6, ρ 7, ρ 8, ρ 9, ρ 10, ρ 11, ρ 12, ρ 13, ρ 14] := ha
  subst ha
  subst hg
  have hJ : jn75 [ρ 0, ρ 1, ρ 2, ρ 3, ρ 4, ρ 5, ρ 6, ρ 7, ρ 8, ρ 9, ρ 10, ρ 11, ρ 12, ρ 13, ρ 14] (γ 0) 0 [ρ 0, ρ 1, ρ 2, ρ 3, ρ 4, ρ 5, ρ 6, ρ 7, ρ 8, ρ 9, ρ 10, ρ 11, ρ 12, ρ 13, ρ 14, ρ 15, ρ 16, ρ 17, ρ 18, ρ 19] (γ 1) := hJ
  obtain ⟨r0, r1, r2, r3, r4, r5, r6, r7, r8, r9, r10, r11, r12, r13, r14, r15, r16, r17, r18, r19, r20, r21, r22, r23, r24, r25, r26, r27, r28, r29, r30, r31, r32, r33, r34, r35, -⟩ := hr
  have r0 : (0 : Int) ≤ ρ 0 ∧ ρ 0 ≤ 59 := r0
  have r1 : (0 : Int) ≤ ρ 1 ∧ ρ 1 ≤ 60 := r1
  have r2 : (0 : Int) ≤ ρ 2 ∧ ρ 2 ≤ 20 := r2
  have r3 : (3 : Int) ≤ ρ 3 ∧ ρ 3 ≤ 4 := r3
  have r4 : (0 : Int) ≤ ρ 4 ∧ ρ 4 ≤ 50001 := r4
  have r5 : (0 : Int) ≤ ρ 5 ∧ ρ 5 ≤ 3 := r5
  have r6 : (0 : Int) ≤ ρ 6 ∧ ρ 6 ≤ 2000 := r6
  have r7 : (0 : Int) ≤ ρ 7 ∧ ρ 7 ≤ 19 := r7
  have r8 : (0 : Int) ≤ ρ 8 ∧ ρ 8 ≤ 61 := r8
  have r9 : (0 : Int) ≤ ρ 9 ∧ ρ 9 ≤ 2000 := r9
  have r10 : ((-2147483648) : Int) ≤ ρ 10 ∧ ρ 10 ≤ 2147483647 := r10
  have r11 : (0 : Int) ≤ ρ 11 ∧ ρ 11 ≤ 2000 := r11
  have r12 : (0 : Int) ≤ ρ 12 ∧ ρ 12 ≤ 2000 := r12
  have r13 : (0 : Int) ≤ ρ 13 ∧ ρ 13 ≤ 2000 := r13
  have r14 : (0 : Int) ≤ ρ 14 ∧ ρ 14 ≤ 50001 := r14
  have r15 : (0 : Int) ≤ ρ 15 ∧ ρ 15 ≤ 2000 := r15
  have r16 : (0 : Int) ≤ ρ 16 ∧ ρ 16 ≤ 50001 := r16
  have r17 : (0 : Int) ≤ ρ 17 ∧ ρ 17 ≤ 0 := r17
  have r18 : (0 : Int) ≤ ρ 18 ∧ ρ 18 ≤ 2000 := r18
  have r19 : (0 : Int) ≤ ρ 19 ∧ ρ 19 ≤ 2000 := r19
  have r20 : (1 : Int) ≤ ρ 20 ∧ ρ 20 ≤ 1 := r20
  have r21 : ((-2147483648) : Int) ≤ ρ 21 ∧ ρ 21 ≤ 1099511640064 := r21
  have r22 : (3 : Int) ≤ ρ 22 ∧ ρ 22 ≤ 3 := r22
  have r23 : (3 : Int) ≤ ρ 23 ∧ ρ 23 ≤ 3 := r23
  have r24 : (0 : Int) ≤ ρ 24 ∧ ρ 24 ≤ 2 := r24
  have r25 : ((-2147483648) : Int) ≤ ρ 25 ∧ ρ 25 ≤ 1099511640064 := r25
  have r26 : (3 : Int) ≤ ρ 26 ∧ ρ 26 ≤ 3 := r26
  have r27 : ((-2147483648) : Int) ≤ ρ 27 ∧ ρ 27 ≤ 1099511640064 := r27
  have r28 : (0 : Int) ≤ ρ 28 ∧ ρ 28 ≤ 8 := r28
  have r29 : ((-1) : Int) ≤ ρ 29 ∧ ρ 29 ≤ 1999 := r29
  have r30 : (0 : Int) ≤ ρ 30 ∧ ρ 30 ≤ 1999 := r30
  have r31 : (1 : Int) ≤ ρ 31 ∧ ρ 31 ≤ 2000 := r31
  have r32 : (0 : Int) ≤ ρ 32 ∧ ρ 32 ≤ 8 := r32
  have r33 : ((-1) : Int) ≤ ρ 33 ∧ ρ 33 ≤ 1999 := r33
  have r34 : (0 : Int) ≤ ρ 34 ∧ ρ 34 ≤ 1999 := r34
  have r35 : (0 : Int) ≤ ρ 35 ∧ ρ 35 ≤ 3 := r35
  obtain ⟨f0, f1, f2, f3, f4, f5, f6, f7, f8, f9, -⟩ := hf
  have f0 : (0 : Int) ≤ -ρ 7 + ρ 2 + (-1) := f0
  have f1 : (0 : Int) ≤ ρ 31 + -ρ 19 := f1
  have f2 : (0 : Int) ≤ ρ 33 + -ρ 29 := f2
  have f3 : (0 : Int) ≤ ρ 18 + -ρ 15 + (-1) := f3
  have f4 : (0 : Int) ≤ ρ 17 + -ρ 16 + 50000 := f4
  have f5 : (0 : Int) ≤ ρ 1 + -ρ 0 + (-1) := f5
  have f6 : (0 : Int) ≤ ρ 19 + -ρ 9 := f6
  have f7 : (0 : Int) ≤ ρ 18 + -ρ 15 := f7
  have f8 : (0 : Int) ≤ ρ 17 + -ρ 5 := f8
  have f9 : (0 : Int) ≤ ρ 16 + -ρ 4 := f9
  obtain ⟨m0, m1, m2, m3, m4, m5, m6, m7, m8, m9, m10, m11, m12, m13, m14, m15, m16, m17, m18, m19, m20, m21, m22, m23, m24, m25, m26, m27, m28, m29, m30, m31, m32, m33, m34, -⟩ := hm
  have m0 : γ 0 15 0 32 = ρ 1 := m0
  have m1 : γ 0 15 0 13 = ρ 2 := m1
  have m2 : γ 0 71 0 (ρ 0) = ρ 3 := m2
  have m3 : γ 0 15 0 72 = ρ 4 := m3
  have m4 : γ 0 15 0 77 = ρ 5 := m4
  have m5 : γ 0 15 0 90 = ρ 6 := m5
  have m6 : γ 0 69 0 (ρ 0) = ρ 7 := m6
  have m7 : γ 0 15 0 44 = ρ 8 := m7
  have m8 : γ 0 15 0 71 = ρ 9 := m8
  have m9 : γ 0 15 0 76 = ρ 10 := m9
  have m10 : γ 0 15 0 81 = ρ 11 := m10
  have m11 : γ 0 15 0 82 = ρ 12 := m11
  have m12 : γ 0 15 0 83 = ρ 13 := m12
  have m13 : γ 0 15 0 94 = ρ 14 := m13
  have m14 : γ 1 15 0 72 = ρ 16 := m14
  have m15 : γ 1 15 0 77 = ρ 17 := m15
  have m16 : γ 1 15 0 90 = ρ 18 := m16
  have m17 : γ 1 15 0 71 = ρ 19 := m17
  have m18 : γ 1 15 0 81 = ρ 9 := m18
  have m19 : γ 1 109 0 (ρ 15) = ρ 20 := m19
  have m20 : γ 1 108 0 (ρ 15) = ρ 21 := m20
  have m21 : γ 0 66 0 (ρ 7) = ρ 22 := m21
  have m22 : γ 0 70 0 (4 * ρ 0) = ρ 23 := m22
  have m23 : γ 0 70 0 (4 * ρ 0 + 1) = ρ 24 := m23
  have m24 : γ 1 105 0 (4 * ρ 15 + 1) = ρ 25 := m24
  have m25 : γ 0 70 0 (4 * ρ 0 + 2) = ρ 26 := m25
  have m26 : γ 1 105 0 (4 * ρ 15 + 3) = ρ 27 := m26
  have m27 : γ 1 97 0 (ρ 19) = ρ 28 := m27
  have m28 : γ 1 100 0 (ρ 7) = ρ 29 := m28
  have m29 : γ 1 101 0 (ρ 7) = ρ 30 := m29
  have m30 : γ 6 15 0 71 = ρ 31 := m30
  have m31 : γ 6 97 0 (ρ 19) = ρ 32 := m31
  have m32 : γ 6 100 0 (ρ 7) = ρ 33 := m32
  have m33 : γ 6 101 0 (ρ 7) = ρ 34 := m33
  have m34 : γ 6 15 0 77 = ρ 35 := m34
  obtain ⟨⟨⟨⟨⟨⟨-, c1⟩, c2⟩, c3⟩, c4⟩, c5⟩, c6⟩ := hc
  have c1 : ∀ (G : Nat) (k j : Int), ¬ rMdP m51_ G j → γ 1 G k j = γ 0 G k j := c1
  have c2 : γ 2 = rUp (γ 1) 102 0 0 (ρ 21) := c2
  have c3 : γ 3 = rUp (γ 2) 102 0 1 (ρ 25) := c3
  have c4 : γ 4 = rUp (γ 3) 102 0 2 (ρ 21) := c4
  have c5 : γ 5 = rUp (γ 4) 102 0 3 (ρ 27) := c5
  have c6 : ∀ (G : Nat) (k j : Int), ¬ rMdP m40_ G j → γ 6 G k j = γ 5 G k j := c6
  obtain ⟨l0, -⟩ := hl
  have l0 : sn57 [ρ 7, ρ 0, ρ 2, ρ 19, ρ 28, ρ 29, ρ 30, ρ 10, ρ 17] (γ 5) 0 0 (γ 6) := hS57 _ _ _ _ _ l0
  show jn75 [ρ 0, ρ 1, ρ 2, ρ 3, ρ 4, ρ 5, ρ 6, ρ 7, ρ 8, ρ 9, ρ 10, ρ 11, ρ 12, ρ 13, ρ 14] (γ 0) 0 [ρ 0, ρ 1, ρ 2, ρ 3, ρ 4, ρ 5, ρ 6, ρ 7, ρ 8, ρ 9, ρ 10, ρ 11, ρ 12, ρ 13, ρ 14, ρ 15 + 1, ρ 16, ρ 35, ρ 18, ρ 31] (γ 6)
  have hD : en75 (γ 0) (0, [ρ 0, ρ 15], γ 1) = .inl (0, [ρ 0, ρ 15 + 1], γ 6) := by
    unfold en75
    refine (if_pos (show (0 : Nat) = 0 by decide)).trans ?_
    refine (zLet_eq (show _ = γ 1 from rfl)).trans ?_
    refine (zLet_eq (show _ = ρ 0 from rfl)).trans ?_
    refine (zLet_eq (show _ = ρ 15 from rfl)).trans ?_
    refine (zLet_eq m2).trans ?_
    refine (zLet_eq m6).trans ?_
    refine (zLet_eq m15).trans ?_
    refine (zLet_eq m16).trans ?_
    refine (if_neg (show ¬ (ρ 15 ≥ ρ 18) by omega)).trans ?_
    refine (if_neg (show ¬ (ρ 17 ≠ 0) by omega)).trans ?_
    refine (if_neg (show ¬ (ρ 3 ≤ 2) by omega)).trans ?_
    refine (zLet_eq m19).trans ?_
    refine (if_pos (show ρ 20 ≠ 0 by omega)).trans ?_
    refine (zLet_eq m20).trans ?_
    refine (zLet_eq m21).trans ?_
    refine (if_neg (show ¬ (0 ≥ ρ 22) by omega)).trans ?_
    refine (zLet_eq m22).trans ?_
    refine (if_neg (show ¬ (ρ 23 ≠ 3) by omega)).trans ?_
    refine (zLet_eq c2.symm).trans ?_
    refine (if_neg (show ¬ (1 ≥ ρ 22) by omega)).trans ?_
    refine (zLet_eq m23).trans ?_
    refine (if_pos (show ρ 24 ≠ 3 by omega)).trans ?_
    refine (zLet_eq m24).trans ?_
    refine (zLet_eq c3.symm).trans ?_
    refine (if_neg (show ¬ (2 ≥ ρ 22) by omega)).trans ?_
    refine (zLet_eq m25).trans ?_
    refine (if_neg (show ¬ (ρ 26 ≠ 3) by omega)).trans ?_
    refine (zLet_eq c4.symm).trans ?_
    refine (if_pos (show 3 ≥ ρ 22 by omega)).trans ?_
    refine (zLet_eq m26).trans ?_
    refine (zLet_eq c5.symm).trans ?_
    refine (zLet_eq (show fn57 [ρ 7, ρ 0] (γ 5) = (0, 0, γ 6) from l0.symm)).trans ?_
    refine (zLet_eq (show _ = γ 6 from rfl)).trans ?_
    rfl
  exact zGoo_ato hJ hD
theorem vn75a0_86 {S : Nat → zSpc} (hS57 : ∀ x g o v gz, S 57 x g o v gz → sn57 x g o v gz) (hS73 : ∀ x g o v gz, S 73 x g o v gz → sn73 x g o v gz) {a : List Int} {g : rHp} : ∀ (ρ : Nat → Int) (γ : Nat → rHp), jn75 a g 0 (zAg (zNA a75_ 0) ρ) (γ 1) → zO 15 S a g q75a0_86 ρ γ → zGl (fun i vs g1 => jn75 a g i vs g1) (sn75 a g) q75a0_86 ρ γ := by
  intro ρ γ hJ h
  obtain ⟨ha, hg, hr, hf, hm, hc, hl⟩ := h
  have ha : a = [ρ 0, ρ 1, ρ 2, ρ 3, ρ 4, ρ 5, ρ 6, ρ 7, ρ 8, ρ 9, ρ 10, ρ 11, ρ 12, ρ 13, ρ 14] := ha
  subst ha
  subst hg
  have hJ : jn75 [ρ 0, ρ 1, ρ 2, ρ 3, ρ 4, ρ 5, ρ 6, ρ 7, ρ 8, ρ 9, ρ 10, ρ 11, ρ 12, ρ 13, ρ 14] (γ 0) 0 [ρ 0, ρ 1, ρ 2, ρ 3, ρ 4, ρ 5, ρ 6, ρ 7, ρ 8, ρ 9, ρ 10, ρ 11, ρ 12, ρ 13, ρ 14, ρ 15, ρ 16, ρ 17, ρ 18, ρ 19] (γ 1) := hJ
  obtain ⟨r0, r1, r2, r3, r4, r5, r6, r7, r8, r9, r10, r11, r12, r13, r14, r15, r16, r17, r18, r19, r20, r21, r22, r23, r24, r25, r26, r27, r28, r29, r30, r31, r32, r33, r34, r35, r36, -⟩ := hr
  have r0 : (0 : Int) ≤ ρ 0 ∧ ρ 0 ≤ 59 := r0
  have r1 : (0 : Int) ≤ ρ 1 ∧ ρ 1 ≤ 60 := r1
  have r2 : (0 : Int) ≤ ρ 2 ∧ ρ 2 ≤ 20 := r2
  have r3 : (3 : Int) ≤ ρ 3 ∧ ρ 3 ≤ 4 := r3
  have r4 : (0 : Int) ≤ ρ 4 ∧ ρ 4 ≤ 50001 := r4
  have r5 : (0 : Int) ≤ ρ 5 ∧ ρ 5 ≤ 3 := r5
  have r6 : (0 : Int) ≤ ρ 6 ∧ ρ 6 ≤ 2000 := r6
  have r7 : (0 : Int) ≤ ρ 7 ∧ ρ 7 ≤ 19 := r7
  have r8 : (0 : Int) ≤ ρ 8 ∧ ρ 8 ≤ 61 := r8
  have r9 : (0 : Int) ≤ ρ 9 ∧ ρ 9 ≤ 2000 := r9
  have r10 : ((-2147483648) : Int) ≤ ρ 10 ∧ ρ 10 ≤ 2147483647 := r10
  have r11 : (0 : Int) ≤ ρ 11 ∧ ρ 11 ≤ 2000 := r11
  have r12 : (0 : Int) ≤ ρ 12 ∧ ρ 12 ≤ 2000 := r12
  have r13 : (0 : Int) ≤ ρ 13 ∧ ρ 13 ≤ 2000 := r13
  have r14 : (0 : Int) ≤ ρ 14 ∧ ρ 14 ≤ 50001 := r14
  have r15 : (0 : Int) ≤ ρ 15 ∧ ρ 15 ≤ 2000 := r15
  have r16 : (0 : Int) ≤ ρ 16 ∧ ρ 16 ≤ 50001 := r16
  have r17 : (0 : Int) ≤ ρ 17 ∧ ρ 17 ≤ 0 := r17
  have r18 : (0 : Int) ≤ ρ 18 ∧ ρ 18 ≤ 2000 := r18
  have r19 : (0 : Int) ≤ ρ 19 ∧ ρ 19 ≤ 2000 := r19
  have r20 : (1 : Int) ≤ ρ 20 ∧ ρ 20 ≤ 1 := r20
  have r21 : ((-2147483648) : Int) ≤ ρ 21 ∧ ρ 21 ≤ 1099511640064 := r21
  have r22 : (4 : Int) ≤ ρ 22 ∧ ρ 22 ≤ 4 := r22
  have r23 : (3 : Int) ≤ ρ 23 ∧ ρ 23 ≤ 3 := r23
  have r24 : (0 : Int) ≤ ρ 24 ∧ ρ 24 ≤ 2 := r24
  have r25 : ((-2147483648) : Int) ≤ ρ 25 ∧ ρ 25 ≤ 1099511640064 := r25
  have r26 : (3 : Int) ≤ ρ 26 ∧ ρ 26 ≤ 3 := r26
  have r27 : (0 : Int) ≤ ρ 27 ∧ ρ 27 ≤ 2 := r27
  have r28 : ((-2147483648) : Int) ≤ ρ 28 ∧ ρ 28 ≤ 1099511640064 := r28
  have r29 : (0 : Int) ≤ ρ 29 ∧ ρ 29 ≤ 8 := r29
  have r30 : ((-1) : Int) ≤ ρ 30 ∧ ρ 30 ≤ 1999 := r30
  have r31 : (0 : Int) ≤ ρ 31 ∧ ρ 31 ≤ 1999 := r31
  have r32 : (1 : Int) ≤ ρ 32 ∧ ρ 32 ≤ 2000 := r32
  have r33 : (0 : Int) ≤ ρ 33 ∧ ρ 33 ≤ 8 := r33
  have r34 : ((-1) : Int) ≤ ρ 34 ∧ ρ 34 ≤ 1999 := r34
  have r35 : (0 : Int) ≤ ρ 35 ∧ ρ 35 ≤ 1999 := r35
  have r36 : (0 : Int) ≤ ρ 36 ∧ ρ 36 ≤ 3 := r36
  obtain ⟨f0, f1, f2, f3, f4, f5, f6, f7, f8, f9, -⟩ := hf
  have f0 : (0 : Int) ≤ -ρ 7 + ρ 2 + (-1) := f0
  have f1 : (0 : Int) ≤ ρ 32 + -ρ 19 := f1
  have f2 : (0 : Int) ≤ ρ 34 + -ρ 30 := f2
  have f3 : (0 : Int) ≤ ρ 18 + -ρ 15 + (-1) := f3
  have f4 : (0 : Int) ≤ ρ 17 + -ρ 16 + 50000 := f4
  have f5 : (0 : Int) ≤ ρ 1 + -ρ 0 + (-1) := f5
  have f6 : (0 : Int) ≤ ρ 19 + -ρ 9 := f6
  have f7 : (0 : Int) ≤ ρ 18 + -ρ 15 := f7
  have f8 : (0 : Int) ≤ ρ 17 + -ρ 5 := f8
  have f9 : (0 : Int) ≤ ρ 16 + -ρ 4 := f9
  obtain ⟨m0, m1, m2, m3, m4, m5, m6, m7, m8, m9, m10, m11, m12, m13, m14, m15, m16, m17, m18, m19, m20, m21, m22, m23, m24, m25, m26, m27, m28, m29, m30, m31, m32, m33, m34, m35, -⟩ := hm
  have m0 : γ 0 15 0 32 = ρ 1 := m0
  have m1 : γ 0 15 0 13 = ρ 2 := m1
  have m2 : γ 0 71 0 (ρ 0) = ρ 3 := m2
  have m3 : γ 0 15 0 72 = ρ 4 := m3
  have m4 : γ 0 15 0 77 = ρ 5 := m4
  have m5 : γ 0 15 0 90 = ρ 6 := m5
  have m6 : γ 0 69 0 (ρ 0) = ρ 7 := m6
  have m7 : γ 0 15 0 44 = ρ 8 := m7
  have m8 : γ 0 15 0 71 = ρ 9 := m8
  have m9 : γ 0 15 0 76 = ρ 10 := m9
  have m10 : γ 0 15 0 81 = ρ 11 := m10
  have m11 : γ 0 15 0 82 = ρ 12 := m11
  have m12 : γ 0 15 0 83 = ρ 13 := m12
  have m13 : γ 0 15 0 94 = ρ 14 := m13
  have m14 : γ 1 15 0 72 = ρ 16 := m14
  have m15 : γ 1 15 0 77 = ρ 17 := m15
  have m16 : γ 1 15 0 90 = ρ 18 := m16
  have m17 : γ 1 15 0 71 = ρ 19 := m17
  have m18 : γ 1 15 0 81 = ρ 9 := m18
  have m19 : γ 1 109 0 (ρ 15) = ρ 20 := m19
  have m20 : γ 1 108 0 (ρ 15) = ρ 21 := m20
  have m21 : γ 0 66 0 (ρ 7) = ρ 22 := m21
  have m22 : γ 0 70 0 (4 * ρ 0) = ρ 23 := m22
  have m23 : γ 0 70 0 (4 * ρ 0 + 1) = ρ 24 := m23
  have m24 : γ 1 105 0 (4 * ρ 15 + 1) = ρ 25 := m24
  have m25 : γ 0 70 0 (4 * ρ 0 + 2) = ρ 26 := m25
  have m26 : γ 0 70 0 (4 * ρ 0 + 3) = ρ 27 := m26
  have m27 : γ 1 105 0 (4 * ρ 15 + 3) = ρ 28 := m27
  have m28 : γ 1 97 0 (ρ 19) = ρ 29 := m28
  have m29 : γ 1 100 0 (ρ 7) = ρ 30 := m29
  have m30 : γ 1 101 0 (ρ 7) = ρ 31 := m30
  have m31 : γ 6 15 0 71 = ρ 32 := m31
  have m32 : γ 6 97 0 (ρ 19) = ρ 33 := m32
  have m33 : γ 6 100 0 (ρ 7) = ρ 34 := m33
  have m34 : γ 6 101 0 (ρ 7) = ρ 35 := m34
  have m35 : γ 6 15 0 77 = ρ 36 := m35
  obtain ⟨⟨⟨⟨⟨⟨-, c1⟩, c2⟩, c3⟩, c4⟩, c5⟩, c6⟩ := hc
  have c1 : ∀ (G : Nat) (k j : Int), ¬ rMdP m51_ G j → γ 1 G k j = γ 0 G k j := c1
  have c2 : γ 2 = rUp (γ 1) 102 0 0 (ρ 21) := c2
  have c3 : γ 3 = rUp (γ 2) 102 0 1 (ρ 25) := c3
  have c4 : γ 4 = rUp (γ 3) 102 0 2 (ρ 21) := c4
  have c5 : γ 5 = rUp (γ 4) 102 0 3 (ρ 28) := c5
  have c6 : ∀ (G : Nat) (k j : Int), ¬ rMdP m40_ G j → γ 6 G k j = γ 5 G k j := c6
  obtain ⟨l0, -⟩ := hl
  have l0 : sn57 [ρ 7, ρ 0, ρ 2, ρ 19, ρ 29, ρ 30, ρ 31, ρ 10, ρ 17] (γ 5) 0 0 (γ 6) := hS57 _ _ _ _ _ l0
  show jn75 [ρ 0, ρ 1, ρ 2, ρ 3, ρ 4, ρ 5, ρ 6, ρ 7, ρ 8, ρ 9, ρ 10, ρ 11, ρ 12, ρ 13, ρ 14] (γ 0) 0 [ρ 0, ρ 1, ρ 2, ρ 3, ρ 4, ρ 5, ρ 6, ρ 7, ρ 8, ρ 9, ρ 10, ρ 11, ρ 12, ρ 13, ρ 14, ρ 15 + 1, ρ 16, ρ 36, ρ 18, ρ 32] (γ 6)
  have hD : en75 (γ 0) (0, [ρ 0, ρ 15], γ 1) = .inl (0, [ρ 0, ρ 15 + 1], γ 6) := by
    unfold en75
    refine (if_pos (show (0 : Nat) = 0 by decide)).trans ?_
    refine (zLet_eq (show _ = γ 1 from rfl)).trans ?_
    refine (zLet_eq (show _ = ρ 0 from rfl)).trans ?_
    refine (zLet_eq (show _ = ρ 15 from rfl)).trans ?_
    refine (zLet_eq m2).trans ?_
    refine (zLet_eq m6).trans ?_
    refine (zLet_eq m15).trans ?_
    refine (zLet_eq m16).trans ?_
    refine (if_neg (show ¬ (ρ 15 ≥ ρ 18) by omega)).trans ?_
    refine (if_neg (show ¬ (ρ 17 ≠ 0) by omega)).trans ?_
    refine (if_neg (show ¬ (ρ 3 ≤ 2) by omega)).trans ?_
    refine (zLet_eq m19).trans ?_
    refine (if_pos (show ρ 20 ≠ 0 by omega)).trans ?_
    refine (zLet_eq m20).trans ?_
    refine (zLet_eq m21).trans ?_
    refine (if_neg (show ¬ (0 ≥ ρ 22) by omega)).trans ?_
    refine (zLet_eq m22).trans ?_
    refine (if_neg (show ¬ (ρ 23 ≠ 3) by omega)).trans ?_
    refine (zLet_eq c2.symm).trans ?_
    refine (if_neg (show ¬ (1 ≥ ρ 22) by omega)).trans ?_
    refine (zLet_eq m23).trans ?_
    refine (if_pos (show ρ 24 ≠ 3 by omega)).trans ?_
    refine (zLet_eq m24).trans ?_
    refine (zLet_eq c3.symm).trans ?_
    refine (if_neg (show ¬ (2 ≥ ρ 22) by omega)).trans ?_
    refine (zLet_eq m25).trans ?_
    refine (if_neg (show ¬ (ρ 26 ≠ 3) by omega)).trans ?_
    refine (zLet_eq c4.symm).trans ?_
    refine (if_neg (show ¬ (3 ≥ ρ 22) by omega)).trans ?_
    refine (zLet_eq m26).trans ?_
    refine (if_pos (show ρ 27 ≠ 3 by omega)).trans ?_
    refine (zLet_eq m27).trans ?_
    refine (zLet_eq c5.symm).trans ?_
    refine (zLet_eq (show fn57 [ρ 7, ρ 0] (γ 5) = (0, 0, γ 6) from l0.symm)).trans ?_
    refine (zLet_eq (show _ = γ 6 from rfl)).trans ?_
    rfl
  exact zGoo_ato hJ hD
theorem vn75a0_87 {S : Nat → zSpc} (hS57 : ∀ x g o v gz, S 57 x g o v gz → sn57 x g o v gz) (hS73 : ∀ x g o v gz, S 73 x g o v gz → sn73 x g o v gz) {a : List Int} {g : rHp} : ∀ (ρ : Nat → Int) (γ : Nat → rHp), jn75 a g 0 (zAg (zNA a75_ 0) ρ) (γ 1) → zO 15 S a g q75a0_87 ρ γ → zGl (fun i vs g1 => jn75 a g i vs g1) (sn75 a g) q75a0_87 ρ γ := by
  intro ρ γ hJ h
  obtain ⟨ha, hg, hr, hf, hm, hc, hl⟩ := h
  have ha : a = [ρ 0, ρ 1, ρ 2, ρ 3, ρ 4, ρ 5, ρ 6, ρ 7, ρ 8, ρ 9, ρ 10, ρ 11, ρ 12, ρ 13, ρ 14] := ha
  subst ha
  subst hg
  have hJ : jn75 [ρ 0, ρ 1, ρ 2, ρ 3, ρ 4, ρ 5, ρ 6, ρ 7, ρ 8, ρ 9, ρ 10, ρ 11, ρ 12, ρ 13, ρ 14] (γ 0) 0 [ρ 0, ρ 1, ρ 2, ρ 3, ρ 4, ρ 5, ρ 6, ρ 7, ρ 8, ρ 9, ρ 10, ρ 11, ρ 12, ρ 13, ρ 14, ρ 15, ρ 16, ρ 17, ρ 18, ρ 19] (γ 1) := hJ
  obtain ⟨r0, r1, r2, r3, r4, r5, r6, r7, r8, r9, r10, r11, r12, r13, r14, r15, r16, r17, r18, r19, r20, r21, r22, r23, r24, r25, r26, r27, r28, r29, r30, r31, r32, r33, r34, r35, -⟩ := hr
  have r0 : (0 : Int) ≤ ρ 0 ∧ ρ 0 ≤ 59 := r0
  have r1 : (0 : Int) ≤ ρ 1 ∧ ρ 1 ≤ 60 := r1
  have r2 : (0 : Int) ≤ ρ 2 ∧ ρ 2 ≤ 20 := r2
  have r3 : (3 : Int) ≤ ρ 3 ∧ ρ 3 ≤ 4 := r3
  have r4 : (0 : Int) ≤ ρ 4 ∧ ρ 4 ≤ 50001 := r4
  have r5 : (0 : Int) ≤ ρ 5 ∧ ρ 5 ≤ 3 := r5
  have r6 : (0 : Int) ≤ ρ 6 ∧ ρ 6 ≤ 2000 := r6
  have r7 : (0 : Int) ≤ ρ 7 ∧ ρ 7 ≤ 19 := r7
  have r8 : (0 : Int) ≤ ρ 8 ∧ ρ 8 ≤ 61 := r8
  have r9 : (0 : Int) ≤ ρ 9 ∧ ρ 9 ≤ 2000 := r9
  have r10 : ((-2147483648) : Int) ≤ ρ 10 ∧ ρ 10 ≤ 2147483647 := r10
  have r11 : (0 : Int) ≤ ρ 11 ∧ ρ 11 ≤ 2000 := r11
  have r12 : (0 : Int) ≤ ρ 12 ∧ ρ 12 ≤ 2000 := r12
  have r13 : (0 : Int) ≤ ρ 13 ∧ ρ 13 ≤ 2000 := r13
  have r14 : (0 : Int) ≤ ρ 14 ∧ ρ 14 ≤ 50001 := r14
  have r15 : (0 : Int) ≤ ρ 15 ∧ ρ 15 ≤ 2000 := r15
  have r16 : (0 : Int) ≤ ρ 16 ∧ ρ 16 ≤ 50001 := r16
  have r17 : (0 : Int) ≤ ρ 17 ∧ ρ 17 ≤ 0 := r17
  have r18 : (0 : Int) ≤ ρ 18 ∧ ρ 18 ≤ 2000 := r18
  have r19 : (0 : Int) ≤ ρ 19 ∧ ρ 19 ≤ 2000 := r19
  have r20 : (1 : Int) ≤ ρ 20 ∧ ρ 20 ≤ 1 := r20
  have r21 : ((-2147483648) : Int) ≤ ρ 21 ∧ ρ 21 ≤ 1099511640064 := r21
  have r22 : (4 : Int) ≤ ρ 22 ∧ ρ 22 ≤ 4 := r22
  have r23 : (3 : Int) ≤ ρ 23 ∧ ρ 23 ≤ 3 := r23
  have r24 : (0 : Int) ≤ ρ 24 ∧ ρ 24 ≤ 2 := r24
  have r25 : ((-2147483648) : Int) ≤ ρ 25 ∧ ρ 25 ≤ 1099511640064 := r25
  have r26 : (3 : Int) ≤ ρ 26 ∧ ρ 26 ≤ 3 := r26
  have r27 : (3 : Int) ≤ ρ 27 ∧ ρ 27 ≤ 3 := r27
  have r28 : (0 : Int) ≤ ρ 28 ∧ ρ 28 ≤ 8 := r28
  have r29 : ((-1) : Int) ≤ ρ 29 ∧ ρ 29 ≤ 1999 := r29
  have r30 : (0 : Int) ≤ ρ 30 ∧ ρ 30 ≤ 1999 := r30
  have r31 : (1 : Int) ≤ ρ 31 ∧ ρ 31 ≤ 2000 := r31
  have r32 : (0 : Int) ≤ ρ 32 ∧ ρ 32 ≤ 8 := r32
  have r33 : ((-1) : Int) ≤ ρ 33 ∧ ρ 33 ≤ 1999 := r33
  have r34 : (0 : Int) ≤ ρ 34 ∧ ρ 34 ≤ 1999 := r34
  have r35 : (0 : Int) ≤ ρ 35 ∧ ρ 35 ≤ 3 := r35
  obtain ⟨f0, f1, f2, f3, f4, f5, f6, f7, f8, f9, -⟩ := hf
  have f0 : (0 : Int) ≤ -ρ 7 + ρ 2 + (-1) := f0
  have f1 : (0 : Int) ≤ ρ 31 + -ρ 19 := f1
  have f2 : (0 : Int) ≤ ρ 33 + -ρ 29 := f2
  have f3 : (0 : Int) ≤ ρ 18 + -ρ 15 + (-1) := f3
  have f4 : (0 : Int) ≤ ρ 17 + -ρ 16 + 50000 := f4
  have f5 : (0 : Int) ≤ ρ 1 + -ρ 0 + (-1) := f5
  have f6 : (0 : Int) ≤ ρ 19 + -ρ 9 := f6
  have f7 : (0 : Int) ≤ ρ 18 + -ρ 15 := f7
  have f8 : (0 : Int) ≤ ρ 17 + -ρ 5 := f8
  have f9 : (0 : Int) ≤ ρ 16 + -ρ 4 := f9
  obtain ⟨m0, m1, m2, m3, m4, m5, m6, m7, m8, m9, m10, m11, m12, m13, m14, m15, m16, m17, m18, m19, m20, m21, m22, m23, m24, m25, m26, m27, m28, m29, m30, m31, m32, m33, m34, -⟩ := hm
  have m0 : γ 0 15 0 32 = ρ 1 := m0
  have m1 : γ 0 15 0 13 = ρ 2 := m1
  have m2 : γ 0 71 0 (ρ 0) = ρ 3 := m2
  have m3 : γ 0 15 0 72 = ρ 4 := m3
  have m4 : γ 0 15 0 77 = ρ 5 := m4
  have m5 : γ 0 15 0 90 = ρ 6 := m5
  have m6 : γ 0 69 0 (ρ 0) = ρ 7 := m6
  have m7 : γ 0 15 0 44 = ρ 8 := m7
  have m8 : γ 0 15 0 71 = ρ 9 := m8
  have m9 : γ 0 15 0 76 = ρ 10 := m9
  have m10 : γ 0 15 0 81 = ρ 11 := m10
  have m11 : γ 0 15 0 82 = ρ 12 := m11
  have m12 : γ 0 15 0 83 = ρ 13 := m12
  have m13 : γ 0 15 0 94 = ρ 14 := m13
  have m14 : γ 1 15 0 72 = ρ 16 := m14
  have m15 : γ 1 15 0 77 = ρ 17 := m15
  have m16 : γ 1 15 0 90 = ρ 18 := m16
  have m17 : γ 1 15 0 71 = ρ 19 := m17
  have m18 : γ 1 15 0 81 = ρ 9 := m18
  have m19 : γ 1 109 0 (ρ 15) = ρ 20 := m19
  have m20 : γ 1 108 0 (ρ 15) = ρ 21 := m20
  have m21 : γ 0 66 0 (ρ 7) = ρ 22 := m21
  have m22 : γ 0 70 0 (4 * ρ 0) = ρ 23 := m22
  have m23 : γ 0 70 0 (4 * ρ 0 + 1) = ρ 24 := m23
  have m24 : γ 1 105 0 (4 * ρ 15 + 1) = ρ 25 := m24
  have m25 : γ 0 70 0 (4 * ρ 0 + 2) = ρ 26 := m25
  have m26 : γ 0 70 0 (4 * ρ 0 + 3) = ρ 27 := m26
  have m27 : γ 1 97 0 (ρ 19) = ρ 28 := m27
  have m28 : γ 1 100 0 (ρ 7) = ρ 29 := m28
  have m29 : γ 1 101 0 (ρ 7) = ρ 30 := m29
  have m30 : γ 6 15 0 71 = ρ 31 := m30
  have m31 : γ 6 97 0 (ρ 19) = ρ 32 := m31
  have m32 : γ 6 100 0 (ρ 7) = ρ 33 := m32
  have m33 : γ 6 101 0 (ρ 7) = ρ 34 := m33
  have m34 : γ 6 15 0 77 = ρ 35 := m34
  obtain ⟨⟨⟨⟨⟨⟨-, c1⟩, c2⟩, c3⟩, c4⟩, c5⟩, c6⟩ := hc
  have c1 : ∀ (G : Nat) (k j : Int), ¬ rMdP m51_ G j → γ 1 G k j = γ 0 G k j := c1
  have c2 : γ 2 = rUp (γ 1) 102 0 0 (ρ 21) := c2
  have c3 : γ 3 = rUp (γ 2) 102 0 1 (ρ 25) := c3
  have c4 : γ 4 = rUp (γ 3) 102 0 2 (ρ 21) := c4
  have c5 : γ 5 = rUp (γ 4) 102 0 3 (ρ 21) := c5
  have c6 : ∀ (G : Nat) (k j : Int), ¬ rMdP m40_ G j → γ 6 G k j = γ 5 G k j := c6
  obtain ⟨l0, -⟩ := hl
  have l0 : sn57 [ρ 7, ρ 0, ρ 2, ρ 19, ρ 28, ρ 29, ρ 30, ρ 10, ρ 17] (γ 5) 0 0 (γ 6) := hS57 _ _ _ _ _ l0
  show jn75 [ρ 0, ρ 1, ρ 2, ρ 3, ρ 4, ρ 5, ρ 6, ρ 7, ρ 8, ρ 9, ρ 10, ρ 11, ρ 12, ρ 13, ρ 14] (γ 0) 0 [ρ 0, ρ 1, ρ 2, ρ 3, ρ 4, ρ 5, ρ 6, ρ 7, ρ 8, ρ 9, ρ 10, ρ 11, ρ 12, ρ 13, ρ 14, ρ 15 + 1, ρ 16, ρ 35, ρ 18, ρ 31] (γ 6)
  have hD : en75 (γ 0) (0, [ρ 0, ρ 15], γ 1) = .inl (0, [ρ 0, ρ 15 + 1], γ 6) := by
    unfold en75
    refine (if_pos (show (0 : Nat) = 0 by decide)).trans ?_
    refine (zLet_eq (show _ = γ 1 from rfl)).trans ?_
    refine (zLet_eq (show _ = ρ 0 from rfl)).trans ?_
    refine (zLet_eq (show _ = ρ 15 from rfl)).trans ?_
    refine (zLet_eq m2).trans ?_
    refine (zLet_eq m6).trans ?_
    refine (zLet_eq m15).trans ?_
    refine (zLet_eq m16).trans ?_
    refine (if_neg (show ¬ (ρ 15 ≥ ρ 18) by omega)).trans ?_
    refine (if_neg (show ¬ (ρ 17 ≠ 0) by omega)).trans ?_
    refine (if_neg (show ¬ (ρ 3 ≤ 2) by omega)).trans ?_
    refine (zLet_eq m19).trans ?_
    refine (if_pos (show ρ 20 ≠ 0 by omega)).trans ?_
    refine (zLet_eq m20).trans ?_
    refine (zLet_eq m21).trans ?_
    refine (if_neg (show ¬ (0 ≥ ρ 22) by omega)).trans ?_
    refine (zLet_eq m22).trans ?_
    refine (if_neg (show ¬ (ρ 23 ≠ 3) by omega)).trans ?_
    refine (zLet_eq c2.symm).trans ?_
    refine (if_neg (show ¬ (1 ≥ ρ 22) by omega)).trans ?_
    refine (zLet_eq m23).trans ?_
    refine (if_pos (show ρ 24 ≠ 3 by omega)).trans ?_
    refine (zLet_eq m24).trans ?_
    refine (zLet_eq c3.symm).trans ?_
    refine (if_neg (show ¬ (2 ≥ ρ 22) by omega)).trans ?_
    refine (zLet_eq m25).trans ?_
    refine (if_neg (show ¬ (ρ 26 ≠ 3) by omega)).trans ?_
    refine (zLet_eq c4.symm).trans ?_
    refine (if_neg (show ¬ (3 ≥ ρ 22) by omega)).trans ?_
    refine (zLet_eq m26).trans ?_
    refine (if_neg (show ¬ (ρ 27 ≠ 3) by omega)).trans ?_
    refine (zLet_eq c5.symm).trans ?_
    refine (zLet_eq (show fn57 [ρ 7, ρ 0] (γ 5) = (0, 0, γ 6) from l0.symm)).trans ?_
    refine (zLet_eq (show _ = γ 6 from rfl)).trans ?_
    rfl
  exact zGoo_ato hJ hD
theorem vn75a0_88 {S : Nat → zSpc} (hS57 : ∀ x g o v gz, S 57 x g o v gz → sn57 x g o v gz) (hS73 : ∀ x g o v gz, S 73 x g o v gz → sn73 x g o v gz) {a : List Int} {g : rHp} : ∀ (ρ : Nat → Int) (γ : Nat → rHp), jn75 a g 0 (zAg (zNA a75_ 0) ρ) (γ 1) → zO 15 S a g q75a0_88 ρ γ → zGl (fun i vs g1 => jn75 a g i vs g1) (sn75 a g) q75a0_88 ρ γ := by
  intro ρ γ hJ h
  obtain ⟨ha, hg, hr, hf, hm, hc, hl⟩ := h
  have ha : a = [ρ 0, ρ 1, ρ 2, ρ 3, ρ 4, ρ 5, ρ 6, ρ 7, ρ 8, ρ 9, ρ 10, ρ 11, ρ 12, ρ 13, ρ 14] := ha
  subst ha
  subst hg
  have hJ : jn75 [ρ 0, ρ 1, ρ 2, ρ 3, ρ 4, ρ 5, ρ 6, ρ 7, ρ 8, ρ 9, ρ 10, ρ 11, ρ 12, ρ 13, ρ 14] (γ 0) 0 [ρ 0, ρ 1, ρ 2, ρ 3, ρ 4, ρ 5, ρ 6, ρ 7, ρ 8, ρ 9, ρ 10, ρ 11, ρ 12, ρ 13, ρ 14, ρ 15, ρ 16, ρ 17, ρ 18, ρ 19] (γ 1) := hJ
  obtain ⟨r0, r1, r2, r3, r4, r5, r6, r7, r8, r9, r10, r11, r12, r13, r14, r15, r16, r17, r18, r19, r20, r21, r22, r23, r24, r25, r26, r27, r28, r29, r30, r31, r32, r33, r34, -⟩ := hr
  have r0 : (0 : Int) ≤ ρ 0 ∧ ρ 0 ≤ 59 := r0
  have r1 : (0 : Int) ≤ ρ 1 ∧ ρ 1 ≤ 60 := r1
  have r2 : (0 : Int) ≤ ρ 2 ∧ ρ 2 ≤ 20 := r2
  have r3 : (3 : Int) ≤ ρ 3 ∧ ρ 3 ≤ 4 := r3
  have r4 : (0 : Int) ≤ ρ 4 ∧ ρ 4 ≤ 50001 := r4
  have r5 : (0 : Int) ≤ ρ 5 ∧ ρ 5 ≤ 3 := r5
  have r6 : (0 : Int) ≤ ρ 6 ∧ ρ 6 ≤ 2000 := r6
  have r7 : (0 : Int) ≤ ρ 7 ∧ ρ 7 ≤ 19 := r7
  have r8 : (0 : Int) ≤ ρ 8 ∧ ρ 8 ≤ 61 := r8
  have r9 : (0 : Int) ≤ ρ 9 ∧ ρ 9 ≤ 2000 := r9
  have r10 : ((-2147483648) : Int) ≤ ρ 10 ∧ ρ 10 ≤ 2147483647 := r10
  have r11 : (0 : Int) ≤ ρ 11 ∧ ρ 11 ≤ 2000 := r11
  have r12 : (0 : Int) ≤ ρ 12 ∧ ρ 12 ≤ 2000 := r12
  have r13 : (0 : Int) ≤ ρ 13 ∧ ρ 13 ≤ 2000 := r13
  have r14 : (0 : Int) ≤ ρ 14 ∧ ρ 14 ≤ 50001 := r14
  have r15 : (0 : Int) ≤ ρ 15 ∧ ρ 15 ≤ 2000 := r15
  have r16 : (0 : Int) ≤ ρ 16 ∧ ρ 16 ≤ 50001 := r16
  have r17 : (0 : Int) ≤ ρ 17 ∧ ρ 17 ≤ 0 := r17
  have r18 : (0 : Int) ≤ ρ 18 ∧ ρ 18 ≤ 2000 := r18
  have r19 : (0 : Int) ≤ ρ 19 ∧ ρ 19 ≤ 2000 := r19
  have r20 : (1 : Int) ≤ ρ 20 ∧ ρ 20 ≤ 1 := r20
  have r21 : ((-2147483648) : Int) ≤ ρ 21 ∧ ρ 21 ≤ 1099511640064 := r21
  have r22 : (2 : Int) ≤ ρ 22 ∧ ρ 22 ≤ 2 := r22
  have r23 : (3 : Int) ≤ ρ 23 ∧ ρ 23 ≤ 3 := r23
  have r24 : (3 : Int) ≤ ρ 24 ∧ ρ 24 ≤ 3 := r24
  have r25 : ((-2147483648) : Int) ≤ ρ 25 ∧ ρ 25 ≤ 1099511640064 := r25
  have r26 : ((-2147483648) : Int) ≤ ρ 26 ∧ ρ 26 ≤ 1099511640064 := r26
  have r27 : (0 : Int) ≤ ρ 27 ∧ ρ 27 ≤ 8 := r27
  have r28 : ((-1) : Int) ≤ ρ 28 ∧ ρ 28 ≤ 1999 := r28
  have r29 : (0 : Int) ≤ ρ 29 ∧ ρ 29 ≤ 1999 := r29
  have r30 : (1 : Int) ≤ ρ 30 ∧ ρ 30 ≤ 2000 := r30
  have r31 : (0 : Int) ≤ ρ 31 ∧ ρ 31 ≤ 8 := r31
  have r32 : ((-1) : Int) ≤ ρ 32 ∧ ρ 32 ≤ 1999 := r32
  have r33 : (0 : Int) ≤ ρ 33 ∧ ρ 33 ≤ 1999 := r33
  have r34 : (0 : Int) ≤ ρ 34 ∧ ρ 34 ≤ 3 := r34
  obtain ⟨f0, f1, f2, f3, f4, f5, f6, f7, f8, f9, -⟩ := hf
  have f0 : (0 : Int) ≤ -ρ 7 + ρ 2 + (-1) := f0
  have f1 : (0 : Int) ≤ ρ 30 + -ρ 19 := f1
  have f2 : (0 : Int) ≤ ρ 32 + -ρ 28 := f2
  have f3 : (0 : Int) ≤ ρ 18 + -ρ 15 + (-1) := f3
  have f4 : (0 : Int) ≤ ρ 17 + -ρ 16 + 50000 := f4
  have f5 : (0 : Int) ≤ ρ 1 + -ρ 0 + (-1) := f5
  have f6 : (0 : Int) ≤ ρ 19 + -ρ 9 := f6
  have f7 : (0 : Int) ≤ ρ 18 + -ρ 15 := f7
  have f8 : (0 : Int) ≤ ρ 17 + -ρ 5 := f8
  have f9 : (0 : Int) ≤ ρ 16 + -ρ 4 := f9
  obtain ⟨m0, m1, m2, m3, m4, m5, m6, m7, m8, m9, m10, m11, m12, m13, m14, m15, m16, m17, m18, m19, m20, m21, m22, m23, m24, m25, m26, m27, m28, m29, m30, m31, m32, m33, -⟩ := hm
  have m0 : γ 0 15 0 32 = ρ 1 := m0
  have m1 : γ 0 15 0 13 = ρ 2 := m1
  have m2 : γ 0 71 0 (ρ 0) = ρ 3 := m2
  have m3 : γ 0 15 0 72 = ρ 4 := m3
  have m4 : γ 0 15 0 77 = ρ 5 := m4
  have m5 : γ 0 15 0 90 = ρ 6 := m5
  have m6 : γ 0 69 0 (ρ 0) = ρ 7 := m6
  have m7 : γ 0 15 0 44 = ρ 8 := m7
  have m8 : γ 0 15 0 71 = ρ 9 := m8
  have m9 : γ 0 15 0 76 = ρ 10 := m9
  have m10 : γ 0 15 0 81 = ρ 11 := m10
  have m11 : γ 0 15 0 82 = ρ 12 := m11
  have m12 : γ 0 15 0 83 = ρ 13 := m12
  have m13 : γ 0 15 0 94 = ρ 14 := m13
  have m14 : γ 1 15 0 72 = ρ 16 := m14
  have m15 : γ 1 15 0 77 = ρ 17 := m15
  have m16 : γ 1 15 0 90 = ρ 18 := m16
  have m17 : γ 1 15 0 71 = ρ 19 := m17
  have m18 : γ 1 15 0 81 = ρ 9 := m18
  have m19 : γ 1 109 0 (ρ 15) = ρ 20 := m19
  have m20 : γ 1 108 0 (ρ 15) = ρ 21 := m20
  have m21 : γ 0 66 0 (ρ 7) = ρ 22 := m21
  have m22 : γ 0 70 0 (4 * ρ 0) = ρ 23 := m22
  have m23 : γ 0 70 0 (4 * ρ 0 + 1) = ρ 24 := m23
  have m24 : γ 1 105 0 (4 * ρ 15 + 2) = ρ 25 := m24
  have m25 : γ 1 105 0 (4 * ρ 15 + 3) = ρ 26 := m25
  have m26 : γ 1 97 0 (ρ 19) = ρ 27 := m26
  have m27 : γ 1 100 0 (ρ 7) = ρ 28 := m27
  have m28 : γ 1 101 0 (ρ 7) = ρ 29 := m28
  have m29 : γ 6 15 0 71 = ρ 30 := m29
  have m30 : γ 6 97 0 (ρ 19) = ρ 31 := m30
  have m31 : γ 6 100 0 (ρ 7) = ρ 32 := m31
  have m32 : γ 6 101 0 (ρ 7) = ρ 33 := m32
  have m33 : γ 6 15 0 77 = ρ 34 := m33
  obtain ⟨⟨⟨⟨⟨⟨-, c1⟩, c2⟩, c3⟩, c4⟩, c5⟩, c6⟩ := hc
  have c1 : ∀ (G : Nat) (k j : Int), ¬ rMdP m51_ G j → γ 1 G k j = γ 0 G k j := c1
  have c2 : γ 2 = rUp (γ 1) 102 0 0 (ρ 21) := c2
  have c3 : γ 3 = rUp (γ 2) 102 0 1 (ρ 21) := c3
  have c4 : γ 4 = rUp (γ 3) 102 0 2 (ρ 25) := c4
  have c5 : γ 5 = rUp (γ 4) 102 0 3 (ρ 26) := c5
  have c6 : ∀ (G : Nat) (k j : Int), ¬ rMdP m40_ G j → γ 6 G k j = γ 5 G k j := c6
  obtain ⟨l0, -⟩ := hl
  have l0 : sn57 [ρ 7, ρ 0, ρ 2, ρ 19, ρ 27, ρ 28, ρ 29, ρ 10, ρ 17] (γ 5) 0 0 (γ 6) := hS57 _ _ _ _ _ l0
  show jn75 [ρ 0, ρ 1, ρ 2, ρ 3, ρ 4, ρ 5, ρ 6, ρ 7, ρ 8, ρ 9, ρ 10, ρ 11, ρ 12, ρ 13, ρ 14] (γ 0) 0 [ρ 0, ρ 1, ρ 2, ρ 3, ρ 4, ρ 5, ρ 6, ρ 7, ρ 8, ρ 9, ρ 10, ρ 11, ρ 12, ρ 13, ρ 14, ρ 15 + 1, ρ 16, ρ 34, ρ 18, ρ 30] (γ 6)
  have hD : en75 (γ 0) (0, [ρ 0, ρ 15], γ 1) = .inl (0, [ρ 0, ρ 15 + 1], γ 6) := by
    unfold en75
    refine (if_pos (show (0 : Nat) = 0 by decide)).trans ?_
    refine (zLet_eq (show _ = γ 1 from rfl)).trans ?_
    refine (zLet_eq (show _ = ρ 0 from rfl)).trans ?_
    refine (zLet_eq (show _ = ρ 15 from rfl)).trans ?_
    refine (zLet_eq m2).trans ?_
    refine (zLet_eq m6).trans ?_
    refine (zLet_eq m15).trans ?_
    refine (zLet_eq m16).trans ?_
    refine (if_neg (show ¬ (ρ 15 ≥ ρ 18) by omega)).trans ?_
    refine (if_neg (show ¬ (ρ 17 ≠ 0) by omega)).trans ?_
    refine (if_neg (show ¬ (ρ 3 ≤ 2) by omega)).trans ?_
    refine (zLet_eq m19).trans ?_
    refine (if_pos (show ρ 20 ≠ 0 by omega)).trans ?_
    refine (zLet_eq m20).trans ?_
    refine (zLet_eq m21).trans ?_
    refine (if_neg (show ¬ (0 ≥ ρ 22) by omega)).trans ?_
    refine (zLet_eq m22).trans ?_
    refine (if_neg (show ¬ (ρ 23 ≠ 3) by omega)).trans ?_
    refine (zLet_eq c2.symm).trans ?_
    refine (if_neg (show ¬ (1 ≥ ρ 22) by omega)).trans ?_
    refine (zLet_eq m23).trans ?_
    refine (if_neg (show ¬ (ρ 24 ≠ 3) by omega)).trans ?_
    refine (zLet_eq c3.symm).trans ?_
    refine (if_pos (show 2 ≥ ρ 22 by omega)).trans ?_
    refine (zLet_eq m24).trans ?_
    refine (zLet_eq c4.symm).trans ?_
    refine (zLet_eq m25).trans ?_
    refine (zLet_eq c5.symm).trans ?_
    refine (zLet_eq (show fn57 [ρ 7, ρ 0] (γ 5) = (0, 0, γ 6) from l0.symm)).trans ?_
    refine (zLet_eq (show _ = γ 6 from rfl)).trans ?_
    rfl
  exact zGoo_ato hJ hD
theorem vn75a0_89 {S : Nat → zSpc} (hS57 : ∀ x g o v gz, S 57 x g o v gz → sn57 x g o v gz) (hS73 : ∀ x g o v gz, S 73 x g o v gz → sn73 x g o v gz) {a : List Int} {g : rHp} : ∀ (ρ : Nat → Int) (γ : Nat → rHp), jn75 a g 0 (zAg (zNA a75_ 0) ρ) (γ 1) → zO 15 S a g q75a0_89 ρ γ → zGl (fun i vs g1 => jn75 a g i vs g1) (sn75 a g) q75a0_89 ρ γ := by
  intro ρ γ hJ h
  obtain ⟨ha, hg, hr, hf, hm, hc, hl⟩ := h
  have ha : a = [ρ 0, ρ 1, ρ 2, ρ 3, ρ 4, ρ 5, ρ 6, ρ 7, ρ 8, ρ 9, ρ 10, ρ 11, ρ 12, ρ 13, ρ 14] := ha
  subst ha
  subst hg
  have hJ : jn75 [ρ 0, ρ 1, ρ 2, ρ 3, ρ 4, ρ 5, ρ 6, ρ 7, ρ 8, ρ 9, ρ 10, ρ 11, ρ 12, ρ 13, ρ 14] (γ 0) 0 [ρ 0, ρ 1, ρ 2, ρ 3, ρ 4, ρ 5, ρ 6, ρ 7, ρ 8, ρ 9, ρ 10, ρ 11, ρ 12, ρ 13, ρ 14, ρ 15, ρ 16, ρ 17, ρ 18, ρ 19] (γ 1) := hJ
  obtain ⟨r0, r1, r2, r3, r4, r5, r6, r7, r8, r9, r10, r11, r12, r13, r14, r15, r16, r17, r18, r19, r20, r21, r22, r23, r24, r25, r26, r27, r28, r29, r30, r31, r32, r33, r34, r35, -⟩ := hr
  have r0 : (0 : Int) ≤ ρ 0 ∧ ρ 0 ≤ 59 := r0
  have r1 : (0 : Int) ≤ ρ 1 ∧ ρ 1 ≤ 60 := r1
  have r2 : (0 : Int) ≤ ρ 2 ∧ ρ 2 ≤ 20 := r2
  have r3 : (3 : Int) ≤ ρ 3 ∧ ρ 3 ≤ 4 := r3
  have r4 : (0 : Int) ≤ ρ 4 ∧ ρ 4 ≤ 50001 := r4
  have r5 : (0 : Int) ≤ ρ 5 ∧ ρ 5 ≤ 3 := r5
  have r6 : (0 : Int) ≤ ρ 6 ∧ ρ 6 ≤ 2000 := r6
  have r7 : (0 : Int) ≤ ρ 7 ∧ ρ 7 ≤ 19 := r7
  have r8 : (0 : Int) ≤ ρ 8 ∧ ρ 8 ≤ 61 := r8
  have r9 : (0 : Int) ≤ ρ 9 ∧ ρ 9 ≤ 2000 := r9
  have r10 : ((-2147483648) : Int) ≤ ρ 10 ∧ ρ 10 ≤ 2147483647 := r10
  have r11 : (0 : Int) ≤ ρ 11 ∧ ρ 11 ≤ 2000 := r11
  have r12 : (0 : Int) ≤ ρ 12 ∧ ρ 12 ≤ 2000 := r12
  have r13 : (0 : Int) ≤ ρ 13 ∧ ρ 13 ≤ 2000 := r13
  have r14 : (0 : Int) ≤ ρ 14 ∧ ρ 14 ≤ 50001 := r14
  have r15 : (0 : Int) ≤ ρ 15 ∧ ρ 15 ≤ 2000 := r15
  have r16 : (0 : Int) ≤ ρ 16 ∧ ρ 16 ≤ 50001 := r16
  have r17 : (0 : Int) ≤ ρ 17 ∧ ρ 17 ≤ 0 := r17
  have r18 : (0 : Int) ≤ ρ 18 ∧ ρ 18 ≤ 2000 := r18
  have r19 : (0 : Int) ≤ ρ 19 ∧ ρ 19 ≤ 2000 := r19
  have r20 : (1 : Int) ≤ ρ 20 ∧ ρ 20 ≤ 1 := r20
  have r21 : ((-2147483648) : Int) ≤ ρ 21 ∧ ρ 21 ≤ 1099511640064 := r21
  have r22 : (3 : Int) ≤ ρ 22 ∧ ρ 22 ≤ 3 := r22
  have r23 : (3 : Int) ≤ ρ 23 ∧ ρ 23 ≤ 3 := r23
  have r24 : (3 : Int) ≤ ρ 24 ∧ ρ 24 ≤ 3 := r24
  have r25 : (0 : Int) ≤ ρ 25 ∧ ρ 25 ≤ 2 := r25
  have r26 : ((-2147483648) : Int) ≤ ρ 26 ∧ ρ 26 ≤ 1099511640064 := r26
  have r27 : ((-2147483648) : Int) ≤ ρ 27 ∧ ρ 27 ≤ 1099511640064 := r27
  have r28 : (0 : Int) ≤ ρ 28 ∧ ρ 28 ≤ 8 := r28
  have r29 : ((-1) : Int) ≤ ρ 29 ∧ ρ 29 ≤ 1999 := r29
  have r30 : (0 : Int) ≤ ρ 30 ∧ ρ 30 ≤ 1999 := r30
  have r31 : (1 : Int) ≤ ρ 31 ∧ ρ 31 ≤ 2000 := r31
  have r32 : (0 : Int) ≤ ρ 32 ∧ ρ 32 ≤ 8 := r32
  have r33 : ((-1) : Int) ≤ ρ 33 ∧ ρ 33 ≤ 1999 := r33
  have r34 : (0 : Int) ≤ ρ 34 ∧ ρ 34 ≤ 1999 := r34
  have r35 : (0 : Int) ≤ ρ 35 ∧ ρ 35 ≤ 3 := r35
  obtain ⟨f0, f1, f2, f3, f4, f5, f6, f7, f8, f9, -⟩ := hf
  have f0 : (0 : Int) ≤ -ρ 7 + ρ 2 + (-1) := f0
  have f1 : (0 : Int) ≤ ρ 31 + -ρ 19 := f1
  have f2 : (0 : Int) ≤ ρ 33 + -ρ 29 := f2
  have f3 : (0 : Int) ≤ ρ 18 + -ρ 15 + (-1) := f3
  have f4 : (0 : Int) ≤ ρ 17 + -ρ 16 + 50000 := f4
  have f5 : (0 : Int) ≤ ρ 1 + -ρ 0 + (-1) := f5
  have f6 : (0 : Int) ≤ ρ 19 + -ρ 9 := f6
  have f7 : (0 : Int) ≤ ρ 18 + -ρ 15 := f7
  have f8 : (0 : Int) ≤ ρ 17 + -ρ 5 := f8
  have f9 : (0 : Int) ≤ ρ 16 + -ρ 4 := f9
  obtain ⟨m0, m1, m2, m3, m4, m5, m6, m7, m8, m9, m10, m11, m12, m13, m14, m15, m16, m17, m18, m19, m20, m21, m22, m23, m24, m25, m26, m27, m28, m29, m30, m31, m32, m33, m34, -⟩ := hm
  have m0 : γ 0 15 0 32 = ρ 1 := m0
  have m1 : γ 0 15 0 13 = ρ 2 := m1
  have m2 : γ 0 71 0 (ρ 0) = ρ 3 := m2
  have m3 : γ 0 15 0 72 = ρ 4 := m3
  have m4 : γ 0 15 0 77 = ρ 5 := m4
  have m5 : γ 0 15 0 90 = ρ 6 := m5
  have m6 : γ 0 69 0 (ρ 0) = ρ 7 := m6
  have m7 : γ 0 15 0 44 = ρ 8 := m7
  have m8 : γ 0 15 0 71 = ρ 9 := m8
  have m9 : γ 0 15 0 76 = ρ 10 := m9
  have m10 : γ 0 15 0 81 = ρ 11 := m10
  have m11 : γ 0 15 0 82 = ρ 12 := m11
  have m12 : γ 0 15 0 83 = ρ 13 := m12
  have m13 : γ 0 15 0 94 = ρ 14 := m13
  have m14 : γ 1 15 0 72 = ρ 16 := m14
  have m15 : γ 1 15 0 77 = ρ 17 := m15
  have m16 : γ 1 15 0 90 = ρ 18 := m16
  have m17 : γ 1 15 0 71 = ρ 19 := m17
  have m18 : γ 1 15 0 81 = ρ 9 := m18
  have m19 : γ 1 109 0 (ρ 15) = ρ 20 := m19
  have m20 : γ 1 108 0 (ρ 15) = ρ 21 := m20
  have m21 : γ 0 66 0 (ρ 7) = ρ 22 := m21
  have m22 : γ 0 70 0 (4 * ρ 0) = ρ 23 := m22
  have m23 : γ 0 70 0 (4 * ρ 0 + 1) = ρ 24 := m23
  have m24 : γ 0 70 0 (4 * ρ 0 + 2) = ρ 25 := m24
  have m25 : γ 1 105 0 (4 * ρ 15 + 2) = ρ 26 := m25
  have m26 : γ 1 105 0 (4 * ρ 15 + 3) = ρ 27 := m26
  have m27 : γ 1 97 0 (ρ 19) = ρ 28 := m27
  have m28 : γ 1 100 0 (ρ 7) = ρ 29 := m28
  have m29 : γ 1 101 0 (ρ 7) = ρ 30 := m29
  have m30 : γ 6 15 0 71 = ρ 31 := m30
  have m31 : γ 6 97 0 (ρ 19) = ρ 32 := m31
  have m32 : γ 6 100 0 (ρ 7) = ρ 33 := m32
  have m33 : γ 6 101 0 (ρ 7) = ρ 34 := m33
  have m34 : γ 6 15 0 77 = ρ 35 := m34
  obtain ⟨⟨⟨⟨⟨⟨-, c1⟩, c2⟩, c3⟩, c4⟩, c5⟩, c6⟩ := hc
  have c1 : ∀ (G : Nat) (k j : Int), ¬ rMdP m51_ G j → γ 1 G k j = γ 0 G k j := c1
  have c2 : γ 2 = rUp (γ 1) 102 0 0 (ρ 21) := c2
  have c3 : γ 3 = rUp (γ 2) 102 0 1 (ρ 21) := c3
  have c4 : γ 4 = rUp (γ 3) 102 0 2 (ρ 26) := c4
  have c5 : γ 5 = rUp (γ 4) 102 0 3 (ρ 27) := c5
  have c6 : ∀ (G : Nat) (k j : Int), ¬ rMdP m40_ G j → γ 6 G k j = γ 5 G k j := c6
  obtain ⟨l0, -⟩ := hl
  have l0 : sn57 [ρ 7, ρ 0, ρ 2, ρ 19, ρ 28, ρ 29, ρ 30, ρ 10, ρ 17] (γ 5) 0 0 (γ 6) := hS57 _ _ _ _ _ l0
  show jn75 [ρ 0, ρ 1, ρ 2, ρ 3, ρ 4, ρ 5, ρ 6, ρ 7, ρ 8, ρ 9, ρ 10, ρ 11, ρ 12, ρ 13, ρ 14] (γ 0) 0 [ρ 0, ρ 1, ρ 2, ρ 3, ρ 4, ρ 5, ρ 6, ρ 7, ρ 8, ρ 9, ρ 10, ρ 11, ρ 12, ρ 13, ρ 14, ρ 15 + 1, ρ 16, ρ 35, ρ 18, ρ 31] (γ 6)
  have hD : en75 (γ 0) (0, [ρ 0, ρ 15], γ 1) = .inl (0, [ρ 0, ρ 15 + 1], γ 6) := by
    unfold en75
    refine (if_pos (show (0 : Nat) = 0 by decide)).trans ?_
    refine (zLet_eq (show _ = γ 1 from rfl)).trans ?_
    refine (zLet_eq (show _ = ρ 0 from rfl)).trans ?_
    refine (zLet_eq (show _ = ρ 15 from rfl)).trans ?_
    refine (zLet_eq m2).trans ?_
    refine (zLet_eq m6).trans ?_
    refine (zLet_eq m15).trans ?_
    refine (zLet_eq m16).trans ?_
    refine (if_neg (show ¬ (ρ 15 ≥ ρ 18) by omega)).trans ?_
    refine (if_neg (show ¬ (ρ 17 ≠ 0) by omega)).trans ?_
    refine (if_neg (show ¬ (ρ 3 ≤ 2) by omega)).trans ?_
    refine (zLet_eq m19).trans ?_
    refine (if_pos (show ρ 20 ≠ 0 by omega)).trans ?_
    refine (zLet_eq m20).trans ?_
    refine (zLet_eq m21).trans ?_
    refine (if_neg (show ¬ (0 ≥ ρ 22) by omega)).trans ?_
    refine (zLet_eq m22).trans ?_
    refine (if_neg (show ¬ (ρ 23 ≠ 3) by omega)).trans ?_
    refine (zLet_eq c2.symm).trans ?_
    refine (if_neg (show ¬ (1 ≥ ρ 22) by omega)).trans ?_
    refine (zLet_eq m23).trans ?_
    refine (if_neg (show ¬ (ρ 24 ≠ 3) by omega)).trans ?_
    refine (zLet_eq c3.symm).trans ?_
    refine (if_neg (show ¬ (2 ≥ ρ 22) by omega)).trans ?_
    refine (zLet_eq m24).trans ?_
    refine (if_pos (show ρ 25 ≠ 3 by omega)).trans ?_
    refine (zLet_eq m25).trans ?_
    refine (zLet_eq c4.symm).trans ?_
    refine (if_pos (show 3 ≥ ρ 22 by omega)).trans ?_
    refine (zLet_eq m26).trans ?_
    refine (zLet_eq c5.symm).trans ?_
    refine (zLet_eq (show fn57 [ρ 7, ρ 0] (γ 5) = (0, 0, γ 6) from l0.symm)).trans ?_
    refine (zLet_eq (show _ = γ 6 from rfl)).trans ?_
    rfl
  exact zGoo_ato hJ hD
theorem vn75a0_90 {S : Nat → zSpc} (hS57 : ∀ x g o v gz, S 57 x g o v gz → sn57 x g o v gz) (hS73 : ∀ x g o v gz, S 73 x g o v gz → sn73 x g o v gz) {a : List Int} {g : rHp} : ∀ (ρ : Nat → Int) (γ : Nat → rHp), jn75 a g 0 (zAg (zNA a75_ 0) ρ) (γ 1) → zO 15 S a g q75a0_90 ρ γ → zGl (fun i vs g1 => jn75 a g i vs g1) (sn75 a g) q75a0_90 ρ γ := by
  intro ρ γ hJ h
  obtain ⟨ha, hg, hr, hf, hm, hc, hl⟩ := h
  have ha : a = [ρ 0, ρ 1, ρ 2, ρ 3, ρ 4, ρ 5, ρ 6, ρ 7, ρ 8, ρ 9, ρ 10, ρ 11, ρ 12, ρ 13, ρ 14] := ha
  subst ha
  subst hg
  have hJ : jn75 [ρ 0, ρ 1, ρ 2, ρ 3, ρ 4, ρ 5, ρ 6, ρ 7, ρ 8, ρ 9, ρ 10, ρ 11, ρ 12, ρ 13, ρ 14] (γ 0) 0 [ρ 0, ρ 1, ρ 2, ρ 3, ρ 4, ρ 5, ρ 6, ρ 7, ρ 8, ρ 9, ρ 10, ρ 11, ρ 12, ρ 13, ρ 14, ρ 15, ρ 16, ρ 17, ρ 18, ρ 19] (γ 1) := hJ
  obtain ⟨r0, r1, r2, r3, r4, r5, r6, r7, r8, r9, r10, r11, r12, r13, r14, r15, r16, r17, r18, r19, r20, r21, r22, r23, r24, r25, r26, r27, r28, r29, r30, r31, r32, r33, r34, r35, r36, -⟩ := hr
  have r0 : (0 : Int) ≤ ρ 0 ∧ ρ 0 ≤ 59 := r0
  have r1 : (0 : Int) ≤ ρ 1 ∧ ρ 1 ≤ 60 := r1
  have r2 : (0 : Int) ≤ ρ 2 ∧ ρ 2 ≤ 20 := r2
  have r3 : (3 : Int) ≤ ρ 3 ∧ ρ 3 ≤ 4 := r3
  have r4 : (0 : Int) ≤ ρ 4 ∧ ρ 4 ≤ 50001 := r4
  have r5 : (0 : Int) ≤ ρ 5 ∧ ρ 5 ≤ 3 := r5
  have r6 : (0 : Int) ≤ ρ 6 ∧ ρ 6 ≤ 2000 := r6
  have r7 : (0 : Int) ≤ ρ 7 ∧ ρ 7 ≤ 19 := r7
  have r8 : (0 : Int) ≤ ρ 8 ∧ ρ 8 ≤ 61 := r8
  have r9 : (0 : Int) ≤ ρ 9 ∧ ρ 9 ≤ 2000 := r9
  have r10 : ((-2147483648) : Int) ≤ ρ 10 ∧ ρ 10 ≤ 2147483647 := r10
  have r11 : (0 : Int) ≤ ρ 11 ∧ ρ 11 ≤ 2000 := r11
  have r12 : (0 : Int) ≤ ρ 12 ∧ ρ 12 ≤ 2000 := r12
  have r13 : (0 : Int) ≤ ρ 13 ∧ ρ 13 ≤ 2000 := r13
  have r14 : (0 : Int) ≤ ρ 14 ∧ ρ 14 ≤ 50001 := r14
  have r15 : (0 : Int) ≤ ρ 15 ∧ ρ 15 ≤ 2000 := r15
  have r16 : (0 : Int) ≤ ρ 16 ∧ ρ 16 ≤ 50001 := r16
  have r17 : (0 : Int) ≤ ρ 17 ∧ ρ 17 ≤ 0 := r17
  have r18 : (0 : Int) ≤ ρ 18 ∧ ρ 18 ≤ 2000 := r18
  have r19 : (0 : Int) ≤ ρ 19 ∧ ρ 19 ≤ 2000 := r19
  have r20 : (1 : Int) ≤ ρ 20 ∧ ρ 20 ≤ 1 := r20
  have r21 : ((-2147483648) : Int) ≤ ρ 21 ∧ ρ 21 ≤ 1099511640064 := r21
  have r22 : (4 : Int) ≤ ρ 22 ∧ ρ 22 ≤ 4 := r22
  have r23 : (3 : Int) ≤ ρ 23 ∧ ρ 23 ≤ 3 := r23
  have r24 : (3 : Int) ≤ ρ 24 ∧ ρ 24 ≤ 3 := r24
  have r25 : (0 : Int) ≤ ρ 25 ∧ ρ 25 ≤ 2 := r25
  have r26 : ((-2147483648) : Int) ≤ ρ 26 ∧ ρ 26 ≤ 1099511640064 := r26
  have r27 : (0 : Int) ≤ ρ 27 ∧ ρ 27 ≤ 2 := r27
  have r28 : ((-2147483648) : Int) ≤ ρ 28 ∧ ρ 28 ≤ 1099511640064 := r28
  have r29 : (0 : Int) ≤ ρ 29 ∧ ρ 29 ≤ 8 := r29
  have r30 : ((-1) : Int) ≤ ρ 30 ∧ ρ 30 ≤ 1999 := r30
  have r31 : (0 : Int) ≤ ρ 31 ∧ ρ 31 ≤ 1999 := r31
  have r32 : (1 : Int) ≤ ρ 32 ∧ ρ 32 ≤ 2000 := r32
  have r33 : (0 : Int) ≤ ρ 33 ∧ ρ 33 ≤ 8 := r33
  have r34 : ((-1) : Int) ≤ ρ 34 ∧ ρ 34 ≤ 1999 := r34
  have r35 : (0 : Int) ≤ ρ 35 ∧ ρ 35 ≤ 1999 := r35
  have r36 : (0 : Int) ≤ ρ 36 ∧ ρ 36 ≤ 3 := r36
  obtain ⟨f0, f1, f2, f3, f4, f5, f6, f7, f8, f9, -⟩ := hf
  have f0 : (0 : Int) ≤ -ρ 7 + ρ 2 + (-1) := f0
  have f1 : (0 : Int) ≤ ρ 32 + -ρ 19 := f1
  have f2 : (0 : Int) ≤ ρ 34 + -ρ 30 := f2
  have f3 : (0 : Int) ≤ ρ 18 + -ρ 15 + (-1) := f3
  have f4 : (0 : Int) ≤ ρ 17 + -ρ 16 + 50000 := f4
  have f5 : (0 : Int) ≤ ρ 1 + -ρ 0 + (-1) := f5
  have f6 : (0 : Int) ≤ ρ 19 + -ρ 9 := f6
  have f7 : (0 : Int) ≤ ρ 18 + -ρ 15 := f7
  have f8 : (0 : Int) ≤ ρ 17 + -ρ 5 := f8
  have f9 : (0 : Int) ≤ ρ 16 + -ρ 4 := f9
  obtain ⟨m0, m1, m2, m3, m4, m5, m6, m7, m8, m9, m10, m11, m12, m13, m14, m15, m16, m17, m18, m19, m20, m21, m22, m23, m24, m25, m26, m27, m28, m29, m30, m31, m32, m33, m34, m35, -⟩ := hm
  have m0 : γ 0 15 0 32 = ρ 1 := m0
  have m1 : γ 0 15 0 13 = ρ 2 := m1
  have m2 : γ 0 71 0 (ρ 0) = ρ 3 := m2
  have m3 : γ 0 15 0 72 = ρ 4 := m3
  have m4 : γ 0 15 0 77 = ρ 5 := m4
  have m5 : γ 0 15 0 90 = ρ 6 := m5
  have m6 : γ 0 69 0 (ρ 0) = ρ 7 := m6
  have m7 : γ 0 15 0 44 = ρ 8 := m7
  have m8 : γ 0 15 0 71 = ρ 9 := m8
  have m9 : γ 0 15 0 76 = ρ 10 := m9
  have m10 : γ 0 15 0 81 = ρ 11 := m10
  have m11 : γ 0 15 0 82 = ρ 12 := m11
  have m12 : γ 0 15 0 83 = ρ 13 := m12
  have m13 : γ 0 15 0 94 = ρ 14 := m13
  have m14 : γ 1 15 0 72 = ρ 16 := m14
  have m15 : γ 1 15 0 77 = ρ 17 := m15
  have m16 : γ 1 15 0 90 = ρ 18 := m16
  have m17 : γ 1 15 0 71 = ρ 19 := m17
  have m18 : γ 1 15 0 81 = ρ 9 := m18
  have m19 : γ 1 109 0 (ρ 15) = ρ 20 := m19
  have m20 : γ 1 108 0 (ρ 15) = ρ 21 := m20
  have m21 : γ 0 66 0 (ρ 7) = ρ 22 := m21
  have m22 : γ 0 70 0 (4 * ρ 0) = ρ 23 := m22
  have m23 : γ 0 70 0 (4 * ρ 0 + 1) = ρ 24 := m23
  have m24 : γ 0 70 0 (4 * ρ 0 + 2) = ρ 25 := m24
  have m25 : γ 1 105 0 (4 * ρ 15 + 2) = ρ 26 := m25
  have m26 : γ 0 70 0 (4 * ρ 0 + 3) = ρ 27 := m26
  have m27 : γ 1 105 0 (4 * ρ 15 + 3) = ρ 28 := m27
  have m28 : γ 1 97 0 (ρ 19) = ρ 29 := m28
  have m29 : γ 1 100 0 (ρ 7) = ρ 30 := m29
  have m30 : γ 1 101 0 (ρ 7) = ρ 31 := m30
  have m31 : γ 6 15 0 71 = ρ 32 := m31
  have m32 : γ 6 97 0 (ρ 19) = ρ 33 := m32
  have m33 : γ 6 100 0 (ρ 7) = ρ 34 := m33
  have m34 : γ 6 101 0 (ρ 7) = ρ 35 := m34
  have m35 : γ 6 15 0 77 = ρ 36 := m35
  obtain ⟨⟨⟨⟨⟨⟨-, c1⟩, c2⟩, c3⟩, c4⟩, c5⟩, c6⟩ := hc
  have c1 : ∀ (G : Nat) (k j : Int), ¬ rMdP m51_ G j → γ 1 G k j = γ 0 G k j := c1
  have c2 : γ 2 = rUp (γ 1) 102 0 0 (ρ 21) := c2
  have c3 : γ 3 = rUp (γ 2) 102 0 1 (ρ 21) := c3
  have c4 : γ 4 = rUp (γ 3) 102 0 2 (ρ 26) := c4
  have c5 : γ 5 = rUp (γ 4) 102 0 3 (ρ 28) := c5
  have c6 : ∀ (G : Nat) (k j : Int), ¬ rMdP m40_ G j → γ 6 G k j = γ 5 G k j := c6
  obtain ⟨l0, -⟩ := hl
  have l0 : sn57 [ρ 7, ρ 0, ρ 2, ρ 19, ρ 29, ρ 30, ρ 31, ρ 10, ρ 17] (γ 5) 0 0 (γ 6) := hS57 _ _ _ _ _ l0
  show jn75 [ρ 0, ρ 1, ρ 2, ρ 3, ρ 4, ρ 5, ρ 6, ρ 7, ρ 8, ρ 9, ρ 10, ρ 11, ρ 12, ρ 13, ρ 14] (γ 0) 0 [ρ 0, ρ 1, ρ 2, ρ 3, ρ 4, ρ 5, ρ 6, ρ 7, ρ 8, ρ 9, ρ 10, ρ 11, ρ 12, ρ 13, ρ 14, ρ 15 + 1, ρ 16, ρ 36, ρ 18, ρ 32] (γ 6)
  have hD : en75 (γ 0) (0, [ρ 0, ρ 15], γ 1) = .inl (0, [ρ 0, ρ 15 + 1], γ 6) := by
    unfold en75
    refine (if_pos (show (0 : Nat) = 0 by decide)).trans ?_
    refine (zLet_eq (show _ = γ 1 from rfl)).trans ?_
    refine (zLet_eq (show _ = ρ 0 from rfl)).trans ?_
    refine (zLet_eq (show _ = ρ 15 from rfl)).trans ?_
    refine (zLet_eq m2).trans ?_
    refine (zLet_eq m6).trans ?_
    refine (zLet_eq m15).trans ?_
    refine (zLet_eq m16).trans ?_
    refine (if_neg (show ¬ (ρ 15 ≥ ρ 18) by omega)).trans ?_
    refine (if_neg (show ¬ (ρ 17 ≠ 0) by omega)).trans ?_
    refine (if_neg (show ¬ (ρ 3 ≤ 2) by omega)).trans ?_
    refine (zLet_eq m19).trans ?_
    refine (if_pos (show ρ 20 ≠ 0 by omega)).trans ?_
    refine (zLet_eq m20).trans ?_
    refine (zLet_eq m21).trans ?_
    refine (if_neg (show ¬ (0 ≥ ρ 22) by omega)).trans ?_
    refine (zLet_eq m22).trans ?_
    refine (if_neg (show ¬ (ρ 23 ≠ 3) by omega)).trans ?_
    refine (zLet_eq c2.symm).trans ?_
    refine (if_neg (show ¬ (1 ≥ ρ 22) by omega)).trans ?_
    refine (zLet_eq m23).trans ?_
    refine (if_neg (show ¬ (ρ 24 ≠ 3) by omega)).trans ?_
    refine (zLet_eq c3.symm).trans ?_
    refine (if_neg (show ¬ (2 ≥ ρ 22) by omega)).trans ?_
    refine (zLet_eq m24).trans ?_
    refine (if_pos (show ρ 25 ≠ 3 by omega)).trans ?_
    refine (zLet_eq m25).trans ?_
    refine (zLet_eq c4.symm).trans ?_
    refine (if_neg (show ¬ (3 ≥ ρ 22) by omega)).trans ?_
    refine (zLet_eq m26).trans ?_
    refine (if_pos (show ρ 27 ≠ 3 by omega)).trans ?_
    refine (zLet_eq m27).trans ?_
    refine (zLet_eq c5.symm).trans ?_
    refine (zLet_eq (show fn57 [ρ 7, ρ 0] (γ 5) = (0, 0, γ 6) from l0.symm)).trans ?_
    refine (zLet_eq (show _ = γ 6 from rfl)).trans ?_
    rfl
  exact zGoo_ato hJ hD
theorem vn75a0_91 {S : Nat → zSpc} (hS57 : ∀ x g o v gz, S 57 x g o v gz → sn57 x g o v gz) (hS73 : ∀ x g o v gz, S 73 x g o v gz → sn73 x g o v gz) {a : List Int} {g : rHp} : ∀ (ρ : Nat → Int) (γ : Nat → rHp), jn75 a g 0 (zAg (zNA a75_ 0) ρ) (γ 1) → zO 15 S a g q75a0_91 ρ γ → zGl (fun i vs g1 => jn75 a g i vs g1) (sn75 a g) q75a0_91 ρ γ := by
  intro ρ γ hJ h
  obtain ⟨ha, hg, hr, hf, hm, hc, hl⟩ := h
  have ha : a = [ρ 0, ρ 1, ρ 2, ρ 3, ρ 4, ρ 5, ρ 6, ρ 7, ρ 8, ρ 9, ρ 10, ρ 11, ρ 12, ρ 13, ρ 14] := ha
  subst ha
  subst hg
  have hJ : jn75 [ρ 0, ρ 1, ρ 2, ρ 3, ρ 4, ρ 5, ρ 6, ρ 7, ρ 8, ρ 9, ρ 10, ρ 11, ρ 12, ρ 13, ρ 14] (γ 0) 0 [ρ 0, ρ 1, ρ 2, ρ 3, ρ 4, ρ 5, ρ 6, ρ 7, ρ 8, ρ 9, ρ 10, ρ 11, ρ 12, ρ 13, ρ 14, ρ 15, ρ 16, ρ 17, ρ 18, ρ 19] (γ 1) := hJ
  obtain ⟨r0, r1, r2, r3, r4, r5, r6, r7, r8, r9, r10, r11, r12, r13, r14, r15, r16, r17, r18, r19, r20, r21, r22, r23, r24, r25, r26, r27, r28, r29, r30, r31, r32, r33, r34, r35, -⟩ := hr
  have r0 : (0 : Int) ≤ ρ 0 ∧ ρ 0 ≤ 59 := r0
  have r1 : (0 : Int) ≤ ρ 1 ∧ ρ 1 ≤ 60 := r1
  have r2 : (0 : Int) ≤ ρ 2 ∧ ρ 2 ≤ 20 := r2
  have r3 : (3 : Int) ≤ ρ 3 ∧ ρ 3 ≤ 4 := r3
  have r4 : (0 : Int) ≤ ρ 4 ∧ ρ 4 ≤ 50001 := r4
  have r5 : (0 : Int) ≤ ρ 5 ∧ ρ 5 ≤ 3 := r5
  have r6 : (0 : Int) ≤ ρ 6 ∧ ρ 6 ≤ 2000 := r6
  have r7 : (0 : Int) ≤ ρ 7 ∧ ρ 7 ≤ 19 := r7
  have r8 : (0 : Int) ≤ ρ 8 ∧ ρ 8 ≤ 61 := r8
  have r9 : (0 : Int) ≤ ρ 9 ∧ ρ 9 ≤ 2000 := r9
  have r10 : ((-2147483648) : Int) ≤ ρ 10 ∧ ρ 10 ≤ 2147483647 := r10
  have r11 : (0 : Int) ≤ ρ 11 ∧ ρ 11 ≤ 2000 := r11
  have r12 : (0 : Int) ≤ ρ 12 ∧ ρ 12 ≤ 2000 := r12
  have r13 : (0 : Int) ≤ ρ 13 ∧ ρ 13 ≤ 2000 := r13
  have r14 : (0 : Int) ≤ ρ 14 ∧ ρ 14 ≤ 50001 := r14
  have r15 : (0 : Int) ≤ ρ 15 ∧ ρ 15 ≤ 2000 := r15
  have r16 : (0 : Int) ≤ ρ 16 ∧ ρ 16 ≤ 50001 := r16
  have r17 : (0 : Int) ≤ ρ 17 ∧ ρ 17 ≤ 0 := r17
  have r18 : (0 : Int) ≤ ρ 18 ∧ ρ 18 ≤ 2000 := r18
  have r19 : (0 : Int) ≤ ρ 19 ∧ ρ 19 ≤ 2000 := r19
  have r20 : (1 : Int) ≤ ρ 20 ∧ ρ 20 ≤ 1 := r20
  have r21 : ((-2147483648) : Int) ≤ ρ 21 ∧ ρ 21 ≤ 1099511640064 := r21
  have r22 : (4 : Int) ≤ ρ 22 ∧ ρ 22 ≤ 4 := r22
  have r23 : (3 : Int) ≤ ρ 23 ∧ ρ 23 ≤ 3 := r23
  have r24 : (3 : Int) ≤ ρ 24 ∧ ρ 24 ≤ 3 := r24
  have r25 : (0 : Int) ≤ ρ 25 ∧ ρ 25 ≤ 2 := r25
  have r26 : ((-2147483648) : Int) ≤ ρ 26 ∧ ρ 26 ≤ 1099511640064 := r26
  have r27 : (3 : Int) ≤ ρ 27 ∧ ρ 27 ≤ 3 := r27
  have r28 : (0 : Int) ≤ ρ 28 ∧ ρ 28 ≤ 8 := r28
  have r29 : ((-1) : Int) ≤ ρ 29 ∧ ρ 29 ≤ 1999 := r29
  have r30 : (0 : Int) ≤ ρ 30 ∧ ρ 30 ≤ 1999 := r30
  have r31 : (1 : Int) ≤ ρ 31 ∧ ρ 31 ≤ 2000 := r31
  have r32 : (0 : Int) ≤ ρ 32 ∧ ρ 32 ≤ 8 := r32
  have r33 : ((-1) : Int) ≤ ρ 33 ∧ ρ 33 ≤ 1999 := r33
  have r34 : (0 : Int) ≤ ρ 34 ∧ ρ 34 ≤ 1999 := r34
  have r35 : (0 : Int) ≤ ρ 35 ∧ ρ 35 ≤ 3 := r35
  obtain ⟨f0, f1, f2, f3, f4, f5, f6, f7, f8, f9, -⟩ := hf
  have f0 : (0 : Int) ≤ -ρ 7 + ρ 2 + (-1) := f0
  have f1 : (0 : Int) ≤ ρ 31 + -ρ 19 := f1
  have f2 : (0 : Int) ≤ ρ 33 + -ρ 29 := f2
  have f3 : (0 : Int) ≤ ρ 18 + -ρ 15 + (-1) := f3
  have f4 : (0 : Int) ≤ ρ 17 + -ρ 16 + 50000 := f4
  have f5 : (0 : Int) ≤ ρ 1 + -ρ 0 + (-1) := f5
  have f6 : (0 : Int) ≤ ρ 19 + -ρ 9 := f6
  have f7 : (0 : Int) ≤ ρ 18 + -ρ 15 := f7
  have f8 : (0 : Int) ≤ ρ 17 + -ρ 5 := f8
  have f9 : (0 : Int) ≤ ρ 16 + -ρ 4 := f9
  obtain ⟨m0, m1, m2, m3, m4, m5, m6, m7, m8, m9, m10, m11, m12, m13, m14, m15, m16, m17, m18, m19, m20, m21, m22, m23, m24, m25, m26, m27, m28, m29, m30, m31, m32, m33, m34, -⟩ := hm
  have m0 : γ 0 15 0 32 = ρ 1 := m0
  have m1 : γ 0 15 0 13 = ρ 2 := m1
  have m2 : γ 0 71 0 (ρ 0) = ρ 3 := m2
  have m3 : γ 0 15 0 72 = ρ 4 := m3
  have m4 : γ 0 15 0 77 = ρ 5 := m4
  have m5 : γ 0 15 0 90 = ρ 6 := m5
  have m6 : γ 0 69 0 (ρ 0) = ρ 7 := m6
  have m7 : γ 0 15 0 44 = ρ 8 := m7
  have m8 : γ 0 15 0 71 = ρ 9 := m8
  have m9 : γ 0 15 0 76 = ρ 10 := m9
  have m10 : γ 0 15 0 81 = ρ 11 := m10
  have m11 : γ 0 15 0 82 = ρ 12 := m11
  have m12 : γ 0 15 0 83 = ρ 13 := m12
  have m13 : γ 0 15 0 94 = ρ 14 := m13
  have m14 : γ 1 15 0 72 = ρ 16 := m14
  have m15 : γ 1 15 0 77 = ρ 17 := m15
  have m16 : γ 1 15 0 90 = ρ 18 := m16
  have m17 : γ 1 15 0 71 = ρ 19 := m17
  have m18 : γ 1 15 0 81 = ρ 9 := m18
  have m19 : γ 1 109 0 (ρ 15) = ρ 20 := m19
  have m20 : γ 1 108 0 (ρ 15) = ρ 21 := m20
  have m21 : γ 0 66 0 (ρ 7) = ρ 22 := m21
  have m22 : γ 0 70 0 (4 * ρ 0) = ρ 23 := m22
  have m23 : γ 0 70 0 (4 * ρ 0 + 1) = ρ 24 := m23
  have m24 : γ 0 70 0 (4 * ρ 0 + 2) = ρ 25 := m24
  have m25 : γ 1 105 0 (4 * ρ 15 + 2) = ρ 26 := m25
  have m26 : γ 0 70 0 (4 * ρ 0 + 3) = ρ 27 := m26
  have m27 : γ 1 97 0 (ρ 19) = ρ 28 := m27
  have m28 : γ 1 100 0 (ρ 7) = ρ 29 := m28
  have m29 : γ 1 101 0 (ρ 7) = ρ 30 := m29
  have m30 : γ 6 15 0 71 = ρ 31 := m30
  have m31 : γ 6 97 0 (ρ 19) = ρ 32 := m31
  have m32 : γ 6 100 0 (ρ 7) = ρ 33 := m32
  have m33 : γ 6 101 0 (ρ 7) = ρ 34 := m33
  have m34 : γ 6 15 0 77 = ρ 35 := m34
  obtain ⟨⟨⟨⟨⟨⟨-, c1⟩, c2⟩, c3⟩, c4⟩, c5⟩, c6⟩ := hc
  have c1 : ∀ (G : Nat) (k j : Int), ¬ rMdP m51_ G j → γ 1 G k j = γ 0 G k j := c1
  have c2 : γ 2 = rUp (γ 1) 102 0 0 (ρ 21) := c2
  have c3 : γ 3 = rUp (γ 2) 102 0 1 (ρ 21) := c3
  have c4 : γ 4 = rUp (γ 3) 102 0 2 (ρ 26) := c4
  have c5 : γ 5 = rUp (γ 4) 102 0 3 (ρ 21) := c5
  have c6 : ∀ (G : Nat) (k j : Int), ¬ rMdP m40_ G j → γ 6 G k j = γ 5 G k j := c6
  obtain ⟨l0, -⟩ := hl
  have l0 : sn57 [ρ 7, ρ 0, ρ 2, ρ 19, ρ 28, ρ 29, ρ 30, ρ 10, ρ 17] (γ 5) 0 0 (γ 6) := hS57 _ _ _ _ _ l0
  show jn75 [ρ 0, ρ 1, ρ 2, ρ 3, ρ 4, ρ 5, ρ 6, ρ 7, ρ 8, ρ 9, ρ 10, ρ 11, ρ 12, ρ 13, ρ 14] (γ 0) 0 [ρ 0, ρ 1, ρ 2, ρ 3, ρ 4, ρ 5, ρ 6, ρ 7, ρ 8, ρ 9, ρ 10, ρ 11, ρ 12, ρ 13, ρ 14, ρ 15 + 1, ρ 16, ρ 35, ρ 18, ρ 31] (γ 6)
  have hD : en75 (γ 0) (0, [ρ 0, ρ 15], γ 1) = .inl (0, [ρ 0, ρ 15 + 1], γ 6) := by
    unfold en75
    refine (if_pos (show (0 : Nat) = 0 by decide)).trans ?_
    refine (zLet_eq (show _ = γ 1 from rfl)).trans ?_
    refine (zLet_eq (show _ = ρ 0 from rfl)).trans ?_
    refine (zLet_eq (show _ = ρ 15 from rfl)).trans ?_
    refine (zLet_eq m2).trans ?_
    refine (zLet_eq m6).trans ?_
    refine (zLet_eq m15).trans ?_
    refine (zLet_eq m16).trans ?_
    refine (if_neg (show ¬ (ρ 15 ≥ ρ 18) by omega)).trans ?_
    refine (if_neg (show ¬ (ρ 17 ≠ 0) by omega)).trans ?_
    refine (if_neg (show ¬ (ρ 3 ≤ 2) by omega)).trans ?_
    refine (zLet_eq m19).trans ?_
    refine (if_pos (show ρ 20 ≠ 0 by omega)).trans ?_
    refine (zLet_eq m20).trans ?_
    refine (zLet_eq m21).trans ?_
    refine (if_neg (show ¬ (0 ≥ ρ 22) by omega)).trans ?_
    refine (zLet_eq m22).trans ?_
    refine (if_neg (show ¬ (ρ 23 ≠ 3) by omega)).trans ?_
    refine (zLet_eq c2.symm).trans ?_
    refine (if_neg (show ¬ (1 ≥ ρ 22) by omega)).trans ?_
    refine (zLet_eq m23).trans ?_
    refine (if_neg (show ¬ (ρ 24 ≠ 3) by omega)).trans ?_
    refine (zLet_eq c3.symm).trans ?_
    refine (if_neg (show ¬ (2 ≥ ρ 22) by omega)).trans ?_
    refine (zLet_eq m24).trans ?_
    refine (if_pos (show ρ 25 ≠ 3 by omega)).trans ?_
    refine (zLet_eq m25).trans ?_
    refine (zLet_eq c4.symm).trans ?_
    refine (if_neg (show ¬ (3 ≥ ρ 22) by omega)).trans ?_
    refine (zLet_eq m26).trans ?_
    refine (if_neg (show ¬ (ρ 27 ≠ 3) by omega)).trans ?_
    refine (zLet_eq c5.symm).trans ?_
    refine (zLet_eq (show fn57 [ρ 7, ρ 0] (γ 5) = (0, 0, γ 6) from l0.symm)).trans ?_
    refine (zLet_eq (show _ = γ 6 from rfl)).trans ?_
    rfl
  exact zGoo_ato hJ hD
theorem vn75a0_92 {S : Nat → zSpc} (hS57 : ∀ x g o v gz, S 57 x g o v gz → sn57 x g o v gz) (hS73 : ∀ x g o v gz, S 73 x g o v gz → sn73 x g o v gz) {a : List Int} {g : rHp} : ∀ (ρ : Nat → Int) (γ : Nat → rHp), jn75 a g 0 (zAg (zNA a75_ 0) ρ) (γ 1) → zO 15 S a g q75a0_92 ρ γ → zGl (fun i vs g1 => jn75 a g i vs g1) (sn75 a g) q75a0_92 ρ γ := by
  intro ρ γ hJ h
  obtain ⟨ha, hg, hr, hf, hm, hc, hl⟩ := h
  have ha : a = [ρ 0, ρ 1, ρ 2, ρ 3, ρ 4, ρ 5, ρ 6, ρ 7, ρ 8, ρ 9, ρ 10, ρ 11, ρ 12, ρ 13, ρ 14] := ha
  subst ha
  subst hg
  have hJ : jn75 [ρ 0, ρ 1, ρ 2, ρ 3, ρ 4, ρ 5, ρ 6, ρ 7, ρ 8, ρ 9, ρ 10, ρ 11, ρ 12, ρ 13, ρ 14] (γ 0) 0 [ρ 0, ρ 1, ρ 2, ρ 3, ρ 4, ρ 5, ρ 6, ρ 7, ρ 8, ρ 9, ρ 10, ρ 11, ρ 12, ρ 13, ρ 14, ρ 15, ρ 16, ρ 17, ρ 18, ρ 19] (γ 1) := hJ
  obtain ⟨r0, r1, r2, r3, r4, r5, r6, r7, r8, r9, r10, r11, r12, r13, r14, r15, r16, r17, r18, r19, r20, r21, r22, r23, r24, r25, r26, r27, r28, r29, r30, r31, r32, r33, r34, -⟩ := hr
  have r0 : (0 : Int) ≤ ρ 0 ∧ ρ 0 ≤ 59 := r0
  have r1 : (0 : Int) ≤ ρ 1 ∧ ρ 1 ≤ 60 := r1
  have r2 : (0 : Int) ≤ ρ 2 ∧ ρ 2 ≤ 20 := r2
  have r3 : (3 : Int) ≤ ρ 3 ∧ ρ 3 ≤ 4 := r3
  have r4 : (0 : Int) ≤ ρ 4 ∧ ρ 4 ≤ 50001 := r4
  have r5 : (0 : Int) ≤ ρ 5 ∧ ρ 5 ≤ 3 := r5
  have r6 : (0 : Int) ≤ ρ 6 ∧ ρ 6 ≤ 2000 := r6
  have r7 : (0 : Int) ≤ ρ 7 ∧ ρ 7 ≤ 19 := r7
  have r8 : (0 : Int) ≤ ρ 8 ∧ ρ 8 ≤ 61 := r8
  have r9 : (0 : Int) ≤ ρ 9 ∧ ρ 9 ≤ 2000 := r9
  have r10 : ((-2147483648) : Int) ≤ ρ 10 ∧ ρ 10 ≤ 2147483647 := r10
  have r11 : (0 : Int) ≤ ρ 11 ∧ ρ 11 ≤ 2000 := r11
  have r12 : (0 : Int) ≤ ρ 12 ∧ ρ 12 ≤ 2000 := r12
  have r13 : (0 : Int) ≤ ρ 13 ∧ ρ 13 ≤ 2000 := r13
  have r14 : (0 : Int) ≤ ρ 14 ∧ ρ 14 ≤ 50001 := r14
  have r15 : (0 : Int) ≤ ρ 15 ∧ ρ 15 ≤ 2000 := r15
  have r16 : (0 : Int) ≤ ρ 16 ∧ ρ 16 ≤ 50001 := r16
  have r17 : (0 : Int) ≤ ρ 17 ∧ ρ 17 ≤ 0 := r17
  have r18 : (0 : Int) ≤ ρ 18 ∧ ρ 18 ≤ 2000 := r18
  have r19 : (0 : Int) ≤ ρ 19 ∧ ρ 19 ≤ 2000 := r19
  have r20 : (1 : Int) ≤ ρ 20 ∧ ρ 20 ≤ 1 := r20
  have r21 : ((-2147483648) : Int) ≤ ρ 21 ∧ ρ 21 ≤ 1099511640064 := r21
  have r22 : (3 : Int) ≤ ρ 22 ∧ ρ 22 ≤ 3 := r22
  have r23 : (3 : Int) ≤ ρ 23 ∧ ρ 23 ≤ 3 := r23
  have r24 : (3 : Int) ≤ ρ 24 ∧ ρ 24 ≤ 3 := r24
  have r25 : (3 : Int) ≤ ρ 25 ∧ ρ 25 ≤ 3 := r25
  have r26 : ((-2147483648) : Int) ≤ ρ 26 ∧ ρ 26 ≤ 1099511640064 := r26
  have r27 : (0 : Int) ≤ ρ 27 ∧ ρ 27 ≤ 8 := r27
  have r28 : ((-1) : Int) ≤ ρ 28 ∧ ρ 28 ≤ 1999 := r28
  have r29 : (0 : Int) ≤ ρ 29 ∧ ρ 29 ≤ 1999 := r29
  have r30 : (1 : Int) ≤ ρ 30 ∧ ρ 30 ≤ 2000 := r30
  have r31 : (0 : Int) ≤ ρ 31 ∧ ρ 31 ≤ 8 := r31
  have r32 : ((-1) : Int) ≤ ρ 32 ∧ ρ 32 ≤ 1999 := r32
  have r33 : (0 : Int) ≤ ρ 33 ∧ ρ 33 ≤ 1999 := r33
  have r34 : (0 : Int) ≤ ρ 34 ∧ ρ 34 ≤ 3 := r34
  obtain ⟨f0, f1, f2, f3, f4, f5, f6, f7, f8, f9, -⟩ := hf
  have f0 : (0 : Int) ≤ -ρ 7 + ρ 2 + (-1) := f0
  have f1 : (0 : Int) ≤ ρ 30 + -ρ 19 := f1
  have f2 : (0 : Int) ≤ ρ 32 + -ρ 28 := f2
  have f3 : (0 : Int) ≤ ρ 18 + -ρ 15 + (-1) := f3
  have f4 : (0 : Int) ≤ ρ 17 + -ρ 16 + 50000 := f4
  have f5 : (0 : Int) ≤ ρ 1 + -ρ 0 + (-1) := f5
  have f6 : (0 : Int) ≤ ρ 19 + -ρ 9 := f6
  have f7 : (0 : Int) ≤ ρ 18 + -ρ 15 := f7
  have f8 : (0 : Int) ≤ ρ 17 + -ρ 5 := f8
  have f9 : (0 : Int) ≤ ρ 16 + -ρ 4 := f9
  obtain ⟨m0, m1, m2, m3, m4, m5, m6, m7, m8, m9, m10, m11, m12, m13, m14, m15, m16, m17, m18, m19, m20, m21, m22, m23, m24, m25, m26, m27, m28, m29, m30, m31, m32, m33, -⟩ := hm
  have m0 : γ 0 15 0 32 = ρ 1 := m0
  have m1 : γ 0 15 0 13 = ρ 2 := m1
  have m2 : γ 0 71 0 (ρ 0) = ρ 3 := m2
  have m3 : γ 0 15 0 72 = ρ 4 := m3
  have m4 : γ 0 15 0 77 = ρ 5 := m4
  have m5 : γ 0 15 0 90 = ρ 6 := m5
  have m6 : γ 0 69 0 (ρ 0) = ρ 7 := m6
  have m7 : γ 0 15 0 44 = ρ 8 := m7
  have m8 : γ 0 15 0 71 = ρ 9 := m8
  have m9 : γ 0 15 0 76 = ρ 10 := m9
  have m10 : γ 0 15 0 81 = ρ 11 := m10
  have m11 : γ 0 15 0 82 = ρ 12 := m11
  have m12 : γ 0 15 0 83 = ρ 13 := m12
  have m13 : γ 0 15 0 94 = ρ 14 := m13
  have m14 : γ 1 15 0 72 = ρ 16 := m14
  have m15 : γ 1 15 0 77 = ρ 17 := m15
  have m16 : γ 1 15 0 90 = ρ 18 := m16
  have m17 : γ 1 15 0 71 = ρ 19 := m17
  have m18 : γ 1 15 0 81 = ρ 9 := m18
  have m19 : γ 1 109 0 (ρ 15) = ρ 20 := m19
  have m20 : γ 1 108 0 (ρ 15) = ρ 21 := m20
  have m21 : γ 0 66 0 (ρ 7) = ρ 22 := m21
  have m22 : γ 0 70 0 (4 * ρ 0) = ρ 23 := m22
  have m23 : γ 0 70 0 (4 * ρ 0 + 1) = ρ 24 := m23
  have m24 : γ 0 70 0 (4 * ρ 0 + 2) = ρ 25 := m24
  have m25 : γ 1 105 0 (4 * ρ 15 + 3) = ρ 26 := m25
  have m26 : γ 1 97 0 (ρ 19) = ρ 27 := m26
  have m27 : γ 1 100 0 (ρ 7) = ρ 28 := m27
  have m28 : γ 1 101 0 (ρ 7) = ρ 29 := m28
  have m29 : γ 6 15 0 71 = ρ 30 := m29
  have m30 : γ 6 97 0 (ρ 19) = ρ 31 := m30
  have m31 : γ 6 100 0 (ρ 7) = ρ 32 := m31
  have m32 : γ 6 101 0 (ρ 7) = ρ 33 := m32
  have m33 : γ 6 15 0 77 = ρ 34 := m33
  obtain ⟨⟨⟨⟨⟨⟨-, c1⟩, c2⟩, c3⟩, c4⟩, c5⟩, c6⟩ := hc
  have c1 : ∀ (G : Nat) (k j : Int), ¬ rMdP m51_ G j → γ 1 G k j = γ 0 G k j := c1
  have c2 : γ 2 = rUp (γ 1) 102 0 0 (ρ 21) := c2
  have c3 : γ 3 = rUp (γ 2) 102 0 1 (ρ 21) := c3
  have c4 : γ 4 = rUp (γ 3) 102 0 2 (ρ 21) := c4
  have c5 : γ 5 = rUp (γ 4) 102 0 3 (ρ 26) := c5
  have c6 : ∀ (G : Nat) (k j : Int), ¬ rMdP m40_ G j → γ 6 G k j = γ 5 G k j := c6
  obtain ⟨l0, -⟩ := hl
  have l0 : sn57 [ρ 7, ρ 0, ρ 2, ρ 19, ρ 27, ρ 28, ρ 29, ρ 10, ρ 17] (γ 5) 0 0 (γ 6) := hS57 _ _ _ _ _ l0
  show jn75 [ρ 0, ρ 1, ρ 2, ρ 3, ρ 4, ρ 5, ρ 6, ρ 7, ρ 8, ρ 9, ρ 10, ρ 11, ρ 12, ρ 13, ρ 14] (γ 0) 0 [ρ 0, ρ 1, ρ 2, ρ 3, ρ 4, ρ 5, ρ 6, ρ 7, ρ 8, ρ 9, ρ 10, ρ 11, ρ 12, ρ 13, ρ 14, ρ 15 + 1, ρ 16, ρ 34, ρ 18, ρ 30] (γ 6)
  have hD : en75 (γ 0) (0, [ρ 0, ρ 15], γ 1) = .inl (0, [ρ 0, ρ 15 + 1], γ 6) := by
    unfold en75
    refine (if_pos (show (0 : Nat) = 0 by decide)).trans ?_
    refine (zLet_eq (show _ = γ 1 from rfl)).trans ?_
    refine (zLet_eq (show _ = ρ 0 from rfl)).trans ?_
    refine (zLet_eq (show _ = ρ 15 from rfl)).trans ?_
    refine (zLet_eq m2).trans ?_
    refine (zLet_eq m6).trans ?_
    refine (zLet_eq m15).trans ?_
    refine (zLet_eq m16).trans ?_
    refine (if_neg (show ¬ (ρ 15 ≥ ρ 18) by omega)).trans ?_
    refine (if_neg (show ¬ (ρ 17 ≠ 0) by omega)).trans ?_
    refine (if_neg (show ¬ (ρ 3 ≤ 2) by omega)).trans ?_
    refine (zLet_eq m19).trans ?_
    refine (if_pos (show ρ 20 ≠ 0 by omega)).trans ?_
    refine (zLet_eq m20).trans ?_
    refine (zLet_eq m21).trans ?_
    refine (if_neg (show ¬ (0 ≥ ρ 22) by omega)).trans ?_
    refine (zLet_eq m22).trans ?_
    refine (if_neg (show ¬ (ρ 23 ≠ 3) by omega)).trans ?_
    refine (zLet_eq c2.symm).trans ?_
    refine (if_neg (show ¬ (1 ≥ ρ 22) by omega)).trans ?_
    refine (zLet_eq m23).trans ?_
    refine (if_neg (show ¬ (ρ 24 ≠ 3) by omega)).trans ?_
    refine (zLet_eq c3.symm).trans ?_
    refine (if_neg (show ¬ (2 ≥ ρ 22) by omega)).trans ?_
    refine (zLet_eq m24).trans ?_
    refine (if_neg (show ¬ (ρ 25 ≠ 3) by omega)).trans ?_
    refine (zLet_eq c4.symm).trans ?_
    refine (if_pos (show 3 ≥ ρ 22 by omega)).trans ?_
    refine (zLet_eq m25).trans ?_
    refine (zLet_eq c5.symm).trans ?_
    refine (zLet_eq (show fn57 [ρ 7, ρ 0] (γ 5) = (0, 0, γ 6) from l0.symm)).trans ?_
    refine (zLet_eq (show _ = γ 6 from rfl)).trans ?_
    rfl
  exact zGoo_ato hJ hD
theorem vn75a0_93 {S : Nat → zSpc} (hS57 : ∀ x g o v gz, S 57 x g o v gz → sn57 x g o v gz) (hS73 : ∀ x g o v gz, S 73 x g o v gz → sn73 x g o v gz) {a : List Int} {g : rHp} : ∀ (ρ : Nat → Int) (γ : Nat → rHp), jn75 a g 0 (zAg (zNA a75_ 0) ρ) (γ 1) → zO 15 S a g q75a0_93 ρ γ → zGl (fun i vs g1 => jn75 a g i vs g1) (sn75 a g) q75a0_93 ρ γ := by
  intro ρ γ hJ h
  obtain ⟨ha, hg, hr, hf, hm, hc, hl⟩ := h
  have ha : a = [ρ 0, ρ 1, ρ 2, ρ 3, ρ 4, ρ 5, ρ 6, ρ 7, ρ 8, ρ 9, ρ 10, ρ 11, ρ 12, ρ 13, ρ 14] := ha
  subst ha
  subst hg
  have hJ : jn75 [ρ 0, ρ 1, ρ 2, ρ 3, ρ 4, ρ 5, ρ 6, ρ 7, ρ 8, ρ 9, ρ 10, ρ 11, ρ 12, ρ 13, ρ 14] (γ 0) 0 [ρ 0, ρ 1, ρ 2, ρ 3, ρ 4, ρ 5, ρ 6, ρ 7, ρ 8, ρ 9, ρ 10, ρ 11, ρ 12, ρ 13, ρ 14, ρ 15, ρ 16, ρ 17, ρ 18, ρ 19] (γ 1) := hJ
  obtain ⟨r0, r1, r2, r3, r4, r5, r6, r7, r8, r9, r10, r11, r12, r13, r14, r15, r16, r17, r18, r19, r20, r21, r22, r23, r24, r25, r26, r27, r28, r29, r30, r31, r32, r33, r34, r35, -⟩ := hr
  have r0 : (0 : Int) ≤ ρ 0 ∧ ρ 0 ≤ 59 := r0
  have r1 : (0 : Int) ≤ ρ 1 ∧ ρ 1 ≤ 60 := r1
  have r2 : (0 : Int) ≤ ρ 2 ∧ ρ 2 ≤ 20 := r2
  have r3 : (3 : Int) ≤ ρ 3 ∧ ρ 3 ≤ 4 := r3
  have r4 : (0 : Int) ≤ ρ 4 ∧ ρ 4 ≤ 50001 := r4
  have r5 : (0 : Int) ≤ ρ 5 ∧ ρ 5 ≤ 3 := r5
  have r6 : (0 : Int) ≤ ρ 6 ∧ ρ 6 ≤ 2000 := r6
  have r7 : (0 : Int) ≤ ρ 7 ∧ ρ 7 ≤ 19 := r7
  have r8 : (0 : Int) ≤ ρ 8 ∧ ρ 8 ≤ 61 := r8
  have r9 : (0 : Int) ≤ ρ 9 ∧ ρ 9 ≤ 2000 := r9
  have r10 : ((-2147483648) : Int) ≤ ρ 10 ∧ ρ 10 ≤ 2147483647 := r10
  have r11 : (0 : Int) ≤ ρ 11 ∧ ρ 11 ≤ 2000 := r11
  have r12 : (0 : Int) ≤ ρ 12 ∧ ρ 12 ≤ 2000 := r12
  have r13 : (0 : Int) ≤ ρ 13 ∧ ρ 13 ≤ 2000 := r13
  have r14 : (0 : Int) ≤ ρ 14 ∧ ρ 14 ≤ 50001 := r14
  have r15 : (0 : Int) ≤ ρ 15 ∧ ρ 15 ≤ 2000 := r15
  have r16 : (0 : Int) ≤ ρ 16 ∧ ρ 16 ≤ 50001 := r16
  have r17 : (0 : Int) ≤ ρ 17 ∧ ρ 17 ≤ 0 := r17
  have r18 : (0 : Int) ≤ ρ 18 ∧ ρ 18 ≤ 2000 := r18
  have r19 : (0 : Int) ≤ ρ 19 ∧ ρ 19 ≤ 2000 := r19
  have r20 : (1 : Int) ≤ ρ 20 ∧ ρ 20 ≤ 1 := r20
  have r21 : ((-2147483648) : Int) ≤ ρ 21 ∧ ρ 21 ≤ 1099511640064 := r21
  have r22 : (4 : Int) ≤ ρ 22 ∧ ρ 22 ≤ 4 := r22
  have r23 : (3 : Int) ≤ ρ 23 ∧ ρ 23 ≤ 3 := r23
  have r24 : (3 : Int) ≤ ρ 24 ∧ ρ 24 ≤ 3 := r24
  have r25 : (3 : Int) ≤ ρ 25 ∧ ρ 25 ≤ 3 := r25
  have r26 : (0 : Int) ≤ ρ 26 ∧ ρ 26 ≤ 2 := r26
  have r27 : ((-2147483648) : Int) ≤ ρ 27 ∧ ρ 27 ≤ 1099511640064 := r27
  have r28 : (0 : Int) ≤ ρ 28 ∧ ρ 28 ≤ 8 := r28
  have r29 : ((-1) : Int) ≤ ρ 29 ∧ ρ 29 ≤ 1999 := r29
  have r30 : (0 : Int) ≤ ρ 30 ∧ ρ 30 ≤ 1999 := r30
  have r31 : (1 : Int) ≤ ρ 31 ∧ ρ 31 ≤ 2000 := r31
  have r32 : (0 : Int) ≤ ρ 32 ∧ ρ 32 ≤ 8 := r32
  have r33 : ((-1) : Int) ≤ ρ 33 ∧ ρ 33 ≤ 1999 := r33
  have r34 : (0 : Int) ≤ ρ 34 ∧ ρ 34 ≤ 1999 := r34
  have r35 : (0 : Int) ≤ ρ 35 ∧ ρ 35 ≤ 3 := r35
  obtain ⟨f0, f1, f2, f3, f4, f5, f6, f7, f8, f9, -⟩ := hf
  have f0 : (0 : Int) ≤ -ρ 7 + ρ 2 + (-1) := f0
  have f1 : (0 : Int) ≤ ρ 31 + -ρ 19 := f1
  have f2 : (0 : Int) ≤ ρ 33 + -ρ 29 := f2
  have f3 : (0 : Int) ≤ ρ 18 + -ρ 15 + (-1) := f3
  have f4 : (0 : Int) ≤ ρ 17 + -ρ 16 + 50000 := f4
  have f5 : (0 : Int) ≤ ρ 1 + -ρ 0 + (-1) := f5
  have f6 : (0 : Int) ≤ ρ 19 + -ρ 9 := f6
  have f7 : (0 : Int) ≤ ρ 18 + -ρ 15 := f7
  have f8 : (0 : Int) ≤ ρ 17 + -ρ 5 := f8
  have f9 : (0 : Int) ≤ ρ 16 + -ρ 4 := f9
  obtain ⟨m0, m1, m2, m3, m4, m5, m6, m7, m8, m9, m10, m11, m12, m13, m14, m15, m16, m17, m18, m19, m20, m21, m22, m23, m24, m25, m26, m27, m28, m29, m30, m31, m32, m33, m34, -⟩ := hm
  have m0 : γ 0 15 0 32 = ρ 1 := m0
  have m1 : γ 0 15 0 13 = ρ 2 := m1
  have m2 : γ 0 71 0 (ρ 0) = ρ 3 := m2
  have m3 : γ 0 15 0 72 = ρ 4 := m3
  have m4 : γ 0 15 0 77 = ρ 5 := m4
  have m5 : γ 0 15 0 90 = ρ 6 := m5
  have m6 : γ 0 69 0 (ρ 0) = ρ 7 := m6
  have m7 : γ 0 15 0 44 = ρ 8 := m7
  have m8 : γ 0 15 0 71 = ρ 9 := m8
  have m9 : γ 0 15 0 76 = ρ 10 := m9
  have m10 : γ 0 15 0 81 = ρ 11 := m10
  have m11 : γ 0 15 0 82 = ρ 12 := m11
  have m12 : γ 0 15 0 83 = ρ 13 := m12
  have m13 : γ 0 15 0 94 = ρ 14 := m13
  have m14 : γ 1 15 0 72 = ρ 16 := m14
  have m15 : γ 1 15 0 77 = ρ 17 := m15
  have m16 : γ 1 15 0 90 = ρ 18 := m16
  have m17 : γ 1 15 0 71 = ρ 19 := m17
  have m18 : γ 1 15 0 81 = ρ 9 := m18
  have m19 : γ 1 109 0 (ρ 15) = ρ 20 := m19
  have m20 : γ 1 108 0 (ρ 15) = ρ 21 := m20
  have m21 : γ 0 66 0 (ρ 7) = ρ 22 := m21
  have m22 : γ 0 70 0 (4 * ρ 0) = ρ 23 := m22
  have m23 : γ 0 70 0 (4 * ρ 0 + 1) = ρ 24 := m23
  have m24 : γ 0 70 0 (4 * ρ 0 + 2) = ρ 25 := m24
  have m25 : γ 0 70 0 (4 * ρ 0 + 3) = ρ 26 := m25
  have m26 : γ 1 105 0 (4 * ρ 15 + 3) = ρ 27 := m26
  have m27 : γ 1 97 0 (ρ 19) = ρ 28 := m27
  have m28 : γ 1 100 0 (ρ 7) = ρ 29 := m28
  have m29 : γ 1 101 0 (ρ 7) = ρ 30 := m29
  have m30 : γ 6 15 0 71 = ρ 31 := m30
  have m31 : γ 6 97 0 (ρ 19) = ρ 32 := m31
  have m32 : γ 6 100 0 (ρ 7) = ρ 33 := m32
  have m33 : γ 6 101 0 (ρ 7) = ρ 34 := m33
  have m34 : γ 6 15 0 77 = ρ 35 := m34
  obtain ⟨⟨⟨⟨⟨⟨-, c1⟩, c2⟩, c3⟩, c4⟩, c5⟩, c6⟩ := hc
  have c1 : ∀ (G : Nat) (k j : Int), ¬ rMdP m51_ G j → γ 1 G k j = γ 0 G k j := c1
  have c2 : γ 2 = rUp (γ 1) 102 0 0 (ρ 21) := c2
  have c3 : γ 3 = rUp (γ 2) 102 0 1 (ρ 21) := c3
  have c4 : γ 4 = rUp (γ 3) 102 0 2 (ρ 21) := c4
  have c5 : γ 5 = rUp (γ 4) 102 0 3 (ρ 27) := c5
  have c6 : ∀ (G : Nat) (k j : Int), ¬ rMdP m40_ G j → γ 6 G k j = γ 5 G k j := c6
  obtain ⟨l0, -⟩ := hl
  have l0 : sn57 [ρ 7, ρ 0, ρ 2, ρ 19, ρ 28, ρ 29, ρ 30, ρ 10, ρ 17] (γ 5) 0 0 (γ 6) := hS57 _ _ _ _ _ l0
  show jn75 [ρ 0, ρ 1, ρ 2, ρ 3, ρ 4, ρ 5, ρ 6, ρ 7, ρ 8, ρ 9, ρ 10, ρ 11, ρ 12, ρ 13, ρ 14] (γ 0) 0 [ρ 0, ρ 1, ρ 2, ρ 3, ρ 4, ρ 5, ρ 6, ρ 7, ρ 8, ρ 9, ρ 10, ρ 11, ρ 12, ρ 13, ρ 14, ρ 15 + 1, ρ 16, ρ 35, ρ 18, ρ 31] (γ 6)
  have hD : en75 (γ 0) (0, [ρ 0, ρ 15], γ 1) = .inl (0, [ρ 0, ρ 15 + 1], γ 6) := by
    unfold en75
    refine (if_pos (show (0 : Nat) = 0 by decide)).trans ?_
    refine (zLet_eq (show _ = γ 1 from rfl)).trans ?_
    refine (zLet_eq (show _ = ρ 0 from rfl)).trans ?_
    refine (zLet_eq (show _ = ρ 15 from rfl)).trans ?_
    refine (zLet_eq m2).trans ?_
    refine (zLet_eq m6).trans ?_
    refine (zLet_eq m15).trans ?_
    refine (zLet_eq m16).trans ?_
    refine (if_neg (show ¬ (ρ 15 ≥ ρ 18) by omega)).trans ?_
    refine (if_neg (show ¬ (ρ 17 ≠ 0) by omega)).trans ?_
    refine (if_neg (show ¬ (ρ 3 ≤ 2) by omega)).trans ?_
    refine (zLet_eq m19).trans ?_
    refine (if_pos (show ρ 20 ≠ 0 by omega)).trans ?_
    refine (zLet_eq m20).trans ?_
    refine (zLet_eq m21).trans ?_
    refine (if_neg (show ¬ (0 ≥ ρ 22) by omega)).trans ?_
    refine (zLet_eq m22).trans ?_
    refine (if_neg (show ¬ (ρ 23 ≠ 3) by omega)).trans ?_
    refine (zLet_eq c2.symm).trans ?_
    refine (if_neg (show ¬ (1 ≥ ρ 22) by omega)).trans ?_
    refine (zLet_eq m23).trans ?_
    refine (if_neg (show ¬ (ρ 24 ≠ 3) by omega)).trans ?_
    refine (zLet_eq c3.symm).trans ?_
    refine (if_neg (show ¬ (2 ≥ ρ 22) by omega)).trans ?_
    refine (zLet_eq m24).trans ?_
    refine (if_neg (show ¬ (ρ 25 ≠ 3) by omega)).trans ?_
    refine (zLet_eq c4.symm).trans ?_
    refine (if_neg (show ¬ (3 ≥ ρ 22) by omega)).trans ?_
    refine (zLet_eq m25).trans ?_
    refine (if_pos (show ρ 26 ≠ 3 by omega)).trans ?_
    refine (zLet_eq m26).trans ?_
    refine (zLet_eq c5.symm).trans ?_
    refine (zLet_eq (show fn57 [ρ 7, ρ 0] (γ 5) = (0, 0, γ 6) from l0.symm)).trans ?_
    refine (zLet_eq (show _ = γ 6 from rfl)).trans ?_
    rfl
  exact zGoo_ato hJ hD
theorem vn75a0_94 {S : Nat → zSpc} (hS57 : ∀ x g o v gz, S 57 x g o v gz → sn57 x g o v gz) (hS73 : ∀ x g o v gz, S 73 x g o v gz → sn73 x g o v gz) {a : List Int} {g : rHp} : ∀ (ρ : Nat → Int) (γ : Nat → rHp), jn75 a g 0 (zAg (zNA a75_ 0) ρ) (γ 1) → zO 15 S a g q75a0_94 ρ γ → zGl (fun i vs g1 => jn75 a g i vs g1) (sn75 a g) q75a0_94 ρ γ := by
  intro ρ γ hJ h
  obtain ⟨ha, hg, hr, hf, hm, hc, hl⟩ := h
  have ha : a = [ρ 0, ρ 1, ρ 2, ρ 3, ρ 4, ρ 5, ρ 6, ρ 7, ρ 8, ρ 9, ρ 10, ρ 11, ρ 12, ρ 13, ρ 14] := ha
  subst ha
  subst hg
  have hJ : jn75 [ρ 0, ρ 1, ρ 2, ρ 3, ρ 4, ρ 5, ρ 6, ρ 7, ρ 8, ρ 9, ρ 10, ρ 11, ρ 12, ρ 13, ρ 14] (γ 0) 0 [ρ 0, ρ 1, ρ 2, ρ 3, ρ 4, ρ 5, ρ 6, ρ 7, ρ 8, ρ 9, ρ 10, ρ 11, ρ 12, ρ 13, ρ 14, ρ 15, ρ 16, ρ 17, ρ 18, ρ 19] (γ 1) := hJ
  obtain ⟨r0, r1, r2, r3, r4, r5, r6, r7, r8, r9, r10, r11, r12, r13, r14, r15, r16, r17, r18, r19, r20, r21, r22, r23, r24, r25, r26, r27, r28, r29, r30, r31, r32, r33, r34, -⟩ := hr
  have r0 : (0 : Int) ≤ ρ 0 ∧ ρ 0 ≤ 59 := r0
  have r1 : (0 : Int) ≤ ρ 1 ∧ ρ 1 ≤ 60 := r1
  have r2 : (0 : Int) ≤ ρ 2 ∧ ρ 2 ≤ 20 := r2
  have r3 : (3 : Int) ≤ ρ 3 ∧ ρ 3 ≤ 4 := r3
  have r4 : (0 : Int) ≤ ρ 4 ∧ ρ 4 ≤ 50001 := r4
  have r5 : (0 : Int) ≤ ρ 5 ∧ ρ 5 ≤ 3 := r5
  have r6 : (0 : Int) ≤ ρ 6 ∧ ρ 6 ≤ 2000 := r6
  have r7 : (0 : Int) ≤ ρ 7 ∧ ρ 7 ≤ 19 := r7
  have r8 : (0 : Int) ≤ ρ 8 ∧ ρ 8 ≤ 61 := r8
  have r9 : (0 : Int) ≤ ρ 9 ∧ ρ 9 ≤ 2000 := r9
  have r10 : ((-2147483648) : Int) ≤ ρ 10 ∧ ρ 10 ≤ 2147483647 := r10
  have r11 : (0 : Int) ≤ ρ 11 ∧ ρ 11 ≤ 2000 := r11
  have r12 : (0 : Int) ≤ ρ 12 ∧ ρ 12 ≤ 2000 := r12
  have r13 : (0 : Int) ≤ ρ 13 ∧ ρ 13 ≤ 2000 := r13
  have r14 : (0 : Int) ≤ ρ 14 ∧ ρ 14 ≤ 50001 := r14
  have r15 : (0 : Int) ≤ ρ 15 ∧ ρ 15 ≤ 2000 := r15
  have r16 : (0 : Int) ≤ ρ 16 ∧ ρ 16 ≤ 50001 := r16
  have r17 : (0 : Int) ≤ ρ 17 ∧ ρ 17 ≤ 0 := r17
  have r18 : (0 : Int) ≤ ρ 18 ∧ ρ 18 ≤ 2000 := r18
  have r19 : (0 : Int) ≤ ρ 19 ∧ ρ 19 ≤ 2000 := r19
  have r20 : (1 : Int) ≤ ρ 20 ∧ ρ 20 ≤ 1 := r20
  have r21 : ((-2147483648) : Int) ≤ ρ 21 ∧ ρ 21 ≤ 1099511640064 := r21
  have r22 : (4 : Int) ≤ ρ 22 ∧ ρ 22 ≤ 4 := r22
  have r23 : (3 : Int) ≤ ρ 23 ∧ ρ 23 ≤ 3 := r23
  have r24 : (3 : Int) ≤ ρ 24 ∧ ρ 24 ≤ 3 := r24
  have r25 : (3 : Int) ≤ ρ 25 ∧ ρ 25 ≤ 3 := r25
  have r26 : (3 : Int) ≤ ρ 26 ∧ ρ 26 ≤ 3 := r26
  have r27 : (0 : Int) ≤ ρ 27 ∧ ρ 27 ≤ 8 := r27
  have r28 : ((-1) : Int) ≤ ρ 28 ∧ ρ 28 ≤ 1999 := r28
  have r29 : (0 : Int) ≤ ρ 29 ∧ ρ 29 ≤ 1999 := r29
  have r30 : (1 : Int) ≤ ρ 30 ∧ ρ 30 ≤ 2000 := r30
  have r31 : (0 : Int) ≤ ρ 31 ∧ ρ 31 ≤ 8 := r31
  have r32 : ((-1) : Int) ≤ ρ 32 ∧ ρ 32 ≤ 1999 := r32
  have r33 : (0 : Int) ≤ ρ 33 ∧ ρ 33 ≤ 1999 := r33
  have r34 : (0 : Int) ≤ ρ 34 ∧ ρ 34 ≤ 3 := r34
  obtain ⟨f0, f1, f2, f3, f4, f5, f6, f7, f8, f9, -⟩ := hf
  have f0 : (0 : Int) ≤ -ρ 7 + ρ 2 + (-1) := f0
  have f1 : (0 : Int) ≤ ρ 30 + -ρ 19 := f1
  have f2 : (0 : Int) ≤ ρ 32 + -ρ 28 := f2
  have f3 : (0 : Int) ≤ ρ 18 + -ρ 15 + (-1) := f3
  have f4 : (0 : Int) ≤ ρ 17 + -ρ 16 + 50000 := f4
  have f5 : (0 : Int) ≤ ρ 1 + -ρ 0 + (-1) := f5
  have f6 : (0 : Int) ≤ ρ 19 + -ρ 9 := f6
  have f7 : (0 : Int) ≤ ρ 18 + -ρ 15 := f7
  have f8 : (0 : Int) ≤ ρ 17 + -ρ 5 := f8
  have f9 : (0 : Int) ≤ ρ 16 + -ρ 4 := f9
  obtain ⟨m0, m1, m2, m3, m4, m5, m6, m7, m8, m9, m10, m11, m12, m13, m14, m15, m16, m17, m18, m19, m20, m21, m22, m23, m24, m25, m26, m27, m28, m29, m30, m31, m32, m33, -⟩ := hm
  have m0 : γ 0 15 0 32 = ρ 1 := m0
  have m1 : γ 0 15 0 13 = ρ 2 := m1
  have m2 : γ 0 71 0 (ρ 0) = ρ 3 := m2
  have m3 : γ 0 15 0 72 = ρ 4 := m3
  have m4 : γ 0 15 0 77 = ρ 5 := m4
  have m5 : γ 0 15 0 90 = ρ 6 := m5
  have m6 : γ 0 69 0 (ρ 0) = ρ 7 := m6
  have m7 : γ 0 15 0 44 = ρ 8 := m7
  have m8 : γ 0 15 0 71 = ρ 9 := m8
  have m9 : γ 0 15 0 76 = ρ 10 := m9
  have m10 : γ 0 15 0 81 = ρ 11 := m10
  have m11 : γ 0 15 0 82 = ρ 12 := m11
  have m12 : γ 0 15 0 83 = ρ 13 := m12
  have m13 : γ 0 15 0 94 = ρ 14 := m13
  have m14 : γ 1 15 0 72 = ρ 16 := m14
  have m15 : γ 1 15 0 77 = ρ 17 := m15
  have m16 : γ 1 15 0 90 = ρ 18 := m16
  have m17 : γ 1 15 0 71 = ρ 19 := m17
  have m18 : γ 1 15 0 81 = ρ 9 := m18
  have m19 : γ 1 109 0 (ρ 15) = ρ 20 := m19
  have m20 : γ 1 108 0 (ρ 15) = ρ 21 := m20
  have m21 : γ 0 66 0 (ρ 7) = ρ 22 := m21
  have m22 : γ 0 70 0 (4 * ρ 0) = ρ 23 := m22
  have m23 : γ 0 70 0 (4 * ρ 0 + 1) = ρ 24 := m23
  have m24 : γ 0 70 0 (4 * ρ 0 + 2) = ρ 25 := m24
  have m25 : γ 0 70 0 (4 * ρ 0 + 3) = ρ 26 := m25
  have m26 : γ 1 97 0 (ρ 19) = ρ 27 := m26
  have m27 : γ 1 100 0 (ρ 7) = ρ 28 := m27
  have m28 : γ 1 101 0 (ρ 7) = ρ 29 := m28
  have m29 : γ 6 15 0 71 = ρ 30 := m29
  have m30 : γ 6 97 0 (ρ 19) = ρ 31 := m30
  have m31 : γ 6 100 0 (ρ 7) = ρ 32 := m31
  have m32 : γ 6 101 0 (ρ 7) = ρ 33 := m32
  have m33 : γ 6 15 0 77 = ρ 34 := m33
  obtain ⟨⟨⟨⟨⟨⟨-, c1⟩, c2⟩, c3⟩, c4⟩, c5⟩, c6⟩ := hc
  have c1 : ∀ (G : Nat) (k j : Int), ¬ rMdP m51_ G j → γ 1 G k j = γ 0 G k j := c1
  have c2 : γ 2 = rUp (γ 1) 102 0 0 (ρ 21) := c2
  have c3 : γ 3 = rUp (γ 2) 102 0 1 (ρ 21) := c3
  have c4 : γ 4 = rUp (γ 3) 102 0 2 (ρ 21) := c4
  have c5 : γ 5 = rUp (γ 4) 102 0 3 (ρ 21) := c5
  have c6 : ∀ (G : Nat) (k j : Int), ¬ rMdP m40_ G j → γ 6 G k j = γ 5 G k j := c6
  obtain ⟨l0, -⟩ := hl
  have l0 : sn57 [ρ 7, ρ 0, ρ 2, ρ 19, ρ 27, ρ 28, ρ 29, ρ 10, ρ 17] (γ 5) 0 0 (γ 6) := hS57 _ _ _ _ _ l0
  show jn75 [ρ 0, ρ 1, ρ 2, ρ 3, ρ 4, ρ 5, ρ 6, ρ 7, ρ 8, ρ 9, ρ 10, ρ 11, ρ 12, ρ 13, ρ 14] (γ 0) 0 [ρ 0, ρ 1, ρ 2, ρ 3, ρ 4, ρ 5, ρ 6, ρ 7, ρ 8, ρ 9, ρ 10, ρ 11, ρ 12, ρ 13, ρ 14, ρ 15 + 1, ρ 16, ρ 34, ρ 18, ρ 30] (γ 6)
  have hD : en75 (γ 0) (0, [ρ 0, ρ 15], γ 1) = .inl (0, [ρ 0, ρ 15 + 1], γ 6) := by
    unfold en75
    refine (if_pos (show (0 : Nat) = 0 by decide)).trans ?_
    refine (zLet_eq (show _ = γ 1 from rfl)).trans ?_
    refine (zLet_eq (show _ = ρ 0 from rfl)).trans ?_
    refine (zLet_eq (show _ = ρ 15 from rfl)).trans ?_
    refine (zLet_eq m2).trans ?_
    refine (zLet_eq m6).trans ?_
    refine (zLet_eq m15).trans ?_
    refine (zLet_eq m16).trans ?_
    refine (if_neg (show ¬ (ρ 15 ≥ ρ 18) by omega)).trans ?_
    refine (if_neg (show ¬ (ρ 17 ≠ 0) by omega)).trans ?_
    refine (if_neg (show ¬ (ρ 3 ≤ 2) by omega)).trans ?_
    refine (zLet_eq m19).trans ?_
    refine (if_pos (show ρ 20 ≠ 0 by omega)).trans ?_
    refine (zLet_eq m20).trans ?_
    refine (zLet_eq m21).trans ?_
    refine (if_neg (show ¬ (0 ≥ ρ 22) by omega)).trans ?_
    refine (zLet_eq m22).trans ?_
    refine (if_neg (show ¬ (ρ 23 ≠ 3) by omega)).trans ?_
    refine (zLet_eq c2.symm).trans ?_
    refine (if_neg (show ¬ (1 ≥ ρ 22) by omega)).trans ?_
    refine (zLet_eq m23).trans ?_
    refine (if_neg (show ¬ (ρ 24 ≠ 3) by omega)).trans ?_
    refine (zLet_eq c3.symm).trans ?_
    refine (if_neg (show ¬ (2 ≥ ρ 22) by omega)).trans ?_
    refine (zLet_eq m24).trans ?_
    refine (if_neg (show ¬ (ρ 25 ≠ 3) by omega)).trans ?_
    refine (zLet_eq c4.symm).trans ?_
    refine (if_neg (show ¬ (3 ≥ ρ 22) by omega)).trans ?_
    refine (zLet_eq m25).trans ?_
    refine (if_neg (show ¬ (ρ 26 ≠ 3) by omega)).trans ?_
    refine (zLet_eq c5.symm).trans ?_
    refine (zLet_eq (show fn57 [ρ 7, ρ 0] (γ 5) = (0, 0, γ 6) from l0.symm)).trans ?_
    refine (zLet_eq (show _ = γ 6 from rfl)).trans ?_
    rfl
  exact zGoo_ato hJ hD
theorem vn75a0_95 {S : Nat → zSpc} (hS57 : ∀ x g o v gz, S 57 x g o v gz → sn57 x g o v gz) (hS73 : ∀ x g o v gz, S 73 x g o v gz → sn73 x g o v gz) {a : List Int} {g : rHp} : ∀ (ρ : Nat → Int) (γ : Nat → rHp), jn75 a g 0 (zAg (zNA a75_ 0) ρ) (γ 1) → zO 15 S a g q75a0_95 ρ γ → zGl (fun i vs g1 => jn75 a g i vs g1) (sn75 a g) q75a0_95 ρ γ := by
  intro ρ γ hJ h
  obtain ⟨ha, hg, hr, hf, hm, hc, hl⟩ := h
  have ha : a = [ρ 0, ρ 1, ρ 2, ρ 3, ρ 4, ρ 5, ρ 6, ρ 7, ρ 8, ρ 9, ρ 10, ρ 11, ρ 12, ρ 13, ρ 14] := ha
  subst ha
  subst hg
  have hJ : jn75 [ρ 0, ρ 1, ρ 2, ρ 3, ρ 4, ρ 5, ρ 6, ρ 7, ρ 8, ρ 9, ρ 10, ρ 11, ρ 12, ρ 13, ρ 14] (γ 0) 0 [ρ 0, ρ 1, ρ 2, ρ 3, ρ 4, ρ 5, ρ 6, ρ 7, ρ 8, ρ 9, ρ 10, ρ 11, ρ 12, ρ 13, ρ 14, ρ 15, ρ 16, ρ 17, ρ 18, ρ 19] (γ 1) := hJ
  obtain ⟨r0, r1, r2, r3, r4, r5, r6, r7, r8, r9, r10, r11, r12, r13, r14, r15, r16, r17, r18, r19, r20, -⟩ := hr
  have r0 : (0 : Int) ≤ ρ 0 ∧ ρ 0 ≤ 59 := r0
  have r1 : (0 : Int) ≤ ρ 1 ∧ ρ 1 ≤ 60 := r1
  have r2 : (0 : Int) ≤ ρ 2 ∧ ρ 2 ≤ 20 := r2
  have r3 : (3 : Int) ≤ ρ 3 ∧ ρ 3 ≤ 4 := r3
  have r4 : (0 : Int) ≤ ρ 4 ∧ ρ 4 ≤ 50001 := r4
  have r5 : (0 : Int) ≤ ρ 5 ∧ ρ 5 ≤ 3 := r5
  have r6 : (0 : Int) ≤ ρ 6 ∧ ρ 6 ≤ 2000 := r6
  have r7 : (0 : Int) ≤ ρ 7 ∧ ρ 7 ≤ 19 := r7
  have r8 : (0 : Int) ≤ ρ 8 ∧ ρ 8 ≤ 61 := r8
  have r9 : (0 : Int) ≤ ρ 9 ∧ ρ 9 ≤ 2000 := r9
  have r10 : ((-2147483648) : Int) ≤ ρ 10 ∧ ρ 10 ≤ 2147483647 := r10
  have r11 : (0 : Int) ≤ ρ 11 ∧ ρ 11 ≤ 2000 := r11
  have r12 : (0 : Int) ≤ ρ 12 ∧ ρ 12 ≤ 2000 := r12
  have r13 : (0 : Int) ≤ ρ 13 ∧ ρ 13 ≤ 2000 := r13
  have r14 : (0 : Int) ≤ ρ 14 ∧ ρ 14 ≤ 50001 := r14
  have r15 : (0 : Int) ≤ ρ 15 ∧ ρ 15 ≤ 2000 := r15
  have r16 : (0 : Int) ≤ ρ 16 ∧ ρ 16 ≤ 50001 := r16
  have r17 : (0 : Int) ≤ ρ 17 ∧ ρ 17 ≤ 0 := r17
  have r18 : (0 : Int) ≤ ρ 18 ∧ ρ 18 ≤ 2000 := r18
  have r19 : (0 : Int) ≤ ρ 19 ∧ ρ 19 ≤ 2000 := r19
  have r20 : (0 : Int) ≤ ρ 20 ∧ ρ 20 ≤ 0 := r20
  obtain ⟨f0, f1, f2, f3, f4, f5, f6, -⟩ := hf
  have f0 : (0 : Int) ≤ ρ 18 + -ρ 15 + (-1) := f0
  have f1 : (0 : Int) ≤ ρ 17 + -ρ 16 + 50000 := f1
  have f2 : (0 : Int) ≤ ρ 1 + -ρ 0 + (-1) := f2
  have f3 : (0 : Int) ≤ ρ 19 + -ρ 9 := f3
  have f4 : (0 : Int) ≤ ρ 18 + -ρ 15 := f4
  have f5 : (0 : Int) ≤ ρ 17 + -ρ 5 := f5
  have f6 : (0 : Int) ≤ ρ 16 + -ρ 4 := f6
  obtain ⟨m0, m1, m2, m3, m4, m5, m6, m7, m8, m9, m10, m11, m12, m13, m14, m15, m16, m17, m18, m19, -⟩ := hm
  have m0 : γ 0 15 0 32 = ρ 1 := m0
  have m1 : γ 0 15 0 13 = ρ 2 := m1
  have m2 : γ 0 71 0 (ρ 0) = ρ 3 := m2
  have m3 : γ 0 15 0 72 = ρ 4 := m3
  have m4 : γ 0 15 0 77 = ρ 5 := m4
  have m5 : γ 0 15 0 90 = ρ 6 := m5
  have m6 : γ 0 69 0 (ρ 0) = ρ 7 := m6
  have m7 : γ 0 15 0 44 = ρ 8 := m7
  have m8 : γ 0 15 0 71 = ρ 9 := m8
  have m9 : γ 0 15 0 76 = ρ 10 := m9
  have m10 : γ 0 15 0 81 = ρ 11 := m10
  have m11 : γ 0 15 0 82 = ρ 12 := m11
  have m12 : γ 0 15 0 83 = ρ 13 := m12
  have m13 : γ 0 15 0 94 = ρ 14 := m13
  have m14 : γ 1 15 0 72 = ρ 16 := m14
  have m15 : γ 1 15 0 77 = ρ 17 := m15
  have m16 : γ 1 15 0 90 = ρ 18 := m16
  have m17 : γ 1 15 0 71 = ρ 19 := m17
  have m18 : γ 1 15 0 81 = ρ 9 := m18
  have m19 : γ 1 109 0 (ρ 15) = ρ 20 := m19
  obtain ⟨-, c1⟩ := hc
  have c1 : ∀ (G : Nat) (k j : Int), ¬ rMdP m51_ G j → γ 1 G k j = γ 0 G k j := c1
  show jn75 [ρ 0, ρ 1, ρ 2, ρ 3, ρ 4, ρ 5, ρ 6, ρ 7, ρ 8, ρ 9, ρ 10, ρ 11, ρ 12, ρ 13, ρ 14] (γ 0) 0 [ρ 0, ρ 1, ρ 2, ρ 3, ρ 4, ρ 5, ρ 6, ρ 7, ρ 8, ρ 9, ρ 10, ρ 11, ρ 12, ρ 13, ρ 14, ρ 15 + 1, ρ 16, ρ 17, ρ 18, ρ 19] (γ 1)
  have hD : en75 (γ 0) (0, [ρ 0, ρ 15], γ 1) = .inl (0, [ρ 0, ρ 15 + 1], γ 1) := by
    unfold en75
    refine (if_pos (show (0 : Nat) = 0 by decide)).trans ?_
    refine (zLet_eq (show _ = γ 1 from rfl)).trans ?_
    refine (zLet_eq (show _ = ρ 0 from rfl)).trans ?_
    refine (zLet_eq (show _ = ρ 15 from rfl)).trans ?_
    refine (zLet_eq m2).trans ?_
    refine (zLet_eq m6).trans ?_
    refine (zLet_eq m15).trans ?_
    refine (zLet_eq m16).trans ?_
    refine (if_neg (show ¬ (ρ 15 ≥ ρ 18) by omega)).trans ?_
    refine (if_neg (show ¬ (ρ 17 ≠ 0) by omega)).trans ?_
    refine (if_neg (show ¬ (ρ 3 ≤ 2) by omega)).trans ?_
    refine (zLet_eq m19).trans ?_
    refine (if_neg (show ¬ (ρ 20 ≠ 0) by omega)).trans ?_
    rfl
  exact zGoo_ato hJ hD
theorem yn75 {S : Nat → zSpc} (hS57 : ∀ x g o v gz, S 57 x g o v gz → sn57 x g o v gz) (hS73 : ∀ x g o v gz, S 73 x g o v gz → sn73 x g o v gz) : ∀ x g o v gz, zSem uW uT w75_.2.2.2.1 w75_.2.2.1.1.length S q75 (fun i => q75a.getD i []) (zNA a75_) x g o v gz → sn75 x g o v gz := by
  intro a g o v gz h
  exact zSem_all (l0 := q75) (las := q75a) (S := S) (J := (fun i vs g1 => jn75 a g i vs g1)) (P := sn75 a g) (fun _ => (show zAll _ [q75_0] from (zAll_c (vn75_0 hS57 hS73) zAll_n))) (fun _ => (show zAllI _ 0 [q75a0] from ⟨(show zAll _ [q75a0_0, q75a0_1, q75a0_2, q75a0_3, q75a0_4, q75a0_5, q75a0_6, q75a0_7, q75a0_8, q75a0_9, q75a0_10, q75a0_11, q75a0_12, q75a0_13, q75a0_14, q75a0_15, q75a0_16, q75a0_17, q75a0_18, q75a0_19, q75a0_20, q75a0_21, q75a0_22, q75a0_23, q75a0_24, q75a0_25, q75a0_26, q75a0_27, q75a0_28, q75a0_29, q75a0_30, q75a0_31, q75a0_32, q75a0_33, q75a0_34, q75a0_35, q75a0_36, q75a0_37, q75a0_38, q75a0_39, q75a0_40, q75a0_41, q75a0_42, q75a0_43, q75a0_44, q75a0_45, q75a0_46, q75a0_47, q75a0_48, q75a0_49, q75a0_50, q75a0_51, q75a0_52, q75a0_53, q75a0_54, q75a0_55, q75a0_56, q75a0_57, q75a0_58, q75a0_59, q75a0_60, q75a0_61, q75a0_62, q75a0_63, q75a0_64, q75a0_65, q75a0_66, q75a0_67, q75a0_68, q75a0_69, q75a0_70, q75a0_71, q75a0_72, q75a0_73, q75a0_74, q75a0_75, q75a0_76, q75a0_77, q75a0_78, q75a0_79, q75a0_80, q75a0_81, q75a0_82, q75a0_83, q75a0_84, q75a0_85, q75a0_86, q75a0_87, q75a0_88, q75a0_89, q75a0_90, q75a0_91, q75a0_92, q75a0_93, q75a0_94, q75a0_95] from (zAll_c (vn75a0_0 hS57 hS73) (zAll_c (vn75a0_1 hS57 hS73) (zAll_c (vn75a0_2 hS57 hS73) (zAll_c (vn75a0_3 hS57 hS73) (zAll_c (vn75a0_4 hS57 hS73) (zAll_c (vn75a0_5 hS57 hS73) (zAll_c (vn75a0_6 hS57 hS73) (zAll_c (vn75a0_7 hS57 hS73) (zAll_c (vn75a0_8 hS57 hS73) (zAll_c (vn75a0_9 hS57 hS73) (zAll_c (vn75a0_10 hS57 hS73) (zAll_c (vn75a0_11 hS57 hS73) (zAll_c (vn75a0_12 hS57 hS73) (zAll_c (vn75a0_13 hS57 hS73) (zAll_c (vn75a0_14 hS57 hS73) (zAll_c (vn75a0_15 hS57 hS73) (zAll_c (vn75a0_16 hS57 hS73) (zAll_c (vn75a0_17 hS57 hS73) (zAll_c (vn75a0_18 hS57 hS73) (zAll_c (vn75a0_19 hS57 hS73) (zAll_c (vn75a0_20 hS57 hS73) (zAll_c (vn75a0_21 hS57 hS73) (zAll_c (vn75a0_22 hS57 hS73) (zAll_c (vn75a0_23 hS57 hS73) (zAll_c (vn75a0_24 hS57 hS73) (zAll_c (vn75a0_25 hS57 hS73) (zAll_c (vn75a0_26 hS57 hS73) (zAll_c (vn75a0_27 hS57 hS73) (zAll_c (vn75a0_28 hS57 hS73) (zAll_c (vn75a0_29 hS57 hS73) (zAll_c (vn75a0_30 hS57 hS73) (zAll_c (vn75a0_31 hS57 hS73) (zAll_c (vn75a0_32 hS57 hS73) (zAll_c (vn75a0_33 hS57 hS73) (zAll_c (vn75a0_34 hS57 hS73) (zAll_c (vn75a0_35 hS57 hS73) (zAll_c (vn75a0_36 hS57 hS73) (zAll_c (vn75a0_37 hS57 hS73) (zAll_c (vn75a0_38 hS57 hS73) (zAll_c (vn75a0_39 hS57 hS73) (zAll_c (vn75a0_40 hS57 hS73) (zAll_c (vn75a0_41 hS57 hS73) (zAll_c (vn75a0_42 hS57 hS73) (zAll_c (vn75a0_43 hS57 hS73) (zAll_c (vn75a0_44 hS57 hS73) (zAll_c (vn75a0_45 hS57 hS73) (zAll_c (vn75a0_46 hS57 hS73) (zAll_c (vn75a0_47 hS57 hS73) (zAll_c (vn75a0_48 hS57 hS73) (zAll_c (vn75a0_49 hS57 hS73) (zAll_c (vn75a0_50 hS57 hS73) (zAll_c (vn75a0_51 hS57 hS73) (zAll_c (vn75a0_52 hS57 hS73) (zAll_c (vn75a0_53 hS57 hS73) (zAll_c (vn75a0_54 hS57 hS73) (zAll_c (vn75a0_55 hS57 hS73) (zAll_c (vn75a0_56 hS57 hS73) (zAll_c (vn75a0_57 hS57 hS73) (zAll_c (vn75a0_58 hS57 hS73) (zAll_c (vn75a0_59 hS57 hS73) (zAll_c (vn75a0_60 hS57 hS73) (zAll_c (vn75a0_61 hS57 hS73) (zAll_c (vn75a0_62 hS57 hS73) (zAll_c (vn75a0_63 hS57 hS73) (zAll_c (vn75a0_64 hS57 hS73) (zAll_c (vn75a0_65 hS57 hS73) (zAll_c (vn75a0_66 hS57 hS73) (zAll_c (vn75a0_67 hS57 hS73) (zAll_c (vn75a0_68 hS57 hS73) (zAll_c (vn75a0_69 hS57 hS73) (zAll_c (vn75a0_70 hS57 hS73) (zAll_c (vn75a0_71 hS57 hS73) (zAll_c (vn75a0_72 hS57 hS73) (zAll_c (vn75a0_73 hS57 hS73) (zAll_c (vn75a0_74 hS57 hS73) (zAll_c (vn75a0_75 hS57 hS73) (zAll_c (vn75a0_76 hS57 hS73) (zAll_c (vn75a0_77 hS57 hS73) (zAll_c (vn75a0_78 hS57 hS73) (zAll_c (vn75a0_79 hS57 hS73) (zAll_c (vn75a0_80 hS57 hS73) (zAll_c (vn75a0_81 hS57 hS73) (zAll_c (vn75a0_82 hS57 hS73) (zAll_c (vn75a0_83 hS57 hS73) (zAll_c (vn75a0_84 hS57 hS73) (zAll_c (vn75a0_85 hS57 hS73) (zAll_c (vn75a0_86 hS57 hS73) (zAll_c (vn75a0_87 hS57 hS73) (zAll_c (vn75a0_88 hS57 hS73) (zAll_c (vn75a0_89 hS57 hS73) (zAll_c (vn75a0_90 hS57 hS73) (zAll_c (vn75a0_91 hS57 hS73) (zAll_c (vn75a0_92 hS57 hS73) (zAll_c (vn75a0_93 hS57 hS73) (zAll_c (vn75a0_94 hS57 hS73) (zAll_c (vn75a0_95 hS57 hS73) zAll_n))))))))))))))))))))))))))))))))))))))))))))))))))))))))))))))))))))))))))))))))))))))))))))))))), trivial⟩)) h
