/-! ===== the runs are the functions ===== -/
theorem vn264_0 {S : Nat → zSpc} (hS131 : ∀ x g o v gz, S 131 x g o v gz → sn131 x g o v gz) (hS234 : ∀ x g o v gz, S 234 x g o v gz → sn234 x g o v gz) (hS238 : ∀ x g o v gz, S 238 x g o v gz → sn238 x g o v gz) (hS261 : ∀ x g o v gz, S 261 x g o v gz → sn261 x g o v gz) {a : List Int} {g : rHp} : ∀ (ρ : Nat → Int) (γ : Nat → rHp), zO 11 S a g q264_0 ρ γ → zGl (fun i vs g1 => jn264 a g i vs g1) (sn264 a g) q264_0 ρ γ := by
  intro ρ γ h
  obtain ⟨ha, hg, hr, hf, hm, hc, hl⟩ := h
  have ha : a = [ρ 0, ρ 1, ρ 2, ρ 3, ρ 4, ρ 5, ρ 6, ρ 7, ρ 8, ρ 9, ρ 10] := ha
  subst ha
  subst hg
  obtain ⟨r0, r1, r2, r3, r4, r5, r6, r7, r8, r9, r10, -⟩ := hr
  have r0 : ((-2147483648) : Int) ≤ ρ 0 ∧ ρ 0 ≤ 2147483647 := r0
  have r1 : (0 : Int) ≤ ρ 1 ∧ ρ 1 ≤ 50000 := r1
  have r2 : (0 : Int) ≤ ρ 2 ∧ ρ 2 ≤ 60 := r2
  have r3 : (0 : Int) ≤ ρ 3 ∧ ρ 3 ≤ 2000 := r3
  have r4 : (0 : Int) ≤ ρ 4 ∧ ρ 4 ≤ 2000 := r4
  have r5 : ((-2147483648) : Int) ≤ ρ 5 ∧ ρ 5 ≤ 2147483647 := r5
  have r6 : (0 : Int) ≤ ρ 6 ∧ ρ 6 ≤ 2 := r6
  have r7 : ((-2147483648) : Int) ≤ ρ 7 ∧ ρ 7 ≤ 2147483647 := r7
  have r8 : (0 : Int) ≤ ρ 8 ∧ ρ 8 ≤ 2000 := r8
  have r9 : (0 : Int) ≤ ρ 9 ∧ ρ 9 ≤ 2000 := r9
  have r10 : ((-2147483648) : Int) ≤ ρ 10 ∧ ρ 10 ≤ 2147483647 := r10
  obtain ⟨m0, m1, m2, m3, m4, m5, m6, m7, m8, m9, -⟩ := hm
  have m0 : γ 0 6 0 0 = ρ 1 := m0
  have m1 : γ 0 1 0 10 = ρ 2 := m1
  have m2 : γ 0 4 0 7 = ρ 3 := m2
  have m3 : γ 0 5 0 3 = ρ 4 := m3
  have m4 : γ 0 6 0 8 = ρ 5 := m4
  have m5 : γ 0 6 0 9 = ρ 6 := m5
  have m6 : γ 0 6 0 10 = ρ 7 := m6
  have m7 : γ 0 6 0 11 = ρ 8 := m7
  have m8 : γ 0 6 0 12 = ρ 9 := m8
  have m9 : γ 0 6 0 13 = ρ 10 := m9
  obtain ⟨-, c1⟩ := hc
  have c1 : γ 1 = rUp (γ 0) 6 0 12 (ρ 3) := c1
  show jn264 [ρ 0, ρ 1, ρ 2, ρ 3, ρ 4, ρ 5, ρ 6, ρ 7, ρ 8, ρ 9, ρ 10] (γ 0) 0 [ρ 0, ρ 1, ρ 2, ρ 3, ρ 4, ρ 5, ρ 6, ρ 7, ρ 8, ρ 9, ρ 10, 1, 0, ρ 1, ρ 3, ρ 4, ρ 5, ρ 6, ρ 7, ρ 8, ρ 3, ρ 10] (γ 1)
  have hD : dn264 [ρ 0] (γ 0) = .inl (0, [ρ 0, 1, 0], γ 1) := by
    unfold dn264
    refine (zLet_eq (show _ = ρ 0 from rfl)).trans ?_
    refine (zLet_eq m2).trans ?_
    refine (zLet_eq c1.symm).trans ?_
    rfl
  exact zGoo_to hD
theorem vn264a0_0 {S : Nat → zSpc} (hS131 : ∀ x g o v gz, S 131 x g o v gz → sn131 x g o v gz) (hS234 : ∀ x g o v gz, S 234 x g o v gz → sn234 x g o v gz) (hS238 : ∀ x g o v gz, S 238 x g o v gz → sn238 x g o v gz) (hS261 : ∀ x g o v gz, S 261 x g o v gz → sn261 x g o v gz) {a : List Int} {g : rHp} : ∀ (ρ : Nat → Int) (γ : Nat → rHp), jn264 a g 0 (zAg (zNA a264_ 0) ρ) (γ 1) → zO 11 S a g q264a0_0 ρ γ → zGl (fun i vs g1 => jn264 a g i vs g1) (sn264 a g) q264a0_0 ρ γ := by
  intro ρ γ hJ h
  obtain ⟨ha, hg, hr, hf, hm, hc, hl⟩ := h
  have ha : a = [ρ 0, ρ 1, ρ 2, ρ 3, ρ 4, ρ 5, ρ 6, ρ 7, ρ 8, ρ 9, ρ 10] := ha
  subst ha
  subst hg
  have hJ : jn264 [ρ 0, ρ 1, ρ 2, ρ 3, ρ 4, ρ 5, ρ 6, ρ 7, ρ 8, ρ 9, ρ 10] (γ 0) 0 [ρ 0, ρ 1, ρ 2, ρ 3, ρ 4, ρ 5, ρ 6, ρ 7, ρ 8, ρ 9, ρ 10, ρ 11, ρ 12, ρ 13, ρ 14, ρ 15, ρ 16, ρ 17, ρ 18, ρ 19, ρ 20, ρ 21] (γ 1) := hJ
  obtain ⟨r0, r1, r2, r3, r4, r5, r6, r7, r8, r9, r10, r11, r12, r13, r14, r15, r16, r17, r18, r19, r20, r21, -⟩ := hr
  have r0 : ((-2147483648) : Int) ≤ ρ 0 ∧ ρ 0 ≤ 2147483647 := r0
  have r1 : (0 : Int) ≤ ρ 1 ∧ ρ 1 ≤ 50000 := r1
  have r2 : (0 : Int) ≤ ρ 2 ∧ ρ 2 ≤ 60 := r2
  have r3 : (0 : Int) ≤ ρ 3 ∧ ρ 3 ≤ 2000 := r3
  have r4 : (0 : Int) ≤ ρ 4 ∧ ρ 4 ≤ 2000 := r4
  have r5 : ((-2147483648) : Int) ≤ ρ 5 ∧ ρ 5 ≤ 2147483647 := r5
  have r6 : (0 : Int) ≤ ρ 6 ∧ ρ 6 ≤ 2 := r6
  have r7 : ((-2147483648) : Int) ≤ ρ 7 ∧ ρ 7 ≤ 2147483647 := r7
  have r8 : (0 : Int) ≤ ρ 8 ∧ ρ 8 ≤ 2000 := r8
  have r9 : (0 : Int) ≤ ρ 9 ∧ ρ 9 ≤ 2000 := r9
  have r10 : ((-2147483648) : Int) ≤ ρ 10 ∧ ρ 10 ≤ 2147483647 := r10
  have r11 : (0 : Int) ≤ ρ 11 ∧ ρ 11 ≤ 0 := r11
  have r12 : (0 : Int) ≤ ρ 12 ∧ ρ 12 ≤ 2001 := r12
  have r13 : (0 : Int) ≤ ρ 13 ∧ ρ 13 ≤ 50000 := r13
  have r14 : (0 : Int) ≤ ρ 14 ∧ ρ 14 ≤ 2000 := r14
  have r15 : (0 : Int) ≤ ρ 15 ∧ ρ 15 ≤ 2000 := r15
  have r16 : ((-2147483648) : Int) ≤ ρ 16 ∧ ρ 16 ≤ 2147483647 := r16
  have r17 : (0 : Int) ≤ ρ 17 ∧ ρ 17 ≤ 2 := r17
  have r18 : ((-2147483648) : Int) ≤ ρ 18 ∧ ρ 18 ≤ 2147483647 := r18
  have r19 : (0 : Int) ≤ ρ 19 ∧ ρ 19 ≤ 2000 := r19
  have r20 : (0 : Int) ≤ ρ 20 ∧ ρ 20 ≤ 2000 := r20
  have r21 : ((-2147483648) : Int) ≤ ρ 21 ∧ ρ 21 ≤ 2147483647 := r21
  obtain ⟨f0, f1, f2, f3, f4, f5, -⟩ := hf
  have f0 : (0 : Int) ≤ -ρ 17 + ρ 6 := f0
  have f1 : (0 : Int) ≤ ρ 20 + -ρ 3 := f1
  have f2 : (0 : Int) ≤ ρ 15 + -ρ 4 := f2
  have f3 : (0 : Int) ≤ ρ 14 + -ρ 3 := f3
  have f4 : (0 : Int) ≤ -ρ 20 + ρ 14 := f4
  have f5 : (0 : Int) ≤ ρ 13 + -ρ 1 := f5
  obtain ⟨m0, m1, m2, m3, m4, m5, m6, m7, m8, m9, m10, m11, m12, m13, m14, m15, m16, m17, m18, -⟩ := hm
  have m0 : γ 0 6 0 0 = ρ 1 := m0
  have m1 : γ 0 1 0 10 = ρ 2 := m1
  have m2 : γ 0 4 0 7 = ρ 3 := m2
  have m3 : γ 0 5 0 3 = ρ 4 := m3
  have m4 : γ 0 6 0 8 = ρ 5 := m4
  have m5 : γ 0 6 0 9 = ρ 6 := m5
  have m6 : γ 0 6 0 10 = ρ 7 := m6
  have m7 : γ 0 6 0 11 = ρ 8 := m7
  have m8 : γ 0 6 0 12 = ρ 9 := m8
  have m9 : γ 0 6 0 13 = ρ 10 := m9
  have m10 : γ 1 6 0 0 = ρ 13 := m10
  have m11 : γ 1 4 0 7 = ρ 14 := m11
  have m12 : γ 1 5 0 3 = ρ 15 := m12
  have m13 : γ 1 6 0 8 = ρ 16 := m13
  have m14 : γ 1 6 0 9 = ρ 17 := m14
  have m15 : γ 1 6 0 10 = ρ 18 := m15
  have m16 : γ 1 6 0 11 = ρ 19 := m16
  have m17 : γ 1 6 0 12 = ρ 20 := m17
  have m18 : γ 1 6 0 13 = ρ 21 := m18
  obtain ⟨-, c1⟩ := hc
  have c1 : ∀ (G : Nat) (k j : Int), ¬ rMdP m143_ G j → γ 1 G k j = γ 0 G k j := c1
  show sn264 [ρ 0, ρ 1, ρ 2, ρ 3, ρ 4, ρ 5, ρ 6, ρ 7, ρ 8, ρ 9, ρ 10] (γ 0) 0 (ρ 12) (γ 1)
  have hD : en264 (γ 0) (0, [ρ 0, ρ 11, ρ 12], γ 1) = .inr (0, ρ 12, γ 1) := by
    unfold en264
    refine (if_pos (show (0 : Nat) = 0 by decide)).trans ?_
    refine (zLet_eq (show _ = γ 1 from rfl)).trans ?_
    refine (zLet_eq (show _ = ρ 0 from rfl)).trans ?_
    refine (zLet_eq (show _ = ρ 11 from rfl)).trans ?_
    refine (zLet_eq (show _ = ρ 12 from rfl)).trans ?_
    refine (zLet_eq m11).trans ?_
    refine (if_pos (show ρ 11 = 0 by omega)).trans ?_
    rfl
  exact zGoo_aend hJ hD
theorem vn264a0_1 {S : Nat → zSpc} (hS131 : ∀ x g o v gz, S 131 x g o v gz → sn131 x g o v gz) (hS234 : ∀ x g o v gz, S 234 x g o v gz → sn234 x g o v gz) (hS238 : ∀ x g o v gz, S 238 x g o v gz → sn238 x g o v gz) (hS261 : ∀ x g o v gz, S 261 x g o v gz → sn261 x g o v gz) {a : List Int} {g : rHp} : ∀ (ρ : Nat → Int) (γ : Nat → rHp), jn264 a g 0 (zAg (zNA a264_ 0) ρ) (γ 1) → zO 11 S a g q264a0_1 ρ γ → zGl (fun i vs g1 => jn264 a g i vs g1) (sn264 a g) q264a0_1 ρ γ := by
  intro ρ γ hJ h
  obtain ⟨ha, hg, hr, hf, hm, hc, hl⟩ := h
  have ha : a = [ρ 0, ρ 1, ρ 2, ρ 3, ρ 4, ρ 5, ρ 6, ρ 7, ρ 8, ρ 9, ρ 10] := ha
  subst ha
  subst hg
  have hJ : jn264 [ρ 0, ρ 1, ρ 2, ρ 3, ρ 4, ρ 5, ρ 6, ρ 7, ρ 8, ρ 9, ρ 10] (γ 0) 0 [ρ 0, ρ 1, ρ 2, ρ 3, ρ 4, ρ 5, ρ 6, ρ 7, ρ 8, ρ 9, ρ 10, ρ 11, ρ 12, ρ 13, ρ 14, ρ 15, ρ 16, ρ 17, ρ 18, ρ 19, ρ 20, ρ 21] (γ 1) := hJ
  obtain ⟨r0, r1, r2, r3, r4, r5, r6, r7, r8, r9, r10, r11, r12, r13, r14, r15, r16, r17, r18, r19, r20, r21, -⟩ := hr
  have r0 : ((-2147483648) : Int) ≤ ρ 0 ∧ ρ 0 ≤ 2147483647 := r0
  have r1 : (0 : Int) ≤ ρ 1 ∧ ρ 1 ≤ 50000 := r1
  have r2 : (0 : Int) ≤ ρ 2 ∧ ρ 2 ≤ 60 := r2
  have r3 : (0 : Int) ≤ ρ 3 ∧ ρ 3 ≤ 2000 := r3
  have r4 : (0 : Int) ≤ ρ 4 ∧ ρ 4 ≤ 2000 := r4
  have r5 : ((-2147483648) : Int) ≤ ρ 5 ∧ ρ 5 ≤ 2147483647 := r5
  have r6 : (0 : Int) ≤ ρ 6 ∧ ρ 6 ≤ 2 := r6
  have r7 : ((-2147483648) : Int) ≤ ρ 7 ∧ ρ 7 ≤ 2147483647 := r7
  have r8 : (0 : Int) ≤ ρ 8 ∧ ρ 8 ≤ 2000 := r8
  have r9 : (0 : Int) ≤ ρ 9 ∧ ρ 9 ≤ 2000 := r9
  have r10 : ((-2147483648) : Int) ≤ ρ 10 ∧ ρ 10 ≤ 2147483647 := r10
  have r11 : (1 : Int) ≤ ρ 11 ∧ ρ 11 ≤ 1 := r11
  have r12 : (2001 : Int) ≤ ρ 12 ∧ ρ 12 ≤ 2001 := r12
  have r13 : (0 : Int) ≤ ρ 13 ∧ ρ 13 ≤ 50000 := r13
  have r14 : (0 : Int) ≤ ρ 14 ∧ ρ 14 ≤ 2000 := r14
  have r15 : (0 : Int) ≤ ρ 15 ∧ ρ 15 ≤ 2000 := r15
  have r16 : ((-2147483648) : Int) ≤ ρ 16 ∧ ρ 16 ≤ 2147483647 := r16
  have r17 : (0 : Int) ≤ ρ 17 ∧ ρ 17 ≤ 2 := r17
  have r18 : ((-2147483648) : Int) ≤ ρ 18 ∧ ρ 18 ≤ 2147483647 := r18
  have r19 : (0 : Int) ≤ ρ 19 ∧ ρ 19 ≤ 2000 := r19
  have r20 : (0 : Int) ≤ ρ 20 ∧ ρ 20 ≤ 2000 := r20
  have r21 : ((-2147483648) : Int) ≤ ρ 21 ∧ ρ 21 ≤ 2147483647 := r21
  obtain ⟨f0, f1, f2, f3, f4, f5, -⟩ := hf
  have f0 : (0 : Int) ≤ -ρ 17 + ρ 6 := f0
  have f1 : (0 : Int) ≤ ρ 20 + -ρ 3 := f1
  have f2 : (0 : Int) ≤ ρ 15 + -ρ 4 := f2
  have f3 : (0 : Int) ≤ ρ 14 + -ρ 3 := f3
  have f4 : (0 : Int) ≤ -ρ 20 + ρ 14 := f4
  have f5 : (0 : Int) ≤ ρ 13 + -ρ 1 := f5
  obtain ⟨m0, m1, m2, m3, m4, m5, m6, m7, m8, m9, m10, m11, m12, m13, m14, m15, m16, m17, m18, -⟩ := hm
  have m0 : γ 0 6 0 0 = ρ 1 := m0
  have m1 : γ 0 1 0 10 = ρ 2 := m1
  have m2 : γ 0 4 0 7 = ρ 3 := m2
  have m3 : γ 0 5 0 3 = ρ 4 := m3
  have m4 : γ 0 6 0 8 = ρ 5 := m4
  have m5 : γ 0 6 0 9 = ρ 6 := m5
  have m6 : γ 0 6 0 10 = ρ 7 := m6
  have m7 : γ 0 6 0 11 = ρ 8 := m7
  have m8 : γ 0 6 0 12 = ρ 9 := m8
  have m9 : γ 0 6 0 13 = ρ 10 := m9
  have m10 : γ 1 6 0 0 = ρ 13 := m10
  have m11 : γ 1 4 0 7 = ρ 14 := m11
  have m12 : γ 1 5 0 3 = ρ 15 := m12
  have m13 : γ 1 6 0 8 = ρ 16 := m13
  have m14 : γ 1 6 0 9 = ρ 17 := m14
  have m15 : γ 1 6 0 10 = ρ 18 := m15
  have m16 : γ 1 6 0 11 = ρ 19 := m16
  have m17 : γ 1 6 0 12 = ρ 20 := m17
  have m18 : γ 1 6 0 13 = ρ 21 := m18
  obtain ⟨-, c1⟩ := hc
  have c1 : ∀ (G : Nat) (k j : Int), ¬ rMdP m143_ G j → γ 1 G k j = γ 0 G k j := c1
  show sn264 [ρ 0, ρ 1, ρ 2, ρ 3, ρ 4, ρ 5, ρ 6, ρ 7, ρ 8, ρ 9, ρ 10] (γ 0) 0 (ρ 12) (γ 1)
  have hD : en264 (γ 0) (0, [ρ 0, ρ 11, ρ 12], γ 1) = .inr (0, ρ 12, γ 1) := by
    unfold en264
    refine (if_pos (show (0 : Nat) = 0 by decide)).trans ?_
    refine (zLet_eq (show _ = γ 1 from rfl)).trans ?_
    refine (zLet_eq (show _ = ρ 0 from rfl)).trans ?_
    refine (zLet_eq (show _ = ρ 11 from rfl)).trans ?_
    refine (zLet_eq (show _ = ρ 12 from rfl)).trans ?_
    refine (zLet_eq m11).trans ?_
    refine (if_neg (show ¬ (ρ 11 = 0) by omega)).trans ?_
    refine (if_pos (show ρ 12 > 2000 by omega)).trans ?_
    rfl
  exact zGoo_aend hJ hD
theorem vn264a0_2 {S : Nat → zSpc} (hS131 : ∀ x g o v gz, S 131 x g o v gz → sn131 x g o v gz) (hS234 : ∀ x g o v gz, S 234 x g o v gz → sn234 x g o v gz) (hS238 : ∀ x g o v gz, S 238 x g o v gz → sn238 x g o v gz) (hS261 : ∀ x g o v gz, S 261 x g o v gz → sn261 x g o v gz) {a : List Int} {g : rHp} : ∀ (ρ : Nat → Int) (γ : Nat → rHp), jn264 a g 0 (zAg (zNA a264_ 0) ρ) (γ 1) → zO 11 S a g q264a0_2 ρ γ → zGl (fun i vs g1 => jn264 a g i vs g1) (sn264 a g) q264a0_2 ρ γ := by
  intro ρ γ hJ h
  obtain ⟨ha, hg, hr, hf, hm, hc, hl⟩ := h
  have ha : a = [ρ 0, ρ 1, ρ 2, ρ 3, ρ 4, ρ 5, ρ 6, ρ 7, ρ 8, ρ 9, ρ 10] := ha
  subst ha
  subst hg
  have hJ : jn264 [ρ 0, ρ 1, ρ 2, ρ 3, ρ 4, ρ 5, ρ 6, ρ 7, ρ 8, ρ 9, ρ 10] (γ 0) 0 [ρ 0, ρ 1, ρ 2, ρ 3, ρ 4, ρ 5, ρ 6, ρ 7, ρ 8, ρ 9, ρ 10, ρ 11, ρ 12, ρ 13, ρ 14, ρ 15, ρ 16, ρ 17, ρ 18, ρ 19, ρ 20, ρ 21] (γ 1) := hJ
  obtain ⟨r0, r1, r2, r3, r4, r5, r6, r7, r8, r9, r10, r11, r12, r13, r14, r15, r16, r17, r18, r19, r20, r21, -⟩ := hr
  have r0 : ((-2147483648) : Int) ≤ ρ 0 ∧ ρ 0 ≤ 2147483647 := r0
  have r1 : (0 : Int) ≤ ρ 1 ∧ ρ 1 ≤ 50000 := r1
  have r2 : (0 : Int) ≤ ρ 2 ∧ ρ 2 ≤ 60 := r2
  have r3 : (0 : Int) ≤ ρ 3 ∧ ρ 3 ≤ 2000 := r3
  have r4 : (0 : Int) ≤ ρ 4 ∧ ρ 4 ≤ 2000 := r4
  have r5 : ((-2147483648) : Int) ≤ ρ 5 ∧ ρ 5 ≤ 2147483647 := r5
  have r6 : (0 : Int) ≤ ρ 6 ∧ ρ 6 ≤ 2 := r6
  have r7 : ((-2147483648) : Int) ≤ ρ 7 ∧ ρ 7 ≤ 2147483647 := r7
  have r8 : (0 : Int) ≤ ρ 8 ∧ ρ 8 ≤ 2000 := r8
  have r9 : (0 : Int) ≤ ρ 9 ∧ ρ 9 ≤ 2000 := r9
  have r10 : ((-2147483648) : Int) ≤ ρ 10 ∧ ρ 10 ≤ 2147483647 := r10
  have r11 : (1 : Int) ≤ ρ 11 ∧ ρ 11 ≤ 1 := r11
  have r12 : (0 : Int) ≤ ρ 12 ∧ ρ 12 ≤ 2000 := r12
  have r13 : (0 : Int) ≤ ρ 13 ∧ ρ 13 ≤ 50000 := r13
  have r14 : (0 : Int) ≤ ρ 14 ∧ ρ 14 ≤ 2000 := r14
  have r15 : (0 : Int) ≤ ρ 15 ∧ ρ 15 ≤ 2000 := r15
  have r16 : ((-2147483648) : Int) ≤ ρ 16 ∧ ρ 16 ≤ 2147483647 := r16
  have r17 : (0 : Int) ≤ ρ 17 ∧ ρ 17 ≤ 2 := r17
  have r18 : ((-2147483648) : Int) ≤ ρ 18 ∧ ρ 18 ≤ 2147483647 := r18
  have r19 : (0 : Int) ≤ ρ 19 ∧ ρ 19 ≤ 2000 := r19
  have r20 : (0 : Int) ≤ ρ 20 ∧ ρ 20 ≤ 2000 := r20
  have r21 : ((-2147483648) : Int) ≤ ρ 21 ∧ ρ 21 ≤ 2147483647 := r21
  obtain ⟨f0, f1, f2, f3, f4, f5, -⟩ := hf
  have f0 : (0 : Int) ≤ -ρ 17 + ρ 6 := f0
  have f1 : (0 : Int) ≤ ρ 20 + -ρ 3 := f1
  have f2 : (0 : Int) ≤ ρ 15 + -ρ 4 := f2
  have f3 : (0 : Int) ≤ ρ 14 + -ρ 3 := f3
  have f4 : (0 : Int) ≤ -ρ 20 + ρ 14 := f4
  have f5 : (0 : Int) ≤ ρ 13 + -ρ 1 := f5
  obtain ⟨m0, m1, m2, m3, m4, m5, m6, m7, m8, m9, m10, m11, m12, m13, m14, m15, m16, m17, m18, -⟩ := hm
  have m0 : γ 0 6 0 0 = ρ 1 := m0
  have m1 : γ 0 1 0 10 = ρ 2 := m1
  have m2 : γ 0 4 0 7 = ρ 3 := m2
  have m3 : γ 0 5 0 3 = ρ 4 := m3
  have m4 : γ 0 6 0 8 = ρ 5 := m4
  have m5 : γ 0 6 0 9 = ρ 6 := m5
  have m6 : γ 0 6 0 10 = ρ 7 := m6
  have m7 : γ 0 6 0 11 = ρ 8 := m7
  have m8 : γ 0 6 0 12 = ρ 9 := m8
  have m9 : γ 0 6 0 13 = ρ 10 := m9
  have m10 : γ 1 6 0 0 = ρ 13 := m10
  have m11 : γ 1 4 0 7 = ρ 14 := m11
  have m12 : γ 1 5 0 3 = ρ 15 := m12
  have m13 : γ 1 6 0 8 = ρ 16 := m13
  have m14 : γ 1 6 0 9 = ρ 17 := m14
  have m15 : γ 1 6 0 10 = ρ 18 := m15
  have m16 : γ 1 6 0 11 = ρ 19 := m16
  have m17 : γ 1 6 0 12 = ρ 20 := m17
  have m18 : γ 1 6 0 13 = ρ 21 := m18
  obtain ⟨⟨-, c1⟩, c2⟩ := hc
  have c1 : ∀ (G : Nat) (k j : Int), ¬ rMdP m143_ G j → γ 1 G k j = γ 0 G k j := c1
  have c2 : γ 2 = rUp (γ 1) 6 0 11 (ρ 14) := c2
  show jn264 [ρ 0, ρ 1, ρ 2, ρ 3, ρ 4, ρ 5, ρ 6, ρ 7, ρ 8, ρ 9, ρ 10] (γ 0) 1 [ρ 0, ρ 1, ρ 2, ρ 3, ρ 4, ρ 5, ρ 6, ρ 7, ρ 8, ρ 9, ρ 10, 0, ρ 12 + 1, ρ 13, ρ 14, ρ 15, ρ 16, ρ 17, ρ 18, ρ 14, ρ 20, ρ 21] (γ 2)
  have hD : en264 (γ 0) (0, [ρ 0, ρ 11, ρ 12], γ 1) = .inl (1, [ρ 0, 0, ρ 12 + 1], γ 2) := by
    unfold en264
    refine (if_pos (show (0 : Nat) = 0 by decide)).trans ?_
    refine (zLet_eq (show _ = γ 1 from rfl)).trans ?_
    refine (zLet_eq (show _ = ρ 0 from rfl)).trans ?_
    refine (zLet_eq (show _ = ρ 11 from rfl)).trans ?_
    refine (zLet_eq (show _ = ρ 12 from rfl)).trans ?_
    refine (zLet_eq m11).trans ?_
    refine (if_neg (show ¬ (ρ 11 = 0) by omega)).trans ?_
    refine (if_neg (show ¬ (ρ 12 > 2000) by omega)).trans ?_
    refine (zLet_eq c2.symm).trans ?_
    rfl
  exact zGoo_ato hJ hD
theorem vn264a1_0 {S : Nat → zSpc} (hS131 : ∀ x g o v gz, S 131 x g o v gz → sn131 x g o v gz) (hS234 : ∀ x g o v gz, S 234 x g o v gz → sn234 x g o v gz) (hS238 : ∀ x g o v gz, S 238 x g o v gz → sn238 x g o v gz) (hS261 : ∀ x g o v gz, S 261 x g o v gz → sn261 x g o v gz) {a : List Int} {g : rHp} : ∀ (ρ : Nat → Int) (γ : Nat → rHp), jn264 a g 1 (zAg (zNA a264_ 1) ρ) (γ 1) → zO 11 S a g q264a1_0 ρ γ → zGl (fun i vs g1 => jn264 a g i vs g1) (sn264 a g) q264a1_0 ρ γ := by
  intro ρ γ hJ h
  obtain ⟨ha, hg, hr, hf, hm, hc, hl⟩ := h
  have ha : a = [ρ 0, ρ 1, ρ 2, ρ 3, ρ 4, ρ 5, ρ 6, ρ 7, ρ 8, ρ 9, ρ 10] := ha
  subst ha
  subst hg
  have hJ : jn264 [ρ 0, ρ 1, ρ 2, ρ 3, ρ 4, ρ 5, ρ 6, ρ 7, ρ 8, ρ 9, ρ 10] (γ 0) 1 [ρ 0, ρ 1, ρ 2, ρ 3, ρ 4, ρ 5, ρ 6, ρ 7, ρ 8, ρ 9, ρ 10, ρ 11, ρ 12, ρ 13, ρ 14, ρ 15, ρ 16, ρ 17, ρ 18, ρ 19, ρ 20, ρ 21] (γ 1) := hJ
  obtain ⟨r0, r1, r2, r3, r4, r5, r6, r7, r8, r9, r10, r11, r12, r13, r14, r15, r16, r17, r18, r19, r20, r21, -⟩ := hr
  have r0 : ((-2147483648) : Int) ≤ ρ 0 ∧ ρ 0 ≤ 2147483647 := r0
  have r1 : (0 : Int) ≤ ρ 1 ∧ ρ 1 ≤ 50000 := r1
  have r2 : (0 : Int) ≤ ρ 2 ∧ ρ 2 ≤ 60 := r2
  have r3 : (0 : Int) ≤ ρ 3 ∧ ρ 3 ≤ 2000 := r3
  have r4 : (0 : Int) ≤ ρ 4 ∧ ρ 4 ≤ 2000 := r4
  have r5 : ((-2147483648) : Int) ≤ ρ 5 ∧ ρ 5 ≤ 2147483647 := r5
  have r6 : (0 : Int) ≤ ρ 6 ∧ ρ 6 ≤ 2 := r6
  have r7 : ((-2147483648) : Int) ≤ ρ 7 ∧ ρ 7 ≤ 2147483647 := r7
  have r8 : (0 : Int) ≤ ρ 8 ∧ ρ 8 ≤ 2000 := r8
  have r9 : (0 : Int) ≤ ρ 9 ∧ ρ 9 ≤ 2000 := r9
  have r10 : ((-2147483648) : Int) ≤ ρ 10 ∧ ρ 10 ≤ 2147483647 := r10
  have r11 : (0 : Int) ≤ ρ 11 ∧ ρ 11 ≤ 60 := r11
  have r12 : (1 : Int) ≤ ρ 12 ∧ ρ 12 ≤ 2001 := r12
  have r13 : (0 : Int) ≤ ρ 13 ∧ ρ 13 ≤ 50000 := r13
  have r14 : (0 : Int) ≤ ρ 14 ∧ ρ 14 ≤ 2000 := r14
  have r15 : (0 : Int) ≤ ρ 15 ∧ ρ 15 ≤ 2000 := r15
  have r16 : ((-2147483648) : Int) ≤ ρ 16 ∧ ρ 16 ≤ 2147483647 := r16
  have r17 : (0 : Int) ≤ ρ 17 ∧ ρ 17 ≤ 2 := r17
  have r18 : ((-2147483648) : Int) ≤ ρ 18 ∧ ρ 18 ≤ 2147483647 := r18
  have r19 : (0 : Int) ≤ ρ 19 ∧ ρ 19 ≤ 2000 := r19
  have r20 : (0 : Int) ≤ ρ 20 ∧ ρ 20 ≤ 2000 := r20
  have r21 : ((-2147483648) : Int) ≤ ρ 21 ∧ ρ 21 ≤ 2147483647 := r21
  obtain ⟨f0, f1, f2, f3, f4, f5, f6, f7, f8, f9, f10, -⟩ := hf
  have f0 : (0 : Int) ≤ ρ 19 + -ρ 14 := f0
  have f1 : (0 : Int) ≤ ρ 11 + -ρ 2 := f1
  have f2 : (0 : Int) ≤ -ρ 17 + ρ 6 := f2
  have f3 : (0 : Int) ≤ -ρ 11 + ρ 2 := f3
  have f4 : (0 : Int) ≤ ρ 20 + -ρ 3 := f4
  have f5 : (0 : Int) ≤ ρ 19 + -ρ 3 := f5
  have f6 : (0 : Int) ≤ -ρ 20 + ρ 19 := f6
  have f7 : (0 : Int) ≤ ρ 15 + -ρ 4 := f7
  have f8 : (0 : Int) ≤ ρ 14 + -ρ 3 := f8
  have f9 : (0 : Int) ≤ -ρ 19 + ρ 14 := f9
  have f10 : (0 : Int) ≤ ρ 13 + -ρ 1 := f10
  obtain ⟨m0, m1, m2, m3, m4, m5, m6, m7, m8, m9, m10, m11, m12, m13, m14, m15, m16, m17, m18, -⟩ := hm
  have m0 : γ 0 6 0 0 = ρ 1 := m0
  have m1 : γ 0 1 0 10 = ρ 2 := m1
  have m2 : γ 0 4 0 7 = ρ 3 := m2
  have m3 : γ 0 5 0 3 = ρ 4 := m3
  have m4 : γ 0 6 0 8 = ρ 5 := m4
  have m5 : γ 0 6 0 9 = ρ 6 := m5
  have m6 : γ 0 6 0 10 = ρ 7 := m6
  have m7 : γ 0 6 0 11 = ρ 8 := m7
  have m8 : γ 0 6 0 12 = ρ 9 := m8
  have m9 : γ 0 6 0 13 = ρ 10 := m9
  have m10 : γ 1 6 0 0 = ρ 13 := m10
  have m11 : γ 1 4 0 7 = ρ 14 := m11
  have m12 : γ 1 5 0 3 = ρ 15 := m12
  have m13 : γ 1 6 0 8 = ρ 16 := m13
  have m14 : γ 1 6 0 9 = ρ 17 := m14
  have m15 : γ 1 6 0 10 = ρ 18 := m15
  have m16 : γ 1 6 0 11 = ρ 19 := m16
  have m17 : γ 1 6 0 12 = ρ 20 := m17
  have m18 : γ 1 6 0 13 = ρ 21 := m18
  obtain ⟨⟨-, c1⟩, c2⟩ := hc
  have c1 : ∀ (G : Nat) (k j : Int), ¬ rMdP m143_ G j → γ 1 G k j = γ 0 G k j := c1
  have c2 : γ 2 = rUp (γ 1) 6 0 12 (ρ 19) := c2
  show jn264 [ρ 0, ρ 1, ρ 2, ρ 3, ρ 4, ρ 5, ρ 6, ρ 7, ρ 8, ρ 9, ρ 10] (γ 0) 0 [ρ 0, ρ 1, ρ 2, ρ 3, ρ 4, ρ 5, ρ 6, ρ 7, ρ 8, ρ 9, ρ 10, 0, ρ 12, ρ 13, ρ 14, ρ 15, ρ 16, ρ 17, ρ 18, ρ 19, ρ 19, ρ 21] (γ 2)
  have hD : en264 (γ 0) (1, [ρ 0, ρ 11, ρ 12], γ 1) = .inl (0, [ρ 0, 0, ρ 12], γ 2) := by
    unfold en264
    refine (if_neg (show ¬ (1 : Nat) = 0 by decide)).trans ?_
    refine (if_pos (show (1 : Nat) = 1 by decide)).trans ?_
    refine (zLet_eq (show _ = γ 1 from rfl)).trans ?_
    refine (zLet_eq (show _ = ρ 0 from rfl)).trans ?_
    refine (zLet_eq (show _ = ρ 11 from rfl)).trans ?_
    refine (zLet_eq (show _ = ρ 12 from rfl)).trans ?_
    refine (zLet_eq m1).trans ?_
    refine (zLet_eq m11).trans ?_
    refine (zLet_eq m16).trans ?_
    refine (if_pos (show ρ 11 ≥ ρ 2 by omega)).trans ?_
    refine (zLet_eq c2.symm).trans ?_
    refine (if_pos (show ρ 14 ≤ ρ 19 by omega)).trans ?_
    rfl
  exact zGoo_ato hJ hD
theorem vn264a1_1 {S : Nat → zSpc} (hS131 : ∀ x g o v gz, S 131 x g o v gz → sn131 x g o v gz) (hS234 : ∀ x g o v gz, S 234 x g o v gz → sn234 x g o v gz) (hS238 : ∀ x g o v gz, S 238 x g o v gz → sn238 x g o v gz) (hS261 : ∀ x g o v gz, S 261 x g o v gz → sn261 x g o v gz) {a : List Int} {g : rHp} : ∀ (ρ : Nat → Int) (γ : Nat → rHp), jn264 a g 1 (zAg (zNA a264_ 1) ρ) (γ 1) → zO 11 S a g q264a1_1 ρ γ → zGl (fun i vs g1 => jn264 a g i vs g1) (sn264 a g) q264a1_1 ρ γ := by
  intro ρ γ hJ h
  obtain ⟨ha, hg, hr, hf, hm, hc, hl⟩ := h
  have ha : a = [ρ 0, ρ 1, ρ 2, ρ 3, ρ 4, ρ 5, ρ 6, ρ 7, ρ 8, ρ 9, ρ 10] := ha
  subst ha
  subst hg
  have hJ : jn264 [ρ 0, ρ 1, ρ 2, ρ 3, ρ 4, ρ 5, ρ 6, ρ 7, ρ 8, ρ 9, ρ 10] (γ 0) 1 [ρ 0, ρ 1, ρ 2, ρ 3, ρ 4, ρ 5, ρ 6, ρ 7, ρ 8, ρ 9, ρ 10, ρ 11, ρ 12, ρ 13, ρ 14, ρ 15, ρ 16, ρ 17, ρ 18, ρ 19, ρ 20, ρ 21] (γ 1) := hJ
  obtain ⟨r0, r1, r2, r3, r4, r5, r6, r7, r8, r9, r10, r11, r12, r13, r14, r15, r16, r17, r18, r19, r20, r21, -⟩ := hr
  have r0 : ((-2147483648) : Int) ≤ ρ 0 ∧ ρ 0 ≤ 2147483647 := r0
  have r1 : (0 : Int) ≤ ρ 1 ∧ ρ 1 ≤ 50000 := r1
  have r2 : (0 : Int) ≤ ρ 2 ∧ ρ 2 ≤ 60 := r2
  have r3 : (0 : Int) ≤ ρ 3 ∧ ρ 3 ≤ 2000 := r3
  have r4 : (0 : Int) ≤ ρ 4 ∧ ρ 4 ≤ 2000 := r4
  have r5 : ((-2147483648) : Int) ≤ ρ 5 ∧ ρ 5 ≤ 2147483647 := r5
  have r6 : (0 : Int) ≤ ρ 6 ∧ ρ 6 ≤ 2 := r6
  have r7 : ((-2147483648) : Int) ≤ ρ 7 ∧ ρ 7 ≤ 2147483647 := r7
  have r8 : (0 : Int) ≤ ρ 8 ∧ ρ 8 ≤ 2000 := r8
  have r9 : (0 : Int) ≤ ρ 9 ∧ ρ 9 ≤ 2000 := r9
  have r10 : ((-2147483648) : Int) ≤ ρ 10 ∧ ρ 10 ≤ 2147483647 := r10
  have r11 : (0 : Int) ≤ ρ 11 ∧ ρ 11 ≤ 60 := r11
  have r12 : (1 : Int) ≤ ρ 12 ∧ ρ 12 ≤ 2001 := r12
  have r13 : (0 : Int) ≤ ρ 13 ∧ ρ 13 ≤ 50000 := r13
  have r14 : (0 : Int) ≤ ρ 14 ∧ ρ 14 ≤ 2000 := r14
  have r15 : (0 : Int) ≤ ρ 15 ∧ ρ 15 ≤ 2000 := r15
  have r16 : ((-2147483648) : Int) ≤ ρ 16 ∧ ρ 16 ≤ 2147483647 := r16
  have r17 : (0 : Int) ≤ ρ 17 ∧ ρ 17 ≤ 2 := r17
  have r18 : ((-2147483648) : Int) ≤ ρ 18 ∧ ρ 18 ≤ 2147483647 := r18
  have r19 : (0 : Int) ≤ ρ 19 ∧ ρ 19 ≤ 2000 := r19
  have r20 : (0 : Int) ≤ ρ 20 ∧ ρ 20 ≤ 2000 := r20
  have r21 : ((-2147483648) : Int) ≤ ρ 21 ∧ ρ 21 ≤ 2147483647 := r21
  obtain ⟨f0, f1, f2, f3, f4, f5, f6, f7, f8, f9, f10, -⟩ := hf
  have f0 : (0 : Int) ≤ -ρ 19 + ρ 14 + (-1) := f0
  have f1 : (0 : Int) ≤ ρ 11 + -ρ 2 := f1
  have f2 : (0 : Int) ≤ -ρ 17 + ρ 6 := f2
  have f3 : (0 : Int) ≤ -ρ 11 + ρ 2 := f3
  have f4 : (0 : Int) ≤ ρ 20 + -ρ 3 := f4
  have f5 : (0 : Int) ≤ ρ 19 + -ρ 3 := f5
  have f6 : (0 : Int) ≤ -ρ 20 + ρ 19 := f6
  have f7 : (0 : Int) ≤ ρ 15 + -ρ 4 := f7
  have f8 : (0 : Int) ≤ ρ 14 + -ρ 3 := f8
  have f9 : (0 : Int) ≤ -ρ 19 + ρ 14 := f9
  have f10 : (0 : Int) ≤ ρ 13 + -ρ 1 := f10
  obtain ⟨m0, m1, m2, m3, m4, m5, m6, m7, m8, m9, m10, m11, m12, m13, m14, m15, m16, m17, m18, -⟩ := hm
  have m0 : γ 0 6 0 0 = ρ 1 := m0
  have m1 : γ 0 1 0 10 = ρ 2 := m1
  have m2 : γ 0 4 0 7 = ρ 3 := m2
  have m3 : γ 0 5 0 3 = ρ 4 := m3
  have m4 : γ 0 6 0 8 = ρ 5 := m4
  have m5 : γ 0 6 0 9 = ρ 6 := m5
  have m6 : γ 0 6 0 10 = ρ 7 := m6
  have m7 : γ 0 6 0 11 = ρ 8 := m7
  have m8 : γ 0 6 0 12 = ρ 9 := m8
  have m9 : γ 0 6 0 13 = ρ 10 := m9
  have m10 : γ 1 6 0 0 = ρ 13 := m10
  have m11 : γ 1 4 0 7 = ρ 14 := m11
  have m12 : γ 1 5 0 3 = ρ 15 := m12
  have m13 : γ 1 6 0 8 = ρ 16 := m13
  have m14 : γ 1 6 0 9 = ρ 17 := m14
  have m15 : γ 1 6 0 10 = ρ 18 := m15
  have m16 : γ 1 6 0 11 = ρ 19 := m16
  have m17 : γ 1 6 0 12 = ρ 20 := m17
  have m18 : γ 1 6 0 13 = ρ 21 := m18
  obtain ⟨⟨-, c1⟩, c2⟩ := hc
  have c1 : ∀ (G : Nat) (k j : Int), ¬ rMdP m143_ G j → γ 1 G k j = γ 0 G k j := c1
  have c2 : γ 2 = rUp (γ 1) 6 0 12 (ρ 19) := c2
  show jn264 [ρ 0, ρ 1, ρ 2, ρ 3, ρ 4, ρ 5, ρ 6, ρ 7, ρ 8, ρ 9, ρ 10] (γ 0) 0 [ρ 0, ρ 1, ρ 2, ρ 3, ρ 4, ρ 5, ρ 6, ρ 7, ρ 8, ρ 9, ρ 10, 1, ρ 12, ρ 13, ρ 14, ρ 15, ρ 16, ρ 17, ρ 18, ρ 19, ρ 19, ρ 21] (γ 2)
  have hD : en264 (γ 0) (1, [ρ 0, ρ 11, ρ 12], γ 1) = .inl (0, [ρ 0, 1, ρ 12], γ 2) := by
    unfold en264
    refine (if_neg (show ¬ (1 : Nat) = 0 by decide)).trans ?_
    refine (if_pos (show (1 : Nat) = 1 by decide)).trans ?_
    refine (zLet_eq (show _ = γ 1 from rfl)).trans ?_
    refine (zLet_eq (show _ = ρ 0 from rfl)).trans ?_
    refine (zLet_eq (show _ = ρ 11 from rfl)).trans ?_
    refine (zLet_eq (show _ = ρ 12 from rfl)).trans ?_
    refine (zLet_eq m1).trans ?_
    refine (zLet_eq m11).trans ?_
    refine (zLet_eq m16).trans ?_
    refine (if_pos (show ρ 11 ≥ ρ 2 by omega)).trans ?_
    refine (zLet_eq c2.symm).trans ?_
    refine (if_neg (show ¬ (ρ 14 ≤ ρ 19) by omega)).trans ?_
    rfl
  exact zGoo_ato hJ hD
theorem vn264a1_2 {S : Nat → zSpc} (hS131 : ∀ x g o v gz, S 131 x g o v gz → sn131 x g o v gz) (hS234 : ∀ x g o v gz, S 234 x g o v gz → sn234 x g o v gz) (hS238 : ∀ x g o v gz, S 238 x g o v gz → sn238 x g o v gz) (hS261 : ∀ x g o v gz, S 261 x g o v gz → sn261 x g o v gz) {a : List Int} {g : rHp} : ∀ (ρ : Nat → Int) (γ : Nat → rHp), jn264 a g 1 (zAg (zNA a264_ 1) ρ) (γ 1) → zO 11 S a g q264a1_2 ρ γ → zGl (fun i vs g1 => jn264 a g i vs g1) (sn264 a g) q264a1_2 ρ γ := by
  intro ρ γ hJ h
  obtain ⟨ha, hg, hr, hf, hm, hc, hl⟩ := h
  have ha : a = [ρ 0, ρ 1, ρ 2, ρ 3, ρ 4, ρ 5, ρ 6, ρ 7, ρ 8, ρ 9, ρ 10] := ha
  subst ha
  subst hg
  have hJ : jn264 [ρ 0, ρ 1, ρ 2, ρ 3, ρ 4, ρ 5, ρ 6, ρ 7, ρ 8, ρ 9, ρ 10] (γ 0) 1 [ρ 0, ρ 1, ρ 2, ρ 3, ρ 4, ρ 5, ρ 6, ρ 7, ρ 8, ρ 9, ρ 10, ρ 11, ρ 12, ρ 13, ρ 14, ρ 15, ρ 16, ρ 17, ρ 18, ρ 19, ρ 20, ρ 21] (γ 1) := hJ
  obtain ⟨r0, r1, r2, r3, r4, r5, r6, r7, r8, r9, r10, r11, r12, r13, r14, r15, r16, r17, r18, r19, r20, r21, r22, r23, r24, -⟩ := hr
  have r0 : ((-2147483648) : Int) ≤ ρ 0 ∧ ρ 0 ≤ 2147483647 := r0
  have r1 : (0 : Int) ≤ ρ 1 ∧ ρ 1 ≤ 50000 := r1
  have r2 : (0 : Int) ≤ ρ 2 ∧ ρ 2 ≤ 60 := r2
  have r3 : (0 : Int) ≤ ρ 3 ∧ ρ 3 ≤ 2000 := r3
  have r4 : (0 : Int) ≤ ρ 4 ∧ ρ 4 ≤ 2000 := r4
  have r5 : ((-2147483648) : Int) ≤ ρ 5 ∧ ρ 5 ≤ 2147483647 := r5
  have r6 : (0 : Int) ≤ ρ 6 ∧ ρ 6 ≤ 2 := r6
  have r7 : ((-2147483648) : Int) ≤ ρ 7 ∧ ρ 7 ≤ 2147483647 := r7
  have r8 : (0 : Int) ≤ ρ 8 ∧ ρ 8 ≤ 2000 := r8
  have r9 : (0 : Int) ≤ ρ 9 ∧ ρ 9 ≤ 2000 := r9
  have r10 : ((-2147483648) : Int) ≤ ρ 10 ∧ ρ 10 ≤ 2147483647 := r10
  have r11 : (0 : Int) ≤ ρ 11 ∧ ρ 11 ≤ 60 := r11
  have r12 : (1 : Int) ≤ ρ 12 ∧ ρ 12 ≤ 1 := r12
  have r13 : (0 : Int) ≤ ρ 13 ∧ ρ 13 ≤ 50000 := r13
  have r14 : (0 : Int) ≤ ρ 14 ∧ ρ 14 ≤ 2000 := r14
  have r15 : (0 : Int) ≤ ρ 15 ∧ ρ 15 ≤ 2000 := r15
  have r16 : ((-2147483648) : Int) ≤ ρ 16 ∧ ρ 16 ≤ 2147483647 := r16
  have r17 : (0 : Int) ≤ ρ 17 ∧ ρ 17 ≤ 2 := r17
  have r18 : ((-2147483648) : Int) ≤ ρ 18 ∧ ρ 18 ≤ 2147483647 := r18
  have r19 : (0 : Int) ≤ ρ 19 ∧ ρ 19 ≤ 2000 := r19
  have r20 : (0 : Int) ≤ ρ 20 ∧ ρ 20 ≤ 2000 := r20
  have r21 : ((-2147483648) : Int) ≤ ρ 21 ∧ ρ 21 ≤ 2147483647 := r21
  have r22 : (0 : Int) ≤ ρ 22 ∧ ρ 22 ≤ 60 := r22
  have r23 : (1 : Int) ≤ ρ 23 ∧ ρ 23 ≤ 4 := r23
  have r24 : (0 : Int) ≤ ρ 24 ∧ ρ 24 ≤ 19 := r24
  obtain ⟨f0, f1, f2, f3, f4, f5, f6, f7, f8, f9, -⟩ := hf
  have f0 : (0 : Int) ≤ -ρ 11 + ρ 2 + (-1) := f0
  have f1 : (0 : Int) ≤ -ρ 17 + ρ 6 := f1
  have f2 : (0 : Int) ≤ -ρ 11 + ρ 2 := f2
  have f3 : (0 : Int) ≤ ρ 20 + -ρ 3 := f3
  have f4 : (0 : Int) ≤ ρ 19 + -ρ 3 := f4
  have f5 : (0 : Int) ≤ -ρ 20 + ρ 19 := f5
  have f6 : (0 : Int) ≤ ρ 15 + -ρ 4 := f6
  have f7 : (0 : Int) ≤ ρ 14 + -ρ 3 := f7
  have f8 : (0 : Int) ≤ -ρ 19 + ρ 14 := f8
  have f9 : (0 : Int) ≤ ρ 13 + -ρ 1 := f9
  obtain ⟨m0, m1, m2, m3, m4, m5, m6, m7, m8, m9, m10, m11, m12, m13, m14, m15, m16, m17, m18, m19, m20, m21, -⟩ := hm
  have m0 : γ 0 6 0 0 = ρ 1 := m0
  have m1 : γ 0 1 0 10 = ρ 2 := m1
  have m2 : γ 0 4 0 7 = ρ 3 := m2
  have m3 : γ 0 5 0 3 = ρ 4 := m3
  have m4 : γ 0 6 0 8 = ρ 5 := m4
  have m5 : γ 0 6 0 9 = ρ 6 := m5
  have m6 : γ 0 6 0 10 = ρ 7 := m6
  have m7 : γ 0 6 0 11 = ρ 8 := m7
  have m8 : γ 0 6 0 12 = ρ 9 := m8
  have m9 : γ 0 6 0 13 = ρ 10 := m9
  have m10 : γ 1 6 0 0 = ρ 13 := m10
  have m11 : γ 1 4 0 7 = ρ 14 := m11
  have m12 : γ 1 5 0 3 = ρ 15 := m12
  have m13 : γ 1 6 0 8 = ρ 16 := m13
  have m14 : γ 1 6 0 9 = ρ 17 := m14
  have m15 : γ 1 6 0 10 = ρ 18 := m15
  have m16 : γ 1 6 0 11 = ρ 19 := m16
  have m17 : γ 1 6 0 12 = ρ 20 := m17
  have m18 : γ 1 6 0 13 = ρ 21 := m18
  have m19 : γ 0 40 0 (ρ 11) = ρ 22 := m19
  have m20 : γ 0 10 (9 * ρ 22) 12 = ρ 23 := m20
  have m21 : γ 0 10 (9 * ρ 22) 8 = ρ 24 := m21
  obtain ⟨⟨-, c1⟩, c2⟩ := hc
  have c1 : ∀ (G : Nat) (k j : Int), ¬ rMdP m143_ G j → γ 1 G k j = γ 0 G k j := c1
  have c2 : ∀ (G : Nat) (k j : Int), ¬ rMdP m0_ G j → γ 2 G k j = γ 1 G k j := c2
  obtain ⟨l0, -⟩ := hl
  have l0 : sn131 [ρ 11, ρ 22] (γ 1) 0 (ρ 22) (γ 2) := hS131 _ _ _ _ _ l0
  show jn264 [ρ 0, ρ 1, ρ 2, ρ 3, ρ 4, ρ 5, ρ 6, ρ 7, ρ 8, ρ 9, ρ 10] (γ 0) 1 [ρ 0, ρ 1, ρ 2, ρ 3, ρ 4, ρ 5, ρ 6, ρ 7, ρ 8, ρ 9, ρ 10, ρ 11 + 1, ρ 12, ρ 13, ρ 14, ρ 15, ρ 16, ρ 17, ρ 18, ρ 19, ρ 20, ρ 21] (γ 2)
  have hD : en264 (γ 0) (1, [ρ 0, ρ 11, ρ 12], γ 1) = .inl (1, [ρ 0, ρ 11 + 1, ρ 12], γ 2) := by
    unfold en264
    refine (if_neg (show ¬ (1 : Nat) = 0 by decide)).trans ?_
    refine (if_pos (show (1 : Nat) = 1 by decide)).trans ?_
    refine (zLet_eq (show _ = γ 1 from rfl)).trans ?_
    refine (zLet_eq (show _ = ρ 0 from rfl)).trans ?_
    refine (zLet_eq (show _ = ρ 11 from rfl)).trans ?_
    refine (zLet_eq (show _ = ρ 12 from rfl)).trans ?_
    refine (zLet_eq m1).trans ?_
    refine (zLet_eq m11).trans ?_
    refine (zLet_eq m16).trans ?_
    refine (if_neg (show ¬ (ρ 11 ≥ ρ 2) by omega)).trans ?_
    refine (zLet_eq m19).trans ?_
    refine (zLet_eq (show fn131 [ρ 11] (γ 1) = (0, ρ 22, γ 2) from l0.symm)).trans ?_
    refine (zLet_eq (show _ = γ 2 from rfl)).trans ?_
    refine (if_pos (show ρ 12 = 1 by omega)).trans ?_
    refine (zLet_eq m20).trans ?_
    refine (if_pos (show ρ 23 ≠ 0 by omega)).trans ?_
    rfl
  exact zGoo_ato hJ hD
theorem vn264a1_3 {S : Nat → zSpc} (hS131 : ∀ x g o v gz, S 131 x g o v gz → sn131 x g o v gz) (hS234 : ∀ x g o v gz, S 234 x g o v gz → sn234 x g o v gz) (hS238 : ∀ x g o v gz, S 238 x g o v gz → sn238 x g o v gz) (hS261 : ∀ x g o v gz, S 261 x g o v gz → sn261 x g o v gz) {a : List Int} {g : rHp} : ∀ (ρ : Nat → Int) (γ : Nat → rHp), jn264 a g 1 (zAg (zNA a264_ 1) ρ) (γ 1) → zO 11 S a g q264a1_3 ρ γ → zGl (fun i vs g1 => jn264 a g i vs g1) (sn264 a g) q264a1_3 ρ γ := by
  intro ρ γ hJ h
  obtain ⟨ha, hg, hr, hf, hm, hc, hl⟩ := h
  have ha : a = [ρ 0, ρ 1, ρ 2, ρ 3, ρ 4, ρ 5, ρ 6, ρ 7, ρ 8, ρ 9, ρ 10] := ha
  subst ha
  subst hg
  have hJ : jn264 [ρ 0, ρ 1, ρ 2, ρ 3, ρ 4, ρ 5, ρ 6, ρ 7, ρ 8, ρ 9, ρ 10] (γ 0) 1 [ρ 0, ρ 1, ρ 2, ρ 3, ρ 4, ρ 5, ρ 6, ρ 7, ρ 8, ρ 9, ρ 10, ρ 11, ρ 12, ρ 13, ρ 14, ρ 15, ρ 16, ρ 17, ρ 18, ρ 19, ρ 20, ρ 21] (γ 1) := hJ
  obtain ⟨r0, r1, r2, r3, r4, r5, r6, r7, r8, r9, r10, r11, r12, r13, r14, r15, r16, r17, r18, r19, r20, r21, r22, r23, r24, -⟩ := hr
  have r0 : ((-2147483648) : Int) ≤ ρ 0 ∧ ρ 0 ≤ 2147483647 := r0
  have r1 : (0 : Int) ≤ ρ 1 ∧ ρ 1 ≤ 50000 := r1
  have r2 : (0 : Int) ≤ ρ 2 ∧ ρ 2 ≤ 60 := r2
  have r3 : (0 : Int) ≤ ρ 3 ∧ ρ 3 ≤ 2000 := r3
  have r4 : (0 : Int) ≤ ρ 4 ∧ ρ 4 ≤ 2000 := r4
  have r5 : ((-2147483648) : Int) ≤ ρ 5 ∧ ρ 5 ≤ 2147483647 := r5
  have r6 : (0 : Int) ≤ ρ 6 ∧ ρ 6 ≤ 2 := r6
  have r7 : ((-2147483648) : Int) ≤ ρ 7 ∧ ρ 7 ≤ 2147483647 := r7
  have r8 : (0 : Int) ≤ ρ 8 ∧ ρ 8 ≤ 2000 := r8
  have r9 : (0 : Int) ≤ ρ 9 ∧ ρ 9 ≤ 2000 := r9
  have r10 : ((-2147483648) : Int) ≤ ρ 10 ∧ ρ 10 ≤ 2147483647 := r10
  have r11 : (0 : Int) ≤ ρ 11 ∧ ρ 11 ≤ 60 := r11
  have r12 : (1 : Int) ≤ ρ 12 ∧ ρ 12 ≤ 1 := r12
  have r13 : (0 : Int) ≤ ρ 13 ∧ ρ 13 ≤ 50000 := r13
  have r14 : (0 : Int) ≤ ρ 14 ∧ ρ 14 ≤ 2000 := r14
  have r15 : (0 : Int) ≤ ρ 15 ∧ ρ 15 ≤ 2000 := r15
  have r16 : ((-2147483648) : Int) ≤ ρ 16 ∧ ρ 16 ≤ 2147483647 := r16
  have r17 : (0 : Int) ≤ ρ 17 ∧ ρ 17 ≤ 2 := r17
  have r18 : ((-2147483648) : Int) ≤ ρ 18 ∧ ρ 18 ≤ 2147483647 := r18
  have r19 : (0 : Int) ≤ ρ 19 ∧ ρ 19 ≤ 2000 := r19
  have r20 : (0 : Int) ≤ ρ 20 ∧ ρ 20 ≤ 2000 := r20
  have r21 : ((-2147483648) : Int) ≤ ρ 21 ∧ ρ 21 ≤ 2147483647 := r21
  have r22 : (0 : Int) ≤ ρ 22 ∧ ρ 22 ≤ 60 := r22
  have r23 : (0 : Int) ≤ ρ 23 ∧ ρ 23 ≤ 0 := r23
  have r24 : (0 : Int) ≤ ρ 24 ∧ ρ 24 ≤ 19 := r24
  obtain ⟨f0, f1, f2, f3, f4, f5, f6, f7, f8, f9, -⟩ := hf
  have f0 : (0 : Int) ≤ -ρ 11 + ρ 2 + (-1) := f0
  have f1 : (0 : Int) ≤ -ρ 17 + ρ 6 := f1
  have f2 : (0 : Int) ≤ -ρ 11 + ρ 2 := f2
  have f3 : (0 : Int) ≤ ρ 20 + -ρ 3 := f3
  have f4 : (0 : Int) ≤ ρ 19 + -ρ 3 := f4
  have f5 : (0 : Int) ≤ -ρ 20 + ρ 19 := f5
  have f6 : (0 : Int) ≤ ρ 15 + -ρ 4 := f6
  have f7 : (0 : Int) ≤ ρ 14 + -ρ 3 := f7
  have f8 : (0 : Int) ≤ -ρ 19 + ρ 14 := f8
  have f9 : (0 : Int) ≤ ρ 13 + -ρ 1 := f9
  obtain ⟨m0, m1, m2, m3, m4, m5, m6, m7, m8, m9, m10, m11, m12, m13, m14, m15, m16, m17, m18, m19, m20, m21, -⟩ := hm
  have m0 : γ 0 6 0 0 = ρ 1 := m0
  have m1 : γ 0 1 0 10 = ρ 2 := m1
  have m2 : γ 0 4 0 7 = ρ 3 := m2
  have m3 : γ 0 5 0 3 = ρ 4 := m3
  have m4 : γ 0 6 0 8 = ρ 5 := m4
  have m5 : γ 0 6 0 9 = ρ 6 := m5
  have m6 : γ 0 6 0 10 = ρ 7 := m6
  have m7 : γ 0 6 0 11 = ρ 8 := m7
  have m8 : γ 0 6 0 12 = ρ 9 := m8
  have m9 : γ 0 6 0 13 = ρ 10 := m9
  have m10 : γ 1 6 0 0 = ρ 13 := m10
  have m11 : γ 1 4 0 7 = ρ 14 := m11
  have m12 : γ 1 5 0 3 = ρ 15 := m12
  have m13 : γ 1 6 0 8 = ρ 16 := m13
  have m14 : γ 1 6 0 9 = ρ 17 := m14
  have m15 : γ 1 6 0 10 = ρ 18 := m15
  have m16 : γ 1 6 0 11 = ρ 19 := m16
  have m17 : γ 1 6 0 12 = ρ 20 := m17
  have m18 : γ 1 6 0 13 = ρ 21 := m18
  have m19 : γ 0 40 0 (ρ 11) = ρ 22 := m19
  have m20 : γ 0 10 (9 * ρ 22) 12 = ρ 23 := m20
  have m21 : γ 0 10 (9 * ρ 22) 8 = ρ 24 := m21
  obtain ⟨⟨⟨-, c1⟩, c2⟩, c3⟩ := hc
  have c1 : ∀ (G : Nat) (k j : Int), ¬ rMdP m143_ G j → γ 1 G k j = γ 0 G k j := c1
  have c2 : ∀ (G : Nat) (k j : Int), ¬ rMdP m0_ G j → γ 2 G k j = γ 1 G k j := c2
  have c3 : ∀ (G : Nat) (k j : Int), ¬ rMdP m0_ G j → γ 3 G k j = γ 2 G k j := c3
  obtain ⟨l0, l1, -⟩ := hl
  have l0 : sn131 [ρ 11, ρ 22] (γ 1) 0 (ρ 22) (γ 2) := hS131 _ _ _ _ _ l0
  have l1 : sn234 [ρ 22, ρ 0, ρ 24] (γ 2) 0 0 (γ 3) := hS234 _ _ _ _ _ l1
  show jn264 [ρ 0, ρ 1, ρ 2, ρ 3, ρ 4, ρ 5, ρ 6, ρ 7, ρ 8, ρ 9, ρ 10] (γ 0) 1 [ρ 0, ρ 1, ρ 2, ρ 3, ρ 4, ρ 5, ρ 6, ρ 7, ρ 8, ρ 9, ρ 10, ρ 11 + 1, ρ 12, ρ 13, ρ 14, ρ 15, ρ 16, ρ 17, ρ 18, ρ 19, ρ 20, ρ 21] (γ 3)
  have hD : en264 (γ 0) (1, [ρ 0, ρ 11, ρ 12], γ 1) = .inl (1, [ρ 0, ρ 11 + 1, ρ 12], γ 3) := by
    unfold en264
    refine (if_neg (show ¬ (1 : Nat) = 0 by decide)).trans ?_
    refine (if_pos (show (1 : Nat) = 1 by decide)).trans ?_
    refine (zLet_eq (show _ = γ 1 from rfl)).trans ?_
    refine (zLet_eq (show _ = ρ 0 from rfl)).trans ?_
    refine (zLet_eq (show _ = ρ 11 from rfl)).trans ?_
    refine (zLet_eq (show _ = ρ 12 from rfl)).trans ?_
    refine (zLet_eq m1).trans ?_
    refine (zLet_eq m11).trans ?_
    refine (zLet_eq m16).trans ?_
    refine (if_neg (show ¬ (ρ 11 ≥ ρ 2) by omega)).trans ?_
    refine (zLet_eq m19).trans ?_
    refine (zLet_eq (show fn131 [ρ 11] (γ 1) = (0, ρ 22, γ 2) from l0.symm)).trans ?_
    refine (zLet_eq (show _ = γ 2 from rfl)).trans ?_
    refine (if_pos (show ρ 12 = 1 by omega)).trans ?_
    refine (zLet_eq m20).trans ?_
    refine (if_neg (show ¬ (ρ 23 ≠ 0) by omega)).trans ?_
    refine (zLet_eq (show fn234 [ρ 22, ρ 0] (γ 2) = (0, 0, γ 3) from l1.symm)).trans ?_
    refine (zLet_eq (show _ = γ 3 from rfl)).trans ?_
    refine (if_neg (show ¬ ((1 : Int) ≤ 0) by omega)).trans ?_
    rfl
  exact zGoo_ato hJ hD
theorem vn264a1_4 {S : Nat → zSpc} (hS131 : ∀ x g o v gz, S 131 x g o v gz → sn131 x g o v gz) (hS234 : ∀ x g o v gz, S 234 x g o v gz → sn234 x g o v gz) (hS238 : ∀ x g o v gz, S 238 x g o v gz → sn238 x g o v gz) (hS261 : ∀ x g o v gz, S 261 x g o v gz → sn261 x g o v gz) {a : List Int} {g : rHp} : ∀ (ρ : Nat → Int) (γ : Nat → rHp), jn264 a g 1 (zAg (zNA a264_ 1) ρ) (γ 1) → zO 11 S a g q264a1_4 ρ γ → zGl (fun i vs g1 => jn264 a g i vs g1) (sn264 a g) q264a1_4 ρ γ := by
  intro ρ γ hJ h
  obtain ⟨ha, hg, hr, hf, hm, hc, hl⟩ := h
  have ha : a = [ρ 0, ρ 1, ρ 2, ρ 3, ρ 4, ρ 5, ρ 6, ρ 7, ρ 8, ρ 9, ρ 10] := ha
  subst ha
  subst hg
  have hJ : jn264 [ρ 0, ρ 1, ρ 2, ρ 3, ρ 4, ρ 5, ρ 6, ρ 7, ρ 8, ρ 9, ρ 10] (γ 0) 1 [ρ 0, ρ 1, ρ 2, ρ 3, ρ 4, ρ 5, ρ 6, ρ 7, ρ 8, ρ 9, ρ 10, ρ 11, ρ 12, ρ 13, ρ 14, ρ 15, ρ 16, ρ 17, ρ 18, ρ 19, ρ 20, ρ 21] (γ 1) := hJ
  obtain ⟨r0, r1, r2, r3, r4, r5, r6, r7, r8, r9, r10, r11, r12, r13, r14, r15, r16, r17, r18, r19, r20, r21, r22, r23, r24, r25, r26, r27, r28, r29, r30, r31, r32, r33, r34, r35, r36, r37, r38, r39, r40, r41, r42, r43, r44, r45, r46, r47, r48, r49, r50, r51, r52, r53, r54, r55, r56, r57, r58, r59, r60, r61, r62, r63, r64, r65, r66, r67, r68, r69, r70, r71, r72, r73, r74, r75, r76, r77, r78, r79, r80, r81, r82, r83, r84, r85, r86, r87, -⟩ := hr
  have r0 : ((-2147483648) : Int) ≤ ρ 0 ∧ ρ 0 ≤ 2147483647 := r0
  have r1 : (0 : Int) ≤ ρ 1 ∧ ρ 1 ≤ 50000 := r1
  have r2 : (0 : Int) ≤ ρ 2 ∧ ρ 2 ≤ 60 := r2
  have r3 : (0 : Int) ≤ ρ 3 ∧ ρ 3 ≤ 2000 := r3
  have r4 : (0 : Int) ≤ ρ 4 ∧ ρ 4 ≤ 2000 := r4
  have r5 : ((-2147483648) : Int) ≤ ρ 5 ∧ ρ 5 ≤ 2147483647 := r5
  have r6 : (0 : Int) ≤ ρ 6 ∧ ρ 6 ≤ 2 := r6
  have r7 : ((-2147483648) : Int) ≤ ρ 7 ∧ ρ 7 ≤ 2147483647 := r7
  have r8 : (0 : Int) ≤ ρ 8 ∧ ρ 8 ≤ 2000 := r8
  have r9 : (0 : Int) ≤ ρ 9 ∧ ρ 9 ≤ 2000 := r9
  have r10 : ((-2147483648) : Int) ≤ ρ 10 ∧ ρ 10 ≤ 2147483647 := r10
  have r11 : (0 : Int) ≤ ρ 11 ∧ ρ 11 ≤ 60 := r11
  have r12 : (1 : Int) ≤ ρ 12 ∧ ρ 12 ≤ 1 := r12
  have r13 : (0 : Int) ≤ ρ 13 ∧ ρ 13 ≤ 50000 := r13
  have r14 : (0 : Int) ≤ ρ 14 ∧ ρ 14 ≤ 2000 := r14
  have r15 : (0 : Int) ≤ ρ 15 ∧ ρ 15 ≤ 2000 := r15
  have r16 : ((-2147483648) : Int) ≤ ρ 16 ∧ ρ 16 ≤ 2147483647 := r16
  have r17 : (0 : Int) ≤ ρ 17 ∧ ρ 17 ≤ 2 := r17
  have r18 : ((-2147483648) : Int) ≤ ρ 18 ∧ ρ 18 ≤ 2147483647 := r18
  have r19 : (0 : Int) ≤ ρ 19 ∧ ρ 19 ≤ 2000 := r19
  have r20 : (0 : Int) ≤ ρ 20 ∧ ρ 20 ≤ 2000 := r20
  have r21 : ((-2147483648) : Int) ≤ ρ 21 ∧ ρ 21 ≤ 2147483647 := r21
  have r22 : (0 : Int) ≤ ρ 22 ∧ ρ 22 ≤ 60 := r22
  have r23 : (0 : Int) ≤ ρ 23 ∧ ρ 23 ≤ 0 := r23
  have r24 : (0 : Int) ≤ ρ 24 ∧ ρ 24 ≤ 19 := r24
  have r25 : ((-1) : Int) ≤ ρ 25 ∧ ρ 25 ≤ 7 := r25
  have r26 : (0 : Int) ≤ ρ 26 ∧ ρ 26 ≤ 2 := r26
  have r27 : (0 : Int) ≤ ρ 27 ∧ ρ 27 ≤ 50001 := r27
  have r28 : (0 : Int) ≤ ρ 28 ∧ ρ 28 ≤ 62 := r28
  have r29 : (0 : Int) ≤ ρ 29 ∧ ρ 29 ≤ 8 := r29
  have r30 : (0 : Int) ≤ ρ 30 ∧ ρ 30 ≤ 8 := r30
  have r31 : (0 : Int) ≤ ρ 31 ∧ ρ 31 ≤ 4 := r31
  have r32 : ((-1) : Int) ≤ ρ 32 ∧ ρ 32 ≤ 19 := r32
  have r33 : (0 : Int) ≤ ρ 33 ∧ ρ 33 ≤ 4 := r33
  have r34 : ((-1) : Int) ≤ ρ 34 ∧ ρ 34 ≤ 7 := r34
  have r35 : (0 : Int) ≤ ρ 35 ∧ ρ 35 ≤ 8 := r35
  have r36 : (0 : Int) ≤ ρ 36 ∧ ρ 36 ≤ 4 := r36
  have r37 : ((-1) : Int) ≤ ρ 37 ∧ ρ 37 ≤ 19 := r37
  have r38 : ((-1) : Int) ≤ ρ 38 ∧ ρ 38 ≤ 3 := r38
  have r39 : (0 : Int) ≤ ρ 39 ∧ ρ 39 ≤ 7 := r39
  have r40 : ((-1) : Int) ≤ ρ 40 ∧ ρ 40 ≤ 7 := r40
  have r41 : (0 : Int) ≤ ρ 41 ∧ ρ 41 ≤ 8 := r41
  have r42 : (0 : Int) ≤ ρ 42 ∧ ρ 42 ≤ 4 := r42
  have r43 : ((-1) : Int) ≤ ρ 43 ∧ ρ 43 ≤ 19 := r43
  have r44 : ((-1) : Int) ≤ ρ 44 ∧ ρ 44 ≤ 3 := r44
  have r45 : (0 : Int) ≤ ρ 45 ∧ ρ 45 ≤ 7 := r45
  have r46 : ((-1) : Int) ≤ ρ 46 ∧ ρ 46 ≤ 7 := r46
  have r47 : (0 : Int) ≤ ρ 47 ∧ ρ 47 ≤ 8 := r47
  have r48 : (0 : Int) ≤ ρ 48 ∧ ρ 48 ≤ 4 := r48
  have r49 : ((-1) : Int) ≤ ρ 49 ∧ ρ 49 ≤ 19 := r49
  have r50 : ((-1) : Int) ≤ ρ 50 ∧ ρ 50 ≤ 3 := r50
  have r51 : (0 : Int) ≤ ρ 51 ∧ ρ 51 ≤ 7 := r51
  have r52 : ((-1) : Int) ≤ ρ 52 ∧ ρ 52 ≤ 7 := r52
  have r53 : (0 : Int) ≤ ρ 53 ∧ ρ 53 ≤ 8 := r53
  have r54 : (0 : Int) ≤ ρ 54 ∧ ρ 54 ≤ 4 := r54
  have r55 : ((-1) : Int) ≤ ρ 55 ∧ ρ 55 ≤ 19 := r55
  have r56 : ((-1) : Int) ≤ ρ 56 ∧ ρ 56 ≤ 3 := r56
  have r57 : (0 : Int) ≤ ρ 57 ∧ ρ 57 ≤ 7 := r57
  have r58 : ((-1) : Int) ≤ ρ 58 ∧ ρ 58 ≤ 7 := r58
  have r59 : (0 : Int) ≤ ρ 59 ∧ ρ 59 ≤ 8 := r59
  have r60 : (0 : Int) ≤ ρ 60 ∧ ρ 60 ≤ 4 := r60
  have r61 : ((-1) : Int) ≤ ρ 61 ∧ ρ 61 ≤ 19 := r61
  have r62 : ((-1) : Int) ≤ ρ 62 ∧ ρ 62 ≤ 3 := r62
  have r63 : (0 : Int) ≤ ρ 63 ∧ ρ 63 ≤ 7 := r63
  have r64 : ((-1) : Int) ≤ ρ 64 ∧ ρ 64 ≤ 7 := r64
  have r65 : (0 : Int) ≤ ρ 65 ∧ ρ 65 ≤ 8 := r65
  have r66 : (0 : Int) ≤ ρ 66 ∧ ρ 66 ≤ 4 := r66
  have r67 : ((-1) : Int) ≤ ρ 67 ∧ ρ 67 ≤ 19 := r67
  have r68 : ((-1) : Int) ≤ ρ 68 ∧ ρ 68 ≤ 3 := r68
  have r69 : (0 : Int) ≤ ρ 69 ∧ ρ 69 ≤ 7 := r69
  have r70 : ((-1) : Int) ≤ ρ 70 ∧ ρ 70 ≤ 7 := r70
  have r71 : (0 : Int) ≤ ρ 71 ∧ ρ 71 ≤ 8 := r71
  have r72 : (0 : Int) ≤ ρ 72 ∧ ρ 72 ≤ 4 := r72
  have r73 : ((-1) : Int) ≤ ρ 73 ∧ ρ 73 ≤ 19 := r73
  have r74 : ((-1) : Int) ≤ ρ 74 ∧ ρ 74 ≤ 3 := r74
  have r75 : (0 : Int) ≤ ρ 75 ∧ ρ 75 ≤ 7 := r75
  have r76 : ((-1) : Int) ≤ ρ 76 ∧ ρ 76 ≤ 7 := r76
  have r77 : (0 : Int) ≤ ρ 77 ∧ ρ 77 ≤ 8 := r77
  have r78 : (0 : Int) ≤ ρ 78 ∧ ρ 78 ≤ 4 := r78
  have r79 : ((-1) : Int) ≤ ρ 79 ∧ ρ 79 ≤ 19 := r79
  have r80 : ((-1) : Int) ≤ ρ 80 ∧ ρ 80 ≤ 3 := r80
  have r81 : (0 : Int) ≤ ρ 81 ∧ ρ 81 ≤ 7 := r81
  have r82 : ((-1) : Int) ≤ ρ 82 ∧ ρ 82 ≤ 7 := r82
  have r83 : (0 : Int) ≤ ρ 83 ∧ ρ 83 ≤ 50000 := r83
  have r84 : (0 : Int) ≤ ρ 84 ∧ ρ 84 ≤ 50001 := r84
  have r85 : (0 : Int) ≤ ρ 85 ∧ ρ 85 ≤ 2000 := r85
  have r86 : (0 : Int) ≤ ρ 86 ∧ ρ 86 ≤ 2000 := r86
  have r87 : ((-2147483648) : Int) ≤ ρ 87 ∧ ρ 87 ≤ 2147483647 := r87
  obtain ⟨f0, f1, f2, f3, f4, f5, f6, f7, f8, f9, f10, f11, f12, f13, f14, -⟩ := hf
  have f0 : (0 : Int) ≤ ρ 83 + -ρ 13 := f0
  have f1 : (0 : Int) ≤ ρ 84 + -ρ 27 := f1
  have f2 : (0 : Int) ≤ ρ 85 + -ρ 14 := f2
  have f3 : (0 : Int) ≤ ρ 86 + -ρ 15 := f3
  have f4 : (0 : Int) ≤ -ρ 84 + (ρ 83 + (ρ 27 + -ρ 13)) + 1 := f4
  have f5 : (0 : Int) ≤ -ρ 11 + ρ 2 + (-1) := f5
  have f6 : (0 : Int) ≤ -ρ 17 + ρ 6 := f6
  have f7 : (0 : Int) ≤ -ρ 11 + ρ 2 := f7
  have f8 : (0 : Int) ≤ ρ 20 + -ρ 3 := f8
  have f9 : (0 : Int) ≤ ρ 19 + -ρ 3 := f9
  have f10 : (0 : Int) ≤ -ρ 20 + ρ 19 := f10
  have f11 : (0 : Int) ≤ ρ 15 + -ρ 4 := f11
  have f12 : (0 : Int) ≤ ρ 14 + -ρ 3 := f12
  have f13 : (0 : Int) ≤ -ρ 19 + ρ 14 := f13
  have f14 : (0 : Int) ≤ ρ 13 + -ρ 1 := f14
  obtain ⟨m0, m1, m2, m3, m4, m5, m6, m7, m8, m9, m10, m11, m12, m13, m14, m15, m16, m17, m18, m19, m20, m21, m22, m23, m24, m25, m26, m27, m28, m29, m30, m31, m32, m33, m34, m35, m36, m37, m38, m39, m40, m41, m42, m43, m44, m45, m46, m47, m48, m49, m50, m51, m52, m53, m54, m55, m56, m57, m58, m59, m60, m61, m62, m63, m64, m65, m66, m67, m68, m69, m70, m71, m72, m73, m74, m75, m76, m77, m78, m79, m80, m81, m82, m83, m84, m85, m86, m87, m88, -⟩ := hm
  have m0 : γ 0 6 0 0 = ρ 1 := m0
  have m1 : γ 0 1 0 10 = ρ 2 := m1
  have m2 : γ 0 4 0 7 = ρ 3 := m2
  have m3 : γ 0 5 0 3 = ρ 4 := m3
  have m4 : γ 0 6 0 8 = ρ 5 := m4
  have m5 : γ 0 6 0 9 = ρ 6 := m5
  have m6 : γ 0 6 0 10 = ρ 7 := m6
  have m7 : γ 0 6 0 11 = ρ 8 := m7
  have m8 : γ 0 6 0 12 = ρ 9 := m8
  have m9 : γ 0 6 0 13 = ρ 10 := m9
  have m10 : γ 1 6 0 0 = ρ 13 := m10
  have m11 : γ 1 4 0 7 = ρ 14 := m11
  have m12 : γ 1 5 0 3 = ρ 15 := m12
  have m13 : γ 1 6 0 8 = ρ 16 := m13
  have m14 : γ 1 6 0 9 = ρ 17 := m14
  have m15 : γ 1 6 0 10 = ρ 18 := m15
  have m16 : γ 1 6 0 11 = ρ 19 := m16
  have m17 : γ 1 6 0 12 = ρ 20 := m17
  have m18 : γ 1 6 0 13 = ρ 21 := m18
  have m19 : γ 0 40 0 (ρ 11) = ρ 22 := m19
  have m20 : γ 0 10 (9 * ρ 22) 12 = ρ 23 := m20
  have m21 : γ 0 10 (9 * ρ 22) 8 = ρ 24 := m21
  have m22 : γ 0 10 (9 * ρ 22) 14 = ρ 25 := m22
  have m23 : γ 4 6 0 8 = ρ 11 := m23
  have m24 : γ 4 6 0 9 = 0 := m24
  have m25 : γ 4 6 0 10 = ρ 12 := m25
  have m26 : γ 4 6 0 13 = 0 := m26
  have m27 : γ 0 6 0 6 = ρ 26 := m27
  have m28 : γ 1 8 (ρ 26) 1 = ρ 27 := m28
  have m29 : γ 4 6 0 7 = ρ 28 := m29
  have m30 : γ 0 9 (ρ 28) 2 = ρ 29 := m30
  have m31 : γ 0 9 (ρ 28) 3 = ρ 30 := m31
  have m32 : γ 0 10 (9 * ρ 28) 5 = ρ 31 := m32
  have m33 : γ 0 10 (9 * ρ 28) 8 = ρ 32 := m33
  have m34 : γ 0 10 (9 * ρ 28) 12 = ρ 33 := m34
  have m35 : γ 0 10 (9 * ρ 28) 14 = ρ 34 := m35
  have m36 : γ 0 10 (9 * ρ 28 + 1) 4 = ρ 35 := m36
  have m37 : γ 0 10 (9 * ρ 28 + 1) 5 = ρ 36 := m37
  have m38 : γ 0 10 (9 * ρ 28 + 1) 8 = ρ 37 := m38
  have m39 : γ 0 10 (9 * ρ 28 + 1) 9 = ρ 38 := m39
  have m40 : γ 0 10 (9 * ρ 28 + 1) 10 = ρ 39 := m40
  have m41 : γ 0 10 (9 * ρ 28 + 1) 11 = ρ 40 := m41
  have m42 : γ 0 10 (9 * ρ 28 + 2) 4 = ρ 41 := m42
  have m43 : γ 0 10 (9 * ρ 28 + 2) 5 = ρ 42 := m43
  have m44 : γ 0 10 (9 * ρ 28 + 2) 8 = ρ 43 := m44
  have m45 : γ 0 10 (9 * ρ 28 + 2) 9 = ρ 44 := m45
  have m46 : γ 0 10 (9 * ρ 28 + 2) 10 = ρ 45 := m46
  have m47 : γ 0 10 (9 * ρ 28 + 2) 11 = ρ 46 := m47
  have m48 : γ 0 10 (9 * ρ 28 + 3) 4 = ρ 47 := m48
  have m49 : γ 0 10 (9 * ρ 28 + 3) 5 = ρ 48 := m49
  have m50 : γ 0 10 (9 * ρ 28 + 3) 8 = ρ 49 := m50
  have m51 : γ 0 10 (9 * ρ 28 + 3) 9 = ρ 50 := m51
  have m52 : γ 0 10 (9 * ρ 28 + 3) 10 = ρ 51 := m52
  have m53 : γ 0 10 (9 * ρ 28 + 3) 11 = ρ 52 := m53
  have m54 : γ 0 10 (9 * ρ 28 + 4) 4 = ρ 53 := m54
  have m55 : γ 0 10 (9 * ρ 28 + 4) 5 = ρ 54 := m55
  have m56 : γ 0 10 (9 * ρ 28 + 4) 8 = ρ 55 := m56
  have m57 : γ 0 10 (9 * ρ 28 + 4) 9 = ρ 56 := m57
  have m58 : γ 0 10 (9 * ρ 28 + 4) 10 = ρ 57 := m58
  have m59 : γ 0 10 (9 * ρ 28 + 4) 11 = ρ 58 := m59
  have m60 : γ 0 10 (9 * ρ 28 + 5) 4 = ρ 59 := m60
  have m61 : γ 0 10 (9 * ρ 28 + 5) 5 = ρ 60 := m61
  have m62 : γ 0 10 (9 * ρ 28 + 5) 8 = ρ 61 := m62
  have m63 : γ 0 10 (9 * ρ 28 + 5) 9 = ρ 62 := m63
  have m64 : γ 0 10 (9 * ρ 28 + 5) 10 = ρ 63 := m64
  have m65 : γ 0 10 (9 * ρ 28 + 5) 11 = ρ 64 := m65
  have m66 : γ 0 10 (9 * ρ 28 + 6) 4 = ρ 65 := m66
  have m67 : γ 0 10 (9 * ρ 28 + 6) 5 = ρ 66 := m67
  have m68 : γ 0 10 (9 * ρ 28 + 6) 8 = ρ 67 := m68
  have m69 : γ 0 10 (9 * ρ 28 + 6) 9 = ρ 68 := m69
  have m70 : γ 0 10 (9 * ρ 28 + 6) 10 = ρ 69 := m70
  have m71 : γ 0 10 (9 * ρ 28 + 6) 11 = ρ 70 := m71
  have m72 : γ 0 10 (9 * ρ 28 + 7) 4 = ρ 71 := m72
  have m73 : γ 0 10 (9 * ρ 28 + 7) 5 = ρ 72 := m73
  have m74 : γ 0 10 (9 * ρ 28 + 7) 8 = ρ 73 := m74
  have m75 : γ 0 10 (9 * ρ 28 + 7) 9 = ρ 74 := m75
  have m76 : γ 0 10 (9 * ρ 28 + 7) 10 = ρ 75 := m76
  have m77 : γ 0 10 (9 * ρ 28 + 7) 11 = ρ 76 := m77
  have m78 : γ 0 10 (9 * ρ 28 + 8) 4 = ρ 77 := m78
  have m79 : γ 0 10 (9 * ρ 28 + 8) 5 = ρ 78 := m79
  have m80 : γ 0 10 (9 * ρ 28 + 8) 8 = ρ 79 := m80
  have m81 : γ 0 10 (9 * ρ 28 + 8) 9 = ρ 80 := m81
  have m82 : γ 0 10 (9 * ρ 28 + 8) 10 = ρ 81 := m82
  have m83 : γ 0 10 (9 * ρ 28 + 8) 11 = ρ 82 := m83
  have m84 : γ 5 6 0 0 = ρ 83 := m84
  have m85 : γ 5 8 (ρ 26) 1 = ρ 84 := m85
  have m86 : γ 5 4 0 7 = ρ 85 := m86
  have m87 : γ 5 5 0 3 = ρ 86 := m87
  have m88 : γ 5 6 0 13 = ρ 87 := m88
  obtain ⟨⟨⟨⟨⟨-, c1⟩, c2⟩, c3⟩, c4⟩, c5⟩ := hc
  have c1 : ∀ (G : Nat) (k j : Int), ¬ rMdP m143_ G j → γ 1 G k j = γ 0 G k j := c1
  have c2 : ∀ (G : Nat) (k j : Int), ¬ rMdP m0_ G j → γ 2 G k j = γ 1 G k j := c2
  have c3 : ∀ (G : Nat) (k j : Int), ¬ rMdP m0_ G j → γ 3 G k j = γ 2 G k j := c3
  have c4 : ∀ (G : Nat) (k j : Int), ¬ rMdP m136_ G j → γ 4 G k j = γ 3 G k j := c4
  have c5 : ∀ (G : Nat) (k j : Int), ¬ rMdP m140_ G j → γ 5 G k j = γ 4 G k j := c5
  obtain ⟨l0, l1, l2, l3, -⟩ := hl
  have l0 : sn131 [ρ 11, ρ 22] (γ 1) 0 (ρ 22) (γ 2) := hS131 _ _ _ _ _ l0
  have l1 : sn234 [ρ 22, ρ 0, ρ 24] (γ 2) 0 1 (γ 3) := hS234 _ _ _ _ _ l1
  have l2 : sn238 [ρ 12, ρ 22, ρ 11, ρ 24, ρ 23, ρ 25, ρ 16, ρ 17, ρ 18, ρ 21] (γ 3) 0 0 (γ 4) := hS238 _ _ _ _ _ l2
  have l3 : sn261 [ρ 13, 0, ρ 26, ρ 27, ρ 28, ρ 2, ρ 14, ρ 15, ρ 11, ρ 12, ρ 19, ρ 20, 0, ρ 29, ρ 30, ρ 31, ρ 32, ρ 33, ρ 34, ρ 35, ρ 36, ρ 37, ρ 38, ρ 39, ρ 40, ρ 41, ρ 42, ρ 43, ρ 44, ρ 45, ρ 46, ρ 47, ρ 48, ρ 49, ρ 50, ρ 51, ρ 52, ρ 53, ρ 54, ρ 55, ρ 56, ρ 57, ρ 58, ρ 59, ρ 60, ρ 61, ρ 62, ρ 63, ρ 64, ρ 65, ρ 66, ρ 67, ρ 68, ρ 69, ρ 70, ρ 71, ρ 72, ρ 73, ρ 74, ρ 75, ρ 76, ρ 77, ρ 78, ρ 79, ρ 80, ρ 81, ρ 82] (γ 4) 0 0 (γ 5) := hS261 _ _ _ _ _ l3
  show jn264 [ρ 0, ρ 1, ρ 2, ρ 3, ρ 4, ρ 5, ρ 6, ρ 7, ρ 8, ρ 9, ρ 10] (γ 0) 1 [ρ 0, ρ 1, ρ 2, ρ 3, ρ 4, ρ 5, ρ 6, ρ 7, ρ 8, ρ 9, ρ 10, ρ 11 + 1, ρ 12, ρ 83, ρ 85, ρ 86, ρ 11, 0, ρ 12, ρ 19, ρ 20, ρ 87] (γ 5)
  have hD : en264 (γ 0) (1, [ρ 0, ρ 11, ρ 12], γ 1) = .inl (1, [ρ 0, ρ 11 + 1, ρ 12], γ 5) := by
    unfold en264
    refine (if_neg (show ¬ (1 : Nat) = 0 by decide)).trans ?_
    refine (if_pos (show (1 : Nat) = 1 by decide)).trans ?_
    refine (zLet_eq (show _ = γ 1 from rfl)).trans ?_
    refine (zLet_eq (show _ = ρ 0 from rfl)).trans ?_
    refine (zLet_eq (show _ = ρ 11 from rfl)).trans ?_
    refine (zLet_eq (show _ = ρ 12 from rfl)).trans ?_
    refine (zLet_eq m1).trans ?_
    refine (zLet_eq m11).trans ?_
    refine (zLet_eq m16).trans ?_
    refine (if_neg (show ¬ (ρ 11 ≥ ρ 2) by omega)).trans ?_
    refine (zLet_eq m19).trans ?_
    refine (zLet_eq (show fn131 [ρ 11] (γ 1) = (0, ρ 22, γ 2) from l0.symm)).trans ?_
    refine (zLet_eq (show _ = γ 2 from rfl)).trans ?_
    refine (if_pos (show ρ 12 = 1 by omega)).trans ?_
    refine (zLet_eq m20).trans ?_
    refine (if_neg (show ¬ (ρ 23 ≠ 0) by omega)).trans ?_
    refine (zLet_eq (show fn234 [ρ 22, ρ 0] (γ 2) = (0, 1, γ 3) from l1.symm)).trans ?_
    refine (zLet_eq (show _ = γ 3 from rfl)).trans ?_
    refine (if_pos (show (1 : Int) ≤ 1 by omega)).trans ?_
    refine (zLet_eq (show fn238 [ρ 12, ρ 22, ρ 11] (γ 3) = (0, 0, γ 4) from l2.symm)).trans ?_
    refine (zLet_eq (show _ = γ 4 from rfl)).trans ?_
    refine (zLet_eq (show fn261 [] (γ 4) = (0, 0, γ 5) from l3.symm)).trans ?_
    refine (zLet_eq (show _ = γ 5 from rfl)).trans ?_
    refine (if_pos (show (0 : Nat) = 0 by decide)).trans ?_
    rfl
  exact zGoo_ato hJ hD
theorem vn264a1_5 {S : Nat → zSpc} (hS131 : ∀ x g o v gz, S 131 x g o v gz → sn131 x g o v gz) (hS234 : ∀ x g o v gz, S 234 x g o v gz → sn234 x g o v gz) (hS238 : ∀ x g o v gz, S 238 x g o v gz → sn238 x g o v gz) (hS261 : ∀ x g o v gz, S 261 x g o v gz → sn261 x g o v gz) {a : List Int} {g : rHp} : ∀ (ρ : Nat → Int) (γ : Nat → rHp), jn264 a g 1 (zAg (zNA a264_ 1) ρ) (γ 1) → zO 11 S a g q264a1_5 ρ γ → zGl (fun i vs g1 => jn264 a g i vs g1) (sn264 a g) q264a1_5 ρ γ := by
  intro ρ γ hJ h
  obtain ⟨ha, hg, hr, hf, hm, hc, hl⟩ := h
  have ha : a = [ρ 0, ρ 1, ρ 2, ρ 3, ρ 4, ρ 5, ρ 6, ρ 7, ρ 8, ρ 9, ρ 10] := ha
  subst ha
  subst hg
  have hJ : jn264 [ρ 0, ρ 1, ρ 2, ρ 3, ρ 4, ρ 5, ρ 6, ρ 7, ρ 8, ρ 9, ρ 10] (γ 0) 1 [ρ 0, ρ 1, ρ 2, ρ 3, ρ 4, ρ 5, ρ 6, ρ 7, ρ 8, ρ 9, ρ 10, ρ 11, ρ 12, ρ 13, ρ 14, ρ 15, ρ 16, ρ 17, ρ 18, ρ 19, ρ 20, ρ 21] (γ 1) := hJ
  obtain ⟨r0, r1, r2, r3, r4, r5, r6, r7, r8, r9, r10, r11, r12, r13, r14, r15, r16, r17, r18, r19, r20, r21, r22, r23, r24, r25, r26, r27, r28, r29, r30, r31, r32, r33, r34, r35, r36, r37, r38, r39, r40, r41, r42, r43, r44, r45, r46, r47, r48, r49, r50, r51, r52, r53, r54, r55, r56, r57, r58, r59, r60, r61, r62, r63, r64, r65, r66, r67, r68, r69, r70, r71, r72, r73, r74, r75, r76, r77, r78, r79, r80, r81, r82, r83, r84, r85, r86, r87, -⟩ := hr
  have r0 : ((-2147483648) : Int) ≤ ρ 0 ∧ ρ 0 ≤ 2147483647 := r0
  have r1 : (0 : Int) ≤ ρ 1 ∧ ρ 1 ≤ 50000 := r1
  have r2 : (0 : Int) ≤ ρ 2 ∧ ρ 2 ≤ 60 := r2
  have r3 : (0 : Int) ≤ ρ 3 ∧ ρ 3 ≤ 2000 := r3
  have r4 : (0 : Int) ≤ ρ 4 ∧ ρ 4 ≤ 2000 := r4
  have r5 : ((-2147483648) : Int) ≤ ρ 5 ∧ ρ 5 ≤ 2147483647 := r5
  have r6 : (0 : Int) ≤ ρ 6 ∧ ρ 6 ≤ 2 := r6
  have r7 : ((-2147483648) : Int) ≤ ρ 7 ∧ ρ 7 ≤ 2147483647 := r7
  have r8 : (0 : Int) ≤ ρ 8 ∧ ρ 8 ≤ 2000 := r8
  have r9 : (0 : Int) ≤ ρ 9 ∧ ρ 9 ≤ 2000 := r9
  have r10 : ((-2147483648) : Int) ≤ ρ 10 ∧ ρ 10 ≤ 2147483647 := r10
  have r11 : (0 : Int) ≤ ρ 11 ∧ ρ 11 ≤ 60 := r11
  have r12 : (1 : Int) ≤ ρ 12 ∧ ρ 12 ≤ 1 := r12
  have r13 : (0 : Int) ≤ ρ 13 ∧ ρ 13 ≤ 50000 := r13
  have r14 : (0 : Int) ≤ ρ 14 ∧ ρ 14 ≤ 2000 := r14
  have r15 : (0 : Int) ≤ ρ 15 ∧ ρ 15 ≤ 2000 := r15
  have r16 : ((-2147483648) : Int) ≤ ρ 16 ∧ ρ 16 ≤ 2147483647 := r16
  have r17 : (0 : Int) ≤ ρ 17 ∧ ρ 17 ≤ 2 := r17
  have r18 : ((-2147483648) : Int) ≤ ρ 18 ∧ ρ 18 ≤ 2147483647 := r18
  have r19 : (0 : Int) ≤ ρ 19 ∧ ρ 19 ≤ 2000 := r19
  have r20 : (0 : Int) ≤ ρ 20 ∧ ρ 20 ≤ 2000 := r20
  have r21 : ((-2147483648) : Int) ≤ ρ 21 ∧ ρ 21 ≤ 2147483647 := r21
  have r22 : (0 : Int) ≤ ρ 22 ∧ ρ 22 ≤ 60 := r22
  have r23 : (0 : Int) ≤ ρ 23 ∧ ρ 23 ≤ 0 := r23
  have r24 : (0 : Int) ≤ ρ 24 ∧ ρ 24 ≤ 19 := r24
  have r25 : ((-1) : Int) ≤ ρ 25 ∧ ρ 25 ≤ 7 := r25
  have r26 : (0 : Int) ≤ ρ 26 ∧ ρ 26 ≤ 2 := r26
  have r27 : (0 : Int) ≤ ρ 27 ∧ ρ 27 ≤ 50001 := r27
  have r28 : (0 : Int) ≤ ρ 28 ∧ ρ 28 ≤ 62 := r28
  have r29 : (0 : Int) ≤ ρ 29 ∧ ρ 29 ≤ 8 := r29
  have r30 : (0 : Int) ≤ ρ 30 ∧ ρ 30 ≤ 8 := r30
  have r31 : (0 : Int) ≤ ρ 31 ∧ ρ 31 ≤ 4 := r31
  have r32 : ((-1) : Int) ≤ ρ 32 ∧ ρ 32 ≤ 19 := r32
  have r33 : (0 : Int) ≤ ρ 33 ∧ ρ 33 ≤ 4 := r33
  have r34 : ((-1) : Int) ≤ ρ 34 ∧ ρ 34 ≤ 7 := r34
  have r35 : (0 : Int) ≤ ρ 35 ∧ ρ 35 ≤ 8 := r35
  have r36 : (0 : Int) ≤ ρ 36 ∧ ρ 36 ≤ 4 := r36
  have r37 : ((-1) : Int) ≤ ρ 37 ∧ ρ 37 ≤ 19 := r37
  have r38 : ((-1) : Int) ≤ ρ 38 ∧ ρ 38 ≤ 3 := r38
  have r39 : (0 : Int) ≤ ρ 39 ∧ ρ 39 ≤ 7 := r39
  have r40 : ((-1) : Int) ≤ ρ 40 ∧ ρ 40 ≤ 7 := r40
  have r41 : (0 : Int) ≤ ρ 41 ∧ ρ 41 ≤ 8 := r41
  have r42 : (0 : Int) ≤ ρ 42 ∧ ρ 42 ≤ 4 := r42
  have r43 : ((-1) : Int) ≤ ρ 43 ∧ ρ 43 ≤ 19 := r43
  have r44 : ((-1) : Int) ≤ ρ 44 ∧ ρ 44 ≤ 3 := r44
  have r45 : (0 : Int) ≤ ρ 45 ∧ ρ 45 ≤ 7 := r45
  have r46 : ((-1) : Int) ≤ ρ 46 ∧ ρ 46 ≤ 7 := r46
  have r47 : (0 : Int) ≤ ρ 47 ∧ ρ 47 ≤ 8 := r47
  have r48 : (0 : Int) ≤ ρ 48 ∧ ρ 48 ≤ 4 := r48
  have r49 : ((-1) : Int) ≤ ρ 49 ∧ ρ 49 ≤ 19 := r49
  have r50 : ((-1) : Int) ≤ ρ 50 ∧ ρ 50 ≤ 3 := r50
  have r51 : (0 : Int) ≤ ρ 51 ∧ ρ 51 ≤ 7 := r51
  have r52 : ((-1) : Int) ≤ ρ 52 ∧ ρ 52 ≤ 7 := r52
  have r53 : (0 : Int) ≤ ρ 53 ∧ ρ 53 ≤ 8 := r53
  have r54 : (0 : Int) ≤ ρ 54 ∧ ρ 54 ≤ 4 := r54
  have r55 : ((-1) : Int) ≤ ρ 55 ∧ ρ 55 ≤ 19 := r55
  have r56 : ((-1) : Int) ≤ ρ 56 ∧ ρ 56 ≤ 3 := r56
  have r57 : (0 : Int) ≤ ρ 57 ∧ ρ 57 ≤ 7 := r57
  have r58 : ((-1) : Int) ≤ ρ 58 ∧ ρ 58 ≤ 7 := r58
  have r59 : (0 : Int) ≤ ρ 59 ∧ ρ 59 ≤ 8 := r59
  have r60 : (0 : Int) ≤ ρ 60 ∧ ρ 60 ≤ 4 := r60
  have r61 : ((-1) : Int) ≤ ρ 61 ∧ ρ 61 ≤ 19 := r61
  have r62 : ((-1) : Int) ≤ ρ 62 ∧ ρ 62 ≤ 3 := r62
  have r63 : (0 : Int) ≤ ρ 63 ∧ ρ 63 ≤ 7 := r63
  have r64 : ((-1) : Int) ≤ ρ 64 ∧ ρ 64 ≤ 7 := r64
  have r65 : (0 : Int) ≤ ρ 65 ∧ ρ 65 ≤ 8 := r65
  have r66 : (0 : Int) ≤ ρ 66 ∧ ρ 66 ≤ 4 := r66
  have r67 : ((-1) : Int) ≤ ρ 67 ∧ ρ 67 ≤ 19 := r67
  have r68 : ((-1) : Int) ≤ ρ 68 ∧ ρ 68 ≤ 3 := r68
  have r69 : (0 : Int) ≤ ρ 69 ∧ ρ 69 ≤ 7 := r69
  have r70 : ((-1) : Int) ≤ ρ 70 ∧ ρ 70 ≤ 7 := r70
  have r71 : (0 : Int) ≤ ρ 71 ∧ ρ 71 ≤ 8 := r71
  have r72 : (0 : Int) ≤ ρ 72 ∧ ρ 72 ≤ 4 := r72
  have r73 : ((-1) : Int) ≤ ρ 73 ∧ ρ 73 ≤ 19 := r73
  have r74 : ((-1) : Int) ≤ ρ 74 ∧ ρ 74 ≤ 3 := r74
  have r75 : (0 : Int) ≤ ρ 75 ∧ ρ 75 ≤ 7 := r75
  have r76 : ((-1) : Int) ≤ ρ 76 ∧ ρ 76 ≤ 7 := r76
  have r77 : (0 : Int) ≤ ρ 77 ∧ ρ 77 ≤ 8 := r77
  have r78 : (0 : Int) ≤ ρ 78 ∧ ρ 78 ≤ 4 := r78
  have r79 : ((-1) : Int) ≤ ρ 79 ∧ ρ 79 ≤ 19 := r79
  have r80 : ((-1) : Int) ≤ ρ 80 ∧ ρ 80 ≤ 3 := r80
  have r81 : (0 : Int) ≤ ρ 81 ∧ ρ 81 ≤ 7 := r81
  have r82 : ((-1) : Int) ≤ ρ 82 ∧ ρ 82 ≤ 7 := r82
  have r83 : (0 : Int) ≤ ρ 83 ∧ ρ 83 ≤ 50000 := r83
  have r84 : (0 : Int) ≤ ρ 84 ∧ ρ 84 ≤ 50001 := r84
  have r85 : (0 : Int) ≤ ρ 85 ∧ ρ 85 ≤ 2000 := r85
  have r86 : (0 : Int) ≤ ρ 86 ∧ ρ 86 ≤ 2000 := r86
  have r87 : ((-2147483648) : Int) ≤ ρ 87 ∧ ρ 87 ≤ 2147483647 := r87
  obtain ⟨f0, f1, f2, f3, f4, f5, f6, f7, f8, f9, f10, f11, f12, f13, f14, -⟩ := hf
  have f0 : (0 : Int) ≤ ρ 83 + -ρ 13 := f0
  have f1 : (0 : Int) ≤ ρ 84 + -ρ 27 := f1
  have f2 : (0 : Int) ≤ ρ 85 + -ρ 14 := f2
  have f3 : (0 : Int) ≤ ρ 86 + -ρ 15 := f3
  have f4 : (0 : Int) ≤ -ρ 84 + (ρ 83 + (ρ 27 + -ρ 13)) + 1 := f4
  have f5 : (0 : Int) ≤ -ρ 11 + ρ 2 + (-1) := f5
  have f6 : (0 : Int) ≤ -ρ 17 + ρ 6 := f6
  have f7 : (0 : Int) ≤ -ρ 11 + ρ 2 := f7
  have f8 : (0 : Int) ≤ ρ 20 + -ρ 3 := f8
  have f9 : (0 : Int) ≤ ρ 19 + -ρ 3 := f9
  have f10 : (0 : Int) ≤ -ρ 20 + ρ 19 := f10
  have f11 : (0 : Int) ≤ ρ 15 + -ρ 4 := f11
  have f12 : (0 : Int) ≤ ρ 14 + -ρ 3 := f12
  have f13 : (0 : Int) ≤ -ρ 19 + ρ 14 := f13
  have f14 : (0 : Int) ≤ ρ 13 + -ρ 1 := f14
  obtain ⟨m0, m1, m2, m3, m4, m5, m6, m7, m8, m9, m10, m11, m12, m13, m14, m15, m16, m17, m18, m19, m20, m21, m22, m23, m24, m25, m26, m27, m28, m29, m30, m31, m32, m33, m34, m35, m36, m37, m38, m39, m40, m41, m42, m43, m44, m45, m46, m47, m48, m49, m50, m51, m52, m53, m54, m55, m56, m57, m58, m59, m60, m61, m62, m63, m64, m65, m66, m67, m68, m69, m70, m71, m72, m73, m74, m75, m76, m77, m78, m79, m80, m81, m82, m83, m84, m85, m86, m87, m88, -⟩ := hm
  have m0 : γ 0 6 0 0 = ρ 1 := m0
  have m1 : γ 0 1 0 10 = ρ 2 := m1
  have m2 : γ 0 4 0 7 = ρ 3 := m2
  have m3 : γ 0 5 0 3 = ρ 4 := m3
  have m4 : γ 0 6 0 8 = ρ 5 := m4
  have m5 : γ 0 6 0 9 = ρ 6 := m5
  have m6 : γ 0 6 0 10 = ρ 7 := m6
  have m7 : γ 0 6 0 11 = ρ 8 := m7
  have m8 : γ 0 6 0 12 = ρ 9 := m8
  have m9 : γ 0 6 0 13 = ρ 10 := m9
  have m10 : γ 1 6 0 0 = ρ 13 := m10
  have m11 : γ 1 4 0 7 = ρ 14 := m11
  have m12 : γ 1 5 0 3 = ρ 15 := m12
  have m13 : γ 1 6 0 8 = ρ 16 := m13
  have m14 : γ 1 6 0 9 = ρ 17 := m14
  have m15 : γ 1 6 0 10 = ρ 18 := m15
  have m16 : γ 1 6 0 11 = ρ 19 := m16
  have m17 : γ 1 6 0 12 = ρ 20 := m17
  have m18 : γ 1 6 0 13 = ρ 21 := m18
  have m19 : γ 0 40 0 (ρ 11) = ρ 22 := m19
  have m20 : γ 0 10 (9 * ρ 22) 12 = ρ 23 := m20
  have m21 : γ 0 10 (9 * ρ 22) 8 = ρ 24 := m21
  have m22 : γ 0 10 (9 * ρ 22) 14 = ρ 25 := m22
  have m23 : γ 4 6 0 8 = ρ 11 := m23
  have m24 : γ 4 6 0 9 = 0 := m24
  have m25 : γ 4 6 0 10 = ρ 12 := m25
  have m26 : γ 4 6 0 13 = 0 := m26
  have m27 : γ 0 6 0 6 = ρ 26 := m27
  have m28 : γ 1 8 (ρ 26) 1 = ρ 27 := m28
  have m29 : γ 4 6 0 7 = ρ 28 := m29
  have m30 : γ 0 9 (ρ 28) 2 = ρ 29 := m30
  have m31 : γ 0 9 (ρ 28) 3 = ρ 30 := m31
  have m32 : γ 0 10 (9 * ρ 28) 5 = ρ 31 := m32
  have m33 : γ 0 10 (9 * ρ 28) 8 = ρ 32 := m33
  have m34 : γ 0 10 (9 * ρ 28) 12 = ρ 33 := m34
  have m35 : γ 0 10 (9 * ρ 28) 14 = ρ 34 := m35
  have m36 : γ 0 10 (9 * ρ 28 + 1) 4 = ρ 35 := m36
  have m37 : γ 0 10 (9 * ρ 28 + 1) 5 = ρ 36 := m37
  have m38 : γ 0 10 (9 * ρ 28 + 1) 8 = ρ 37 := m38
  have m39 : γ 0 10 (9 * ρ 28 + 1) 9 = ρ 38 := m39
  have m40 : γ 0 10 (9 * ρ 28 + 1) 10 = ρ 39 := m40
  have m41 : γ 0 10 (9 * ρ 28 + 1) 11 = ρ 40 := m41
  have m42 : γ 0 10 (9 * ρ 28 + 2) 4 = ρ 41 := m42
  have m43 : γ 0 10 (9 * ρ 28 + 2) 5 = ρ 42 := m43
  have m44 : γ 0 10 (9 * ρ 28 + 2) 8 = ρ 43 := m44
  have m45 : γ 0 10 (9 * ρ 28 + 2) 9 = ρ 44 := m45
  have m46 : γ 0 10 (9 * ρ 28 + 2) 10 = ρ 45 := m46
  have m47 : γ 0 10 (9 * ρ 28 + 2) 11 = ρ 46 := m47
  have m48 : γ 0 10 (9 * ρ 28 + 3) 4 = ρ 47 := m48
  have m49 : γ 0 10 (9 * ρ 28 + 3) 5 = ρ 48 := m49
  have m50 : γ 0 10 (9 * ρ 28 + 3) 8 = ρ 49 := m50
  have m51 : γ 0 10 (9 * ρ 28 + 3) 9 = ρ 50 := m51
  have m52 : γ 0 10 (9 * ρ 28 + 3) 10 = ρ 51 := m52
  have m53 : γ 0 10 (9 * ρ 28 + 3) 11 = ρ 52 := m53
  have m54 : γ 0 10 (9 * ρ 28 + 4) 4 = ρ 53 := m54
  have m55 : γ 0 10 (9 * ρ 28 + 4) 5 = ρ 54 := m55
  have m56 : γ 0 10 (9 * ρ 28 + 4) 8 = ρ 55 := m56
  have m57 : γ 0 10 (9 * ρ 28 + 4) 9 = ρ 56 := m57
  have m58 : γ 0 10 (9 * ρ 28 + 4) 10 = ρ 57 := m58
  have m59 : γ 0 10 (9 * ρ 28 + 4) 11 = ρ 58 := m59
  have m60 : γ 0 10 (9 * ρ 28 + 5) 4 = ρ 59 := m60
  have m61 : γ 0 10 (9 * ρ 28 + 5) 5 = ρ 60 := m61
  have m62 : γ 0 10 (9 * ρ 28 + 5) 8 = ρ 61 := m62
  have m63 : γ 0 10 (9 * ρ 28 + 5) 9 = ρ 62 := m63
  have m64 : γ 0 10 (9 * ρ 28 + 5) 10 = ρ 63 := m64
  have m65 : γ 0 10 (9 * ρ 28 + 5) 11 = ρ 64 := m65
  have m66 : γ 0 10 (9 * ρ 28 + 6) 4 = ρ 65 := m66
  have m67 : γ 0 10 (9 * ρ 28 + 6) 5 = ρ 66 := m67
  have m68 : γ 0 10 (9 * ρ 28 + 6) 8 = ρ 67 := m68
  have m69 : γ 0 10 (9 * ρ 28 + 6) 9 = ρ 68 := m69
  have m70 : γ 0 10 (9 * ρ 28 + 6) 10 = ρ 69 := m70
  have m71 : γ 0 10 (9 * ρ 28 + 6) 11 = ρ 70 := m71
  have m72 : γ 0 10 (9 * ρ 28 + 7) 4 = ρ 71 := m72
  have m73 : γ 0 10 (9 * ρ 28 + 7) 5 = ρ 72 := m73
  have m74 : γ 0 10 (9 * ρ 28 + 7) 8 = ρ 73 := m74
  have m75 : γ 0 10 (9 * ρ 28 + 7) 9 = ρ 74 := m75
  have m76 : γ 0 10 (9 * ρ 28 + 7) 10 = ρ 75 := m76
  have m77 : γ 0 10 (9 * ρ 28 + 7) 11 = ρ 76 := m77
  have m78 : γ 0 10 (9 * ρ 28 + 8) 4 = ρ 77 := m78
  have m79 : γ 0 10 (9 * ρ 28 + 8) 5 = ρ 78 := m79
  have m80 : γ 0 10 (9 * ρ 28 + 8) 8 = ρ 79 := m80
  have m81 : γ 0 10 (9 * ρ 28 + 8) 9 = ρ 80 := m81
  have m82 : γ 0 10 (9 * ρ 28 + 8) 10 = ρ 81 := m82
  have m83 : γ 0 10 (9 * ρ 28 + 8) 11 = ρ 82 := m83
  have m84 : γ 5 6 0 0 = ρ 83 := m84
  have m85 : γ 5 8 (ρ 26) 1 = ρ 84 := m85
  have m86 : γ 5 4 0 7 = ρ 85 := m86
  have m87 : γ 5 5 0 3 = ρ 86 := m87
  have m88 : γ 5 6 0 13 = ρ 87 := m88
  obtain ⟨⟨⟨⟨⟨-, c1⟩, c2⟩, c3⟩, c4⟩, c5⟩ := hc
  have c1 : ∀ (G : Nat) (k j : Int), ¬ rMdP m143_ G j → γ 1 G k j = γ 0 G k j := c1
  have c2 : ∀ (G : Nat) (k j : Int), ¬ rMdP m0_ G j → γ 2 G k j = γ 1 G k j := c2
  have c3 : ∀ (G : Nat) (k j : Int), ¬ rMdP m0_ G j → γ 3 G k j = γ 2 G k j := c3
  have c4 : ∀ (G : Nat) (k j : Int), ¬ rMdP m136_ G j → γ 4 G k j = γ 3 G k j := c4
  have c5 : ∀ (G : Nat) (k j : Int), ¬ rMdP m140_ G j → γ 5 G k j = γ 4 G k j := c5
  obtain ⟨l0, l1, l2, l3, -⟩ := hl
  have l0 : sn131 [ρ 11, ρ 22] (γ 1) 0 (ρ 22) (γ 2) := hS131 _ _ _ _ _ l0
  have l1 : sn234 [ρ 22, ρ 0, ρ 24] (γ 2) 0 1 (γ 3) := hS234 _ _ _ _ _ l1
  have l2 : sn238 [ρ 12, ρ 22, ρ 11, ρ 24, ρ 23, ρ 25, ρ 16, ρ 17, ρ 18, ρ 21] (γ 3) 0 0 (γ 4) := hS238 _ _ _ _ _ l2
  have l3 : sn261 [ρ 13, 0, ρ 26, ρ 27, ρ 28, ρ 2, ρ 14, ρ 15, ρ 11, ρ 12, ρ 19, ρ 20, 0, ρ 29, ρ 30, ρ 31, ρ 32, ρ 33, ρ 34, ρ 35, ρ 36, ρ 37, ρ 38, ρ 39, ρ 40, ρ 41, ρ 42, ρ 43, ρ 44, ρ 45, ρ 46, ρ 47, ρ 48, ρ 49, ρ 50, ρ 51, ρ 52, ρ 53, ρ 54, ρ 55, ρ 56, ρ 57, ρ 58, ρ 59, ρ 60, ρ 61, ρ 62, ρ 63, ρ 64, ρ 65, ρ 66, ρ 67, ρ 68, ρ 69, ρ 70, ρ 71, ρ 72, ρ 73, ρ 74, ρ 75, ρ 76, ρ 77, ρ 78, ρ 79, ρ 80, ρ 81, ρ 82] (γ 4) 1 0 (γ 5) := hS261 _ _ _ _ _ l3
  show sn264 [ρ 0, ρ 1, ρ 2, ρ 3, ρ 4, ρ 5, ρ 6, ρ 7, ρ 8, ρ 9, ρ 10] (γ 0) 1 0 (γ 5)
  have hD : en264 (γ 0) (1, [ρ 0, ρ 11, ρ 12], γ 1) = .inr (1, 0, γ 5) := by
    unfold en264
    refine (if_neg (show ¬ (1 : Nat) = 0 by decide)).trans ?_
    refine (if_pos (show (1 : Nat) = 1 by decide)).trans ?_
    refine (zLet_eq (show _ = γ 1 from rfl)).trans ?_
    refine (zLet_eq (show _ = ρ 0 from rfl)).trans ?_
    refine (zLet_eq (show _ = ρ 11 from rfl)).trans ?_
    refine (zLet_eq (show _ = ρ 12 from rfl)).trans ?_
    refine (zLet_eq m1).trans ?_
    refine (zLet_eq m11).trans ?_
    refine (zLet_eq m16).trans ?_
    refine (if_neg (show ¬ (ρ 11 ≥ ρ 2) by omega)).trans ?_
    refine (zLet_eq m19).trans ?_
    refine (zLet_eq (show fn131 [ρ 11] (γ 1) = (0, ρ 22, γ 2) from l0.symm)).trans ?_
    refine (zLet_eq (show _ = γ 2 from rfl)).trans ?_
    refine (if_pos (show ρ 12 = 1 by omega)).trans ?_
    refine (zLet_eq m20).trans ?_
    refine (if_neg (show ¬ (ρ 23 ≠ 0) by omega)).trans ?_
    refine (zLet_eq (show fn234 [ρ 22, ρ 0] (γ 2) = (0, 1, γ 3) from l1.symm)).trans ?_
    refine (zLet_eq (show _ = γ 3 from rfl)).trans ?_
    refine (if_pos (show (1 : Int) ≤ 1 by omega)).trans ?_
    refine (zLet_eq (show fn238 [ρ 12, ρ 22, ρ 11] (γ 3) = (0, 0, γ 4) from l2.symm)).trans ?_
    refine (zLet_eq (show _ = γ 4 from rfl)).trans ?_
    refine (zLet_eq (show fn261 [] (γ 4) = (1, 0, γ 5) from l3.symm)).trans ?_
    refine (zLet_eq (show _ = γ 5 from rfl)).trans ?_
    refine (if_neg (show ¬ (1 : Nat) = 0 by decide)).trans ?_
    refine (if_pos (show (1 : Nat) = 1 by decide)).trans ?_
    rfl
  exact zGoo_aend hJ hD
theorem vn264a1_6 {S : Nat → zSpc} (hS131 : ∀ x g o v gz, S 131 x g o v gz → sn131 x g o v gz) (hS234 : ∀ x g o v gz, S 234 x g o v gz → sn234 x g o v gz) (hS238 : ∀ x g o v gz, S 238 x g o v gz → sn238 x g o v gz) (hS261 : ∀ x g o v gz, S 261 x g o v gz → sn261 x g o v gz) {a : List Int} {g : rHp} : ∀ (ρ : Nat → Int) (γ : Nat → rHp), jn264 a g 1 (zAg (zNA a264_ 1) ρ) (γ 1) → zO 11 S a g q264a1_6 ρ γ → zGl (fun i vs g1 => jn264 a g i vs g1) (sn264 a g) q264a1_6 ρ γ := by
  intro ρ γ hJ h
  obtain ⟨ha, hg, hr, hf, hm, hc, hl⟩ := h
  have ha : a = [ρ 0, ρ 1, ρ 2, ρ 3, ρ 4, ρ 5, ρ 6, ρ 7, ρ 8, ρ 9, ρ 10] := ha
  subst ha
  subst hg
  have hJ : jn264 [ρ 0, ρ 1, ρ 2, ρ 3, ρ 4, ρ 5, ρ 6, ρ 7, ρ 8, ρ 9, ρ 10] (γ 0) 1 [ρ 0, ρ 1, ρ 2, ρ 3, ρ 4, ρ 5, ρ 6, ρ 7, ρ 8, ρ 9, ρ 10, ρ 11, ρ 12, ρ 13, ρ 14, ρ 15, ρ 16, ρ 17, ρ 18, ρ 19, ρ 20, ρ 21] (γ 1) := hJ
  obtain ⟨r0, r1, r2, r3, r4, r5, r6, r7, r8, r9, r10, r11, r12, r13, r14, r15, r16, r17, r18, r19, r20, r21, r22, r23, r24, r25, r26, r27, r28, r29, r30, r31, r32, r33, r34, r35, r36, r37, r38, r39, r40, r41, r42, r43, r44, r45, r46, r47, r48, r49, r50, r51, r52, r53, r54, r55, r56, r57, r58, r59, r60, r61, r62, r63, r64, r65, r66, r67, r68, r69, r70, r71, r72, r73, r74, r75, r76, r77, r78, r79, r80, r81, r82, r83, r84, r85, r86, r87, -⟩ := hr
  have r0 : ((-2147483648) : Int) ≤ ρ 0 ∧ ρ 0 ≤ 2147483647 := r0
  have r1 : (0 : Int) ≤ ρ 1 ∧ ρ 1 ≤ 50000 := r1
  have r2 : (0 : Int) ≤ ρ 2 ∧ ρ 2 ≤ 60 := r2
  have r3 : (0 : Int) ≤ ρ 3 ∧ ρ 3 ≤ 2000 := r3
  have r4 : (0 : Int) ≤ ρ 4 ∧ ρ 4 ≤ 2000 := r4
  have r5 : ((-2147483648) : Int) ≤ ρ 5 ∧ ρ 5 ≤ 2147483647 := r5
  have r6 : (0 : Int) ≤ ρ 6 ∧ ρ 6 ≤ 2 := r6
  have r7 : ((-2147483648) : Int) ≤ ρ 7 ∧ ρ 7 ≤ 2147483647 := r7
  have r8 : (0 : Int) ≤ ρ 8 ∧ ρ 8 ≤ 2000 := r8
  have r9 : (0 : Int) ≤ ρ 9 ∧ ρ 9 ≤ 2000 := r9
  have r10 : ((-2147483648) : Int) ≤ ρ 10 ∧ ρ 10 ≤ 2147483647 := r10
  have r11 : (0 : Int) ≤ ρ 11 ∧ ρ 11 ≤ 60 := r11
  have r12 : (1 : Int) ≤ ρ 12 ∧ ρ 12 ≤ 1 := r12
  have r13 : (0 : Int) ≤ ρ 13 ∧ ρ 13 ≤ 50000 := r13
  have r14 : (0 : Int) ≤ ρ 14 ∧ ρ 14 ≤ 2000 := r14
  have r15 : (0 : Int) ≤ ρ 15 ∧ ρ 15 ≤ 2000 := r15
  have r16 : ((-2147483648) : Int) ≤ ρ 16 ∧ ρ 16 ≤ 2147483647 := r16
  have r17 : (0 : Int) ≤ ρ 17 ∧ ρ 17 ≤ 2 := r17
  have r18 : ((-2147483648) : Int) ≤ ρ 18 ∧ ρ 18 ≤ 2147483647 := r18
  have r19 : (0 : Int) ≤ ρ 19 ∧ ρ 19 ≤ 2000 := r19
  have r20 : (0 : Int) ≤ ρ 20 ∧ ρ 20 ≤ 2000 := r20
  have r21 : ((-2147483648) : Int) ≤ ρ 21 ∧ ρ 21 ≤ 2147483647 := r21
  have r22 : (0 : Int) ≤ ρ 22 ∧ ρ 22 ≤ 60 := r22
  have r23 : (0 : Int) ≤ ρ 23 ∧ ρ 23 ≤ 0 := r23
  have r24 : (0 : Int) ≤ ρ 24 ∧ ρ 24 ≤ 19 := r24
  have r25 : ((-1) : Int) ≤ ρ 25 ∧ ρ 25 ≤ 7 := r25
  have r26 : (0 : Int) ≤ ρ 26 ∧ ρ 26 ≤ 2 := r26
  have r27 : (0 : Int) ≤ ρ 27 ∧ ρ 27 ≤ 50001 := r27
  have r28 : (0 : Int) ≤ ρ 28 ∧ ρ 28 ≤ 62 := r28
  have r29 : (1 : Int) ≤ ρ 29 ∧ ρ 29 ≤ 8 := r29
  have r30 : (0 : Int) ≤ ρ 30 ∧ ρ 30 ≤ 8 := r30
  have r31 : (0 : Int) ≤ ρ 31 ∧ ρ 31 ≤ 4 := r31
  have r32 : ((-1) : Int) ≤ ρ 32 ∧ ρ 32 ≤ 19 := r32
  have r33 : (0 : Int) ≤ ρ 33 ∧ ρ 33 ≤ 4 := r33
  have r34 : ((-1) : Int) ≤ ρ 34 ∧ ρ 34 ≤ 7 := r34
  have r35 : (1 : Int) ≤ ρ 35 ∧ ρ 35 ≤ 8 := r35
  have r36 : (0 : Int) ≤ ρ 36 ∧ ρ 36 ≤ 4 := r36
  have r37 : ((-1) : Int) ≤ ρ 37 ∧ ρ 37 ≤ 19 := r37
  have r38 : ((-1) : Int) ≤ ρ 38 ∧ ρ 38 ≤ 3 := r38
  have r39 : (0 : Int) ≤ ρ 39 ∧ ρ 39 ≤ 7 := r39
  have r40 : ((-1) : Int) ≤ ρ 40 ∧ ρ 40 ≤ 7 := r40
  have r41 : (0 : Int) ≤ ρ 41 ∧ ρ 41 ≤ 8 := r41
  have r42 : (0 : Int) ≤ ρ 42 ∧ ρ 42 ≤ 4 := r42
  have r43 : ((-1) : Int) ≤ ρ 43 ∧ ρ 43 ≤ 19 := r43
  have r44 : ((-1) : Int) ≤ ρ 44 ∧ ρ 44 ≤ 3 := r44
  have r45 : (0 : Int) ≤ ρ 45 ∧ ρ 45 ≤ 7 := r45
  have r46 : ((-1) : Int) ≤ ρ 46 ∧ ρ 46 ≤ 7 := r46
  have r47 : (0 : Int) ≤ ρ 47 ∧ ρ 47 ≤ 8 := r47
  have r48 : (0 : Int) ≤ ρ 48 ∧ ρ 48 ≤ 4 := r48
  have r49 : ((-1) : Int) ≤ ρ 49 ∧ ρ 49 ≤ 19 := r49
  have r50 : ((-1) : Int) ≤ ρ 50 ∧ ρ 50 ≤ 3 := r50
  have r51 : (0 : Int) ≤ ρ 51 ∧ ρ 51 ≤ 7 := r51
  have r52 : ((-1) : Int) ≤ ρ 52 ∧ ρ 52 ≤ 7 := r52
  have r53 : (0 : Int) ≤ ρ 53 ∧ ρ 53 ≤ 8 := r53
  have r54 : (0 : Int) ≤ ρ 54 ∧ ρ 54 ≤ 4 := r54
  have r55 : ((-1) : Int) ≤ ρ 55 ∧ ρ 55 ≤ 19 := r55
  have r56 : ((-1) : Int) ≤ ρ 56 ∧ ρ 56 ≤ 3 := r56
  have r57 : (0 : Int) ≤ ρ 57 ∧ ρ 57 ≤ 7 := r57
  have r58 : ((-1) : Int) ≤ ρ 58 ∧ ρ 58 ≤ 7 := r58
  have r59 : (0 : Int) ≤ ρ 59 ∧ ρ 59 ≤ 8 := r59
  have r60 : (0 : Int) ≤ ρ 60 ∧ ρ 60 ≤ 4 := r60
  have r61 : ((-1) : Int) ≤ ρ 61 ∧ ρ 61 ≤ 19 := r61
  have r62 : ((-1) : Int) ≤ ρ 62 ∧ ρ 62 ≤ 3 := r62
  have r63 : (0 : Int) ≤ ρ 63 ∧ ρ 63 ≤ 7 := r63
  have r64 : ((-1) : Int) ≤ ρ 64 ∧ ρ 64 ≤ 7 := r64
  have r65 : (0 : Int) ≤ ρ 65 ∧ ρ 65 ≤ 8 := r65
  have r66 : (0 : Int) ≤ ρ 66 ∧ ρ 66 ≤ 4 := r66
  have r67 : ((-1) : Int) ≤ ρ 67 ∧ ρ 67 ≤ 19 := r67
  have r68 : ((-1) : Int) ≤ ρ 68 ∧ ρ 68 ≤ 3 := r68
  have r69 : (0 : Int) ≤ ρ 69 ∧ ρ 69 ≤ 7 := r69
  have r70 : ((-1) : Int) ≤ ρ 70 ∧ ρ 70 ≤ 7 := r70
  have r71 : (0 : Int) ≤ ρ 71 ∧ ρ 71 ≤ 8 := r71
  have r72 : (0 : Int) ≤ ρ 72 ∧ ρ 72 ≤ 4 := r72
  have r73 : ((-1) : Int) ≤ ρ 73 ∧ ρ 73 ≤ 19 := r73
  have r74 : ((-1) : Int) ≤ ρ 74 ∧ ρ 74 ≤ 3 := r74
  have r75 : (0 : Int) ≤ ρ 75 ∧ ρ 75 ≤ 7 := r75
  have r76 : ((-1) : Int) ≤ ρ 76 ∧ ρ 76 ≤ 7 := r76
  have r77 : (0 : Int) ≤ ρ 77 ∧ ρ 77 ≤ 8 := r77
  have r78 : (0 : Int) ≤ ρ 78 ∧ ρ 78 ≤ 4 := r78
  have r79 : ((-1) : Int) ≤ ρ 79 ∧ ρ 79 ≤ 19 := r79
  have r80 : ((-1) : Int) ≤ ρ 80 ∧ ρ 80 ≤ 3 := r80
  have r81 : (0 : Int) ≤ ρ 81 ∧ ρ 81 ≤ 7 := r81
  have r82 : ((-1) : Int) ≤ ρ 82 ∧ ρ 82 ≤ 7 := r82
  have r83 : (50001 : Int) ≤ ρ 83 ∧ ρ 83 ≤ 50001 := r83
  have r84 : (0 : Int) ≤ ρ 84 ∧ ρ 84 ≤ 50001 := r84
  have r85 : (0 : Int) ≤ ρ 85 ∧ ρ 85 ≤ 2000 := r85
  have r86 : (0 : Int) ≤ ρ 86 ∧ ρ 86 ≤ 2000 := r86
  have r87 : ((-2147483648) : Int) ≤ ρ 87 ∧ ρ 87 ≤ 2147483647 := r87
  obtain ⟨f0, f1, f2, f3, f4, f5, f6, f7, f8, f9, f10, f11, f12, f13, -⟩ := hf
  have f0 : (0 : Int) ≤ ρ 84 + -ρ 27 := f0
  have f1 : (0 : Int) ≤ ρ 85 + -ρ 14 := f1
  have f2 : (0 : Int) ≤ ρ 86 + -ρ 15 := f2
  have f3 : (0 : Int) ≤ -ρ 84 + (ρ 83 + (ρ 27 + -ρ 13)) + 1 := f3
  have f4 : (0 : Int) ≤ -ρ 11 + ρ 2 + (-1) := f4
  have f5 : (0 : Int) ≤ -ρ 17 + ρ 6 := f5
  have f6 : (0 : Int) ≤ -ρ 11 + ρ 2 := f6
  have f7 : (0 : Int) ≤ ρ 20 + -ρ 3 := f7
  have f8 : (0 : Int) ≤ ρ 19 + -ρ 3 := f8
  have f9 : (0 : Int) ≤ -ρ 20 + ρ 19 := f9
  have f10 : (0 : Int) ≤ ρ 15 + -ρ 4 := f10
  have f11 : (0 : Int) ≤ ρ 14 + -ρ 3 := f11
  have f12 : (0 : Int) ≤ -ρ 19 + ρ 14 := f12
  have f13 : (0 : Int) ≤ ρ 13 + -ρ 1 := f13
  obtain ⟨m0, m1, m2, m3, m4, m5, m6, m7, m8, m9, m10, m11, m12, m13, m14, m15, m16, m17, m18, m19, m20, m21, m22, m23, m24, m25, m26, m27, m28, m29, m30, m31, m32, m33, m34, m35, m36, m37, m38, m39, m40, m41, m42, m43, m44, m45, m46, m47, m48, m49, m50, m51, m52, m53, m54, m55, m56, m57, m58, m59, m60, m61, m62, m63, m64, m65, m66, m67, m68, m69, m70, m71, m72, m73, m74, m75, m76, m77, m78, m79, m80, m81, m82, m83, m84, m85, m86, m87, m88, -⟩ := hm
  have m0 : γ 0 6 0 0 = ρ 1 := m0
  have m1 : γ 0 1 0 10 = ρ 2 := m1
  have m2 : γ 0 4 0 7 = ρ 3 := m2
  have m3 : γ 0 5 0 3 = ρ 4 := m3
  have m4 : γ 0 6 0 8 = ρ 5 := m4
  have m5 : γ 0 6 0 9 = ρ 6 := m5
  have m6 : γ 0 6 0 10 = ρ 7 := m6
  have m7 : γ 0 6 0 11 = ρ 8 := m7
  have m8 : γ 0 6 0 12 = ρ 9 := m8
  have m9 : γ 0 6 0 13 = ρ 10 := m9
  have m10 : γ 1 6 0 0 = ρ 13 := m10
  have m11 : γ 1 4 0 7 = ρ 14 := m11
  have m12 : γ 1 5 0 3 = ρ 15 := m12
  have m13 : γ 1 6 0 8 = ρ 16 := m13
  have m14 : γ 1 6 0 9 = ρ 17 := m14
  have m15 : γ 1 6 0 10 = ρ 18 := m15
  have m16 : γ 1 6 0 11 = ρ 19 := m16
  have m17 : γ 1 6 0 12 = ρ 20 := m17
  have m18 : γ 1 6 0 13 = ρ 21 := m18
  have m19 : γ 0 40 0 (ρ 11) = ρ 22 := m19
  have m20 : γ 0 10 (9 * ρ 22) 12 = ρ 23 := m20
  have m21 : γ 0 10 (9 * ρ 22) 8 = ρ 24 := m21
  have m22 : γ 0 10 (9 * ρ 22) 14 = ρ 25 := m22
  have m23 : γ 4 6 0 8 = ρ 11 := m23
  have m24 : γ 4 6 0 9 = 0 := m24
  have m25 : γ 4 6 0 10 = ρ 12 := m25
  have m26 : γ 4 6 0 13 = 0 := m26
  have m27 : γ 0 6 0 6 = ρ 26 := m27
  have m28 : γ 1 8 (ρ 26) 1 = ρ 27 := m28
  have m29 : γ 4 6 0 7 = ρ 28 := m29
  have m30 : γ 0 9 (ρ 28) 2 = ρ 29 := m30
  have m31 : γ 0 9 (ρ 28) 3 = ρ 30 := m31
  have m32 : γ 0 10 (9 * ρ 28) 5 = ρ 31 := m32
  have m33 : γ 0 10 (9 * ρ 28) 8 = ρ 32 := m33
  have m34 : γ 0 10 (9 * ρ 28) 12 = ρ 33 := m34
  have m35 : γ 0 10 (9 * ρ 28) 14 = ρ 34 := m35
  have m36 : γ 0 10 (9 * ρ 28 + 1) 4 = ρ 35 := m36
  have m37 : γ 0 10 (9 * ρ 28 + 1) 5 = ρ 36 := m37
  have m38 : γ 0 10 (9 * ρ 28 + 1) 8 = ρ 37 := m38
  have m39 : γ 0 10 (9 * ρ 28 + 1) 9 = ρ 38 := m39
  have m40 : γ 0 10 (9 * ρ 28 + 1) 10 = ρ 39 := m40
  have m41 : γ 0 10 (9 * ρ 28 + 1) 11 = ρ 40 := m41
  have m42 : γ 0 10 (9 * ρ 28 + 2) 4 = ρ 41 := m42
  have m43 : γ 0 10 (9 * ρ 28 + 2) 5 = ρ 42 := m43
  have m44 : γ 0 10 (9 * ρ 28 + 2) 8 = ρ 43 := m44
  have m45 : γ 0 10 (9 * ρ 28 + 2) 9 = ρ 44 := m45
  have m46 : γ 0 10 (9 * ρ 28 + 2) 10 = ρ 45 := m46
  have m47 : γ 0 10 (9 * ρ 28 + 2) 11 = ρ 46 := m47
  have m48 : γ 0 10 (9 * ρ 28 + 3) 4 = ρ 47 := m48
  have m49 : γ 0 10 (9 * ρ 28 + 3) 5 = ρ 48 := m49
  have m50 : γ 0 10 (9 * ρ 28 + 3) 8 = ρ 49 := m50
  have m51 : γ 0 10 (9 * ρ 28 + 3) 9 = ρ 50 := m51
  have m52 : γ 0 10 (9 * ρ 28 + 3) 10 = ρ 51 := m52
  have m53 : γ 0 10 (9 * ρ 28 + 3) 11 = ρ 52 := m53
  have m54 : γ 0 10 (9 * ρ 28 + 4) 4 = ρ 53 := m54
  have m55 : γ 0 10 (9 * ρ 28 + 4) 5 = ρ 54 := m55
  have m56 : γ 0 10 (9 * ρ 28 + 4) 8 = ρ 55 := m56
  have m57 : γ 0 10 (9 * ρ 28 + 4) 9 = ρ 56 := m57
  have m58 : γ 0 10 (9 * ρ 28 + 4) 10 = ρ 57 := m58
  have m59 : γ 0 10 (9 * ρ 28 + 4) 11 = ρ 58 := m59
  have m60 : γ 0 10 (9 * ρ 28 + 5) 4 = ρ 59 := m60
  have m61 : γ 0 10 (9 * ρ 28 + 5) 5 = ρ 60 := m61
  have m62 : γ 0 10 (9 * ρ 28 + 5) 8 = ρ 61 := m62
  have m63 : γ 0 10 (9 * ρ 28 + 5) 9 = ρ 62 := m63
  have m64 : γ 0 10 (9 * ρ 28 + 5) 10 = ρ 63 := m64
  have m65 : γ 0 10 (9 * ρ 28 + 5) 11 = ρ 64 := m65
  have m66 : γ 0 10 (9 * ρ 28 + 6) 4 = ρ 65 := m66
  have m67 : γ 0 10 (9 * ρ 28 + 6) 5 = ρ 66 := m67
  have m68 : γ 0 10 (9 * ρ 28 + 6) 8 = ρ 67 := m68
  have m69 : γ 0 10 (9 * ρ 28 + 6) 9 = ρ 68 := m69
  have m70 : γ 0 10 (9 * ρ 28 + 6) 10 = ρ 69 := m70
  have m71 : γ 0 10 (9 * ρ 28 + 6) 11 = ρ 70 := m71
  have m72 : γ 0 10 (9 * ρ 28 + 7) 4 = ρ 71 := m72
  have m73 : γ 0 10 (9 * ρ 28 + 7) 5 = ρ 72 := m73
  have m74 : γ 0 10 (9 * ρ 28 + 7) 8 = ρ 73 := m74
  have m75 : γ 0 10 (9 * ρ 28 + 7) 9 = ρ 74 := m75
  have m76 : γ 0 10 (9 * ρ 28 + 7) 10 = ρ 75 := m76
  have m77 : γ 0 10 (9 * ρ 28 + 7) 11 = ρ 76 := m77
  have m78 : γ 0 10 (9 * ρ 28 + 8) 4 = ρ 77 := m78
  have m79 : γ 0 10 (9 * ρ 28 + 8) 5 = ρ 78 := m79
  have m80 : γ 0 10 (9 * ρ 28 + 8) 8 = ρ 79 := m80
  have m81 : γ 0 10 (9 * ρ 28 + 8) 9 = ρ 80 := m81
  have m82 : γ 0 10 (9 * ρ 28 + 8) 10 = ρ 81 := m82
  have m83 : γ 0 10 (9 * ρ 28 + 8) 11 = ρ 82 := m83
  have m84 : γ 5 6 0 0 = ρ 83 := m84
  have m85 : γ 5 8 (ρ 26) 1 = ρ 84 := m85
  have m86 : γ 5 4 0 7 = ρ 85 := m86
  have m87 : γ 5 5 0 3 = ρ 86 := m87
  have m88 : γ 5 6 0 13 = ρ 87 := m88
  obtain ⟨⟨⟨⟨⟨-, c1⟩, c2⟩, c3⟩, c4⟩, c5⟩ := hc
  have c1 : ∀ (G : Nat) (k j : Int), ¬ rMdP m143_ G j → γ 1 G k j = γ 0 G k j := c1
  have c2 : ∀ (G : Nat) (k j : Int), ¬ rMdP m0_ G j → γ 2 G k j = γ 1 G k j := c2
  have c3 : ∀ (G : Nat) (k j : Int), ¬ rMdP m0_ G j → γ 3 G k j = γ 2 G k j := c3
  have c4 : ∀ (G : Nat) (k j : Int), ¬ rMdP m136_ G j → γ 4 G k j = γ 3 G k j := c4
  have c5 : ∀ (G : Nat) (k j : Int), ¬ rMdP m140_ G j → γ 5 G k j = γ 4 G k j := c5
  obtain ⟨l0, l1, l2, l3, -⟩ := hl
  have l0 : sn131 [ρ 11, ρ 22] (γ 1) 0 (ρ 22) (γ 2) := hS131 _ _ _ _ _ l0
  have l1 : sn234 [ρ 22, ρ 0, ρ 24] (γ 2) 0 1 (γ 3) := hS234 _ _ _ _ _ l1
  have l2 : sn238 [ρ 12, ρ 22, ρ 11, ρ 24, ρ 23, ρ 25, ρ 16, ρ 17, ρ 18, ρ 21] (γ 3) 0 0 (γ 4) := hS238 _ _ _ _ _ l2
  have l3 : sn261 [ρ 13, 0, ρ 26, ρ 27, ρ 28, ρ 2, ρ 14, ρ 15, ρ 11, ρ 12, ρ 19, ρ 20, 0, ρ 29, ρ 30, ρ 31, ρ 32, ρ 33, ρ 34, ρ 35, ρ 36, ρ 37, ρ 38, ρ 39, ρ 40, ρ 41, ρ 42, ρ 43, ρ 44, ρ 45, ρ 46, ρ 47, ρ 48, ρ 49, ρ 50, ρ 51, ρ 52, ρ 53, ρ 54, ρ 55, ρ 56, ρ 57, ρ 58, ρ 59, ρ 60, ρ 61, ρ 62, ρ 63, ρ 64, ρ 65, ρ 66, ρ 67, ρ 68, ρ 69, ρ 70, ρ 71, ρ 72, ρ 73, ρ 74, ρ 75, ρ 76, ρ 77, ρ 78, ρ 79, ρ 80, ρ 81, ρ 82] (γ 4) 4 0 (γ 5) := hS261 _ _ _ _ _ l3
  show sn264 [ρ 0, ρ 1, ρ 2, ρ 3, ρ 4, ρ 5, ρ 6, ρ 7, ρ 8, ρ 9, ρ 10] (γ 0) 4 0 (γ 5)
  have hD : en264 (γ 0) (1, [ρ 0, ρ 11, ρ 12], γ 1) = .inr (4, 0, γ 5) := by
    unfold en264
    refine (if_neg (show ¬ (1 : Nat) = 0 by decide)).trans ?_
    refine (if_pos (show (1 : Nat) = 1 by decide)).trans ?_
    refine (zLet_eq (show _ = γ 1 from rfl)).trans ?_
    refine (zLet_eq (show _ = ρ 0 from rfl)).trans ?_
    refine (zLet_eq (show _ = ρ 11 from rfl)).trans ?_
    refine (zLet_eq (show _ = ρ 12 from rfl)).trans ?_
    refine (zLet_eq m1).trans ?_
    refine (zLet_eq m11).trans ?_
    refine (zLet_eq m16).trans ?_
    refine (if_neg (show ¬ (ρ 11 ≥ ρ 2) by omega)).trans ?_
    refine (zLet_eq m19).trans ?_
    refine (zLet_eq (show fn131 [ρ 11] (γ 1) = (0, ρ 22, γ 2) from l0.symm)).trans ?_
    refine (zLet_eq (show _ = γ 2 from rfl)).trans ?_
    refine (if_pos (show ρ 12 = 1 by omega)).trans ?_
    refine (zLet_eq m20).trans ?_
    refine (if_neg (show ¬ (ρ 23 ≠ 0) by omega)).trans ?_
    refine (zLet_eq (show fn234 [ρ 22, ρ 0] (γ 2) = (0, 1, γ 3) from l1.symm)).trans ?_
    refine (zLet_eq (show _ = γ 3 from rfl)).trans ?_
    refine (if_pos (show (1 : Int) ≤ 1 by omega)).trans ?_
    refine (zLet_eq (show fn238 [ρ 12, ρ 22, ρ 11] (γ 3) = (0, 0, γ 4) from l2.symm)).trans ?_
    refine (zLet_eq (show _ = γ 4 from rfl)).trans ?_
    refine (zLet_eq (show fn261 [] (γ 4) = (4, 0, γ 5) from l3.symm)).trans ?_
    refine (zLet_eq (show _ = γ 5 from rfl)).trans ?_
    refine (if_neg (show ¬ (4 : Nat) = 0 by decide)).trans ?_
    refine (if_neg (show ¬ (4 : Nat) = 1 by decide)).trans ?_
    rfl
  exact zGoo_aend hJ hD
theorem vn264a1_7 {S : Nat → zSpc} (hS131 : ∀ x g o v gz, S 131 x g o v gz → sn131 x g o v gz) (hS234 : ∀ x g o v gz, S 234 x g o v gz → sn234 x g o v gz) (hS238 : ∀ x g o v gz, S 238 x g o v gz → sn238 x g o v gz) (hS261 : ∀ x g o v gz, S 261 x g o v gz → sn261 x g o v gz) {a : List Int} {g : rHp} : ∀ (ρ : Nat → Int) (γ : Nat → rHp), jn264 a g 1 (zAg (zNA a264_ 1) ρ) (γ 1) → zO 11 S a g q264a1_7 ρ γ → zGl (fun i vs g1 => jn264 a g i vs g1) (sn264 a g) q264a1_7 ρ γ := by
  intro ρ γ hJ h
  obtain ⟨ha, hg, hr, hf, hm, hc, hl⟩ := h
  have ha : a = [ρ 0, ρ 1, ρ 2, ρ 3, ρ 4, ρ 5, ρ 6, ρ 7, ρ 8, ρ 9, ρ 10] := ha
  subst ha
  subst hg
  have hJ : jn264 [ρ 0, ρ 1, ρ 2, ρ 3, ρ 4, ρ 5, ρ 6, ρ 7, ρ 8, ρ 9, ρ 10] (γ 0) 1 [ρ 0, ρ 1, ρ 2, ρ 3, ρ 4, ρ 5, ρ 6, ρ 7, ρ 8, ρ 9, ρ 10, ρ 11, ρ 12, ρ 13, ρ 14, ρ 15, ρ 16, ρ 17, ρ 18, ρ 19, ρ 20, ρ 21] (γ 1) := hJ
  obtain ⟨r0, r1, r2, r3, r4, r5, r6, r7, r8, r9, r10, r11, r12, r13, r14, r15, r16, r17, r18, r19, r20, r21, r22, r23, -⟩ := hr
  have r0 : ((-2147483648) : Int) ≤ ρ 0 ∧ ρ 0 ≤ 2147483647 := r0
  have r1 : (0 : Int) ≤ ρ 1 ∧ ρ 1 ≤ 50000 := r1
  have r2 : (0 : Int) ≤ ρ 2 ∧ ρ 2 ≤ 60 := r2
  have r3 : (0 : Int) ≤ ρ 3 ∧ ρ 3 ≤ 2000 := r3
  have r4 : (0 : Int) ≤ ρ 4 ∧ ρ 4 ≤ 2000 := r4
  have r5 : ((-2147483648) : Int) ≤ ρ 5 ∧ ρ 5 ≤ 2147483647 := r5
  have r6 : (0 : Int) ≤ ρ 6 ∧ ρ 6 ≤ 2 := r6
  have r7 : ((-2147483648) : Int) ≤ ρ 7 ∧ ρ 7 ≤ 2147483647 := r7
  have r8 : (0 : Int) ≤ ρ 8 ∧ ρ 8 ≤ 2000 := r8
  have r9 : (0 : Int) ≤ ρ 9 ∧ ρ 9 ≤ 2000 := r9
  have r10 : ((-2147483648) : Int) ≤ ρ 10 ∧ ρ 10 ≤ 2147483647 := r10
  have r11 : (0 : Int) ≤ ρ 11 ∧ ρ 11 ≤ 60 := r11
  have r12 : (2 : Int) ≤ ρ 12 ∧ ρ 12 ≤ 2001 := r12
  have r13 : (0 : Int) ≤ ρ 13 ∧ ρ 13 ≤ 50000 := r13
  have r14 : (0 : Int) ≤ ρ 14 ∧ ρ 14 ≤ 2000 := r14
  have r15 : (0 : Int) ≤ ρ 15 ∧ ρ 15 ≤ 2000 := r15
  have r16 : ((-2147483648) : Int) ≤ ρ 16 ∧ ρ 16 ≤ 2147483647 := r16
  have r17 : (0 : Int) ≤ ρ 17 ∧ ρ 17 ≤ 2 := r17
  have r18 : ((-2147483648) : Int) ≤ ρ 18 ∧ ρ 18 ≤ 2147483647 := r18
  have r19 : (0 : Int) ≤ ρ 19 ∧ ρ 19 ≤ 2000 := r19
  have r20 : (0 : Int) ≤ ρ 20 ∧ ρ 20 ≤ 2000 := r20
  have r21 : ((-2147483648) : Int) ≤ ρ 21 ∧ ρ 21 ≤ 2147483647 := r21
  have r22 : (0 : Int) ≤ ρ 22 ∧ ρ 22 ≤ 60 := r22
  have r23 : (0 : Int) ≤ ρ 23 ∧ ρ 23 ≤ 0 := r23
  obtain ⟨f0, f1, f2, f3, f4, f5, f6, f7, f8, f9, -⟩ := hf
  have f0 : (0 : Int) ≤ -ρ 11 + ρ 2 + (-1) := f0
  have f1 : (0 : Int) ≤ -ρ 17 + ρ 6 := f1
  have f2 : (0 : Int) ≤ -ρ 11 + ρ 2 := f2
  have f3 : (0 : Int) ≤ ρ 20 + -ρ 3 := f3
  have f4 : (0 : Int) ≤ ρ 19 + -ρ 3 := f4
  have f5 : (0 : Int) ≤ -ρ 20 + ρ 19 := f5
  have f6 : (0 : Int) ≤ ρ 15 + -ρ 4 := f6
  have f7 : (0 : Int) ≤ ρ 14 + -ρ 3 := f7
  have f8 : (0 : Int) ≤ -ρ 19 + ρ 14 := f8
  have f9 : (0 : Int) ≤ ρ 13 + -ρ 1 := f9
  obtain ⟨m0, m1, m2, m3, m4, m5, m6, m7, m8, m9, m10, m11, m12, m13, m14, m15, m16, m17, m18, m19, m20, -⟩ := hm
  have m0 : γ 0 6 0 0 = ρ 1 := m0
  have m1 : γ 0 1 0 10 = ρ 2 := m1
  have m2 : γ 0 4 0 7 = ρ 3 := m2
  have m3 : γ 0 5 0 3 = ρ 4 := m3
  have m4 : γ 0 6 0 8 = ρ 5 := m4
  have m5 : γ 0 6 0 9 = ρ 6 := m5
  have m6 : γ 0 6 0 10 = ρ 7 := m6
  have m7 : γ 0 6 0 11 = ρ 8 := m7
  have m8 : γ 0 6 0 12 = ρ 9 := m8
  have m9 : γ 0 6 0 13 = ρ 10 := m9
  have m10 : γ 1 6 0 0 = ρ 13 := m10
  have m11 : γ 1 4 0 7 = ρ 14 := m11
  have m12 : γ 1 5 0 3 = ρ 15 := m12
  have m13 : γ 1 6 0 8 = ρ 16 := m13
  have m14 : γ 1 6 0 9 = ρ 17 := m14
  have m15 : γ 1 6 0 10 = ρ 18 := m15
  have m16 : γ 1 6 0 11 = ρ 19 := m16
  have m17 : γ 1 6 0 12 = ρ 20 := m17
  have m18 : γ 1 6 0 13 = ρ 21 := m18
  have m19 : γ 0 40 0 (ρ 11) = ρ 22 := m19
  have m20 : γ 0 9 (ρ 22) 3 = ρ 23 := m20
  obtain ⟨⟨-, c1⟩, c2⟩ := hc
  have c1 : ∀ (G : Nat) (k j : Int), ¬ rMdP m143_ G j → γ 1 G k j = γ 0 G k j := c1
  have c2 : ∀ (G : Nat) (k j : Int), ¬ rMdP m0_ G j → γ 2 G k j = γ 1 G k j := c2
  obtain ⟨l0, -⟩ := hl
  have l0 : sn131 [ρ 11, ρ 22] (γ 1) 0 (ρ 22) (γ 2) := hS131 _ _ _ _ _ l0
  show jn264 [ρ 0, ρ 1, ρ 2, ρ 3, ρ 4, ρ 5, ρ 6, ρ 7, ρ 8, ρ 9, ρ 10] (γ 0) 1 [ρ 0, ρ 1, ρ 2, ρ 3, ρ 4, ρ 5, ρ 6, ρ 7, ρ 8, ρ 9, ρ 10, ρ 11 + 1, ρ 12, ρ 13, ρ 14, ρ 15, ρ 16, ρ 17, ρ 18, ρ 19, ρ 20, ρ 21] (γ 2)
  have hD : en264 (γ 0) (1, [ρ 0, ρ 11, ρ 12], γ 1) = .inl (1, [ρ 0, ρ 11 + 1, ρ 12], γ 2) := by
    unfold en264
    refine (if_neg (show ¬ (1 : Nat) = 0 by decide)).trans ?_
    refine (if_pos (show (1 : Nat) = 1 by decide)).trans ?_
    refine (zLet_eq (show _ = γ 1 from rfl)).trans ?_
    refine (zLet_eq (show _ = ρ 0 from rfl)).trans ?_
    refine (zLet_eq (show _ = ρ 11 from rfl)).trans ?_
    refine (zLet_eq (show _ = ρ 12 from rfl)).trans ?_
    refine (zLet_eq m1).trans ?_
    refine (zLet_eq m11).trans ?_
    refine (zLet_eq m16).trans ?_
    refine (if_neg (show ¬ (ρ 11 ≥ ρ 2) by omega)).trans ?_
    refine (zLet_eq m19).trans ?_
    refine (zLet_eq (show fn131 [ρ 11] (γ 1) = (0, ρ 22, γ 2) from l0.symm)).trans ?_
    refine (zLet_eq (show _ = γ 2 from rfl)).trans ?_
    refine (if_neg (show ¬ (ρ 12 = 1) by omega)).trans ?_
    refine (zLet_eq m20).trans ?_
    refine (if_pos (show ρ 23 ≤ 0 by omega)).trans ?_
    rfl
  exact zGoo_ato hJ hD
theorem vn264a1_8 {S : Nat → zSpc} (hS131 : ∀ x g o v gz, S 131 x g o v gz → sn131 x g o v gz) (hS234 : ∀ x g o v gz, S 234 x g o v gz → sn234 x g o v gz) (hS238 : ∀ x g o v gz, S 238 x g o v gz → sn238 x g o v gz) (hS261 : ∀ x g o v gz, S 261 x g o v gz → sn261 x g o v gz) {a : List Int} {g : rHp} : ∀ (ρ : Nat → Int) (γ : Nat → rHp), jn264 a g 1 (zAg (zNA a264_ 1) ρ) (γ 1) → zO 11 S a g q264a1_8 ρ γ → zGl (fun i vs g1 => jn264 a g i vs g1) (sn264 a g) q264a1_8 ρ γ := by
  intro ρ γ hJ h
  obtain ⟨ha, hg, hr, hf, hm, hc, hl⟩ := h
  have ha : a = [ρ 0, ρ 1, ρ 2, ρ 3, ρ 4, ρ 5, ρ 6, ρ 7, ρ 8, ρ 9, ρ 10] := ha
  subst ha
  subst hg
  have hJ : jn264 [ρ 0, ρ 1, ρ 2, ρ 3, ρ 4, ρ 5, ρ 6, ρ 7, ρ 8, ρ 9, ρ 10] (γ 0) 1 [ρ 0, ρ 1, ρ 2, ρ 3, ρ 4, ρ 5, ρ 6, ρ 7, ρ 8, ρ 9, ρ 10, ρ 11, ρ 12, ρ 13, ρ 14, ρ 15, ρ 16, ρ 17, ρ 18, ρ 19, ρ 20, ρ 21] (γ 1) := hJ
  obtain ⟨r0, r1, r2, r3, r4, r5, r6, r7, r8, r9, r10, r11, r12, r13, r14, r15, r16, r17, r18, r19, r20, r21, r22, r23, r24, r25, -⟩ := hr
  have r0 : ((-2147483648) : Int) ≤ ρ 0 ∧ ρ 0 ≤ 2147483647 := r0
  have r1 : (0 : Int) ≤ ρ 1 ∧ ρ 1 ≤ 50000 := r1
  have r2 : (0 : Int) ≤ ρ 2 ∧ ρ 2 ≤ 60 := r2
  have r3 : (0 : Int) ≤ ρ 3 ∧ ρ 3 ≤ 2000 := r3
  have r4 : (0 : Int) ≤ ρ 4 ∧ ρ 4 ≤ 2000 := r4
  have r5 : ((-2147483648) : Int) ≤ ρ 5 ∧ ρ 5 ≤ 2147483647 := r5
  have r6 : (0 : Int) ≤ ρ 6 ∧ ρ 6 ≤ 2 := r6
  have r7 : ((-2147483648) : Int) ≤ ρ 7 ∧ ρ 7 ≤ 2147483647 := r7
  have r8 : (0 : Int) ≤ ρ 8 ∧ ρ 8 ≤ 2000 := r8
  have r9 : (0 : Int) ≤ ρ 9 ∧ ρ 9 ≤ 2000 := r9
  have r10 : ((-2147483648) : Int) ≤ ρ 10 ∧ ρ 10 ≤ 2147483647 := r10
  have r11 : (0 : Int) ≤ ρ 11 ∧ ρ 11 ≤ 60 := r11
  have r12 : (2 : Int) ≤ ρ 12 ∧ ρ 12 ≤ 2001 := r12
  have r13 : (0 : Int) ≤ ρ 13 ∧ ρ 13 ≤ 50000 := r13
  have r14 : (0 : Int) ≤ ρ 14 ∧ ρ 14 ≤ 2000 := r14
  have r15 : (0 : Int) ≤ ρ 15 ∧ ρ 15 ≤ 2000 := r15
  have r16 : ((-2147483648) : Int) ≤ ρ 16 ∧ ρ 16 ≤ 2147483647 := r16
  have r17 : (0 : Int) ≤ ρ 17 ∧ ρ 17 ≤ 2 := r17
  have r18 : ((-2147483648) : Int) ≤ ρ 18 ∧ ρ 18 ≤ 2147483647 := r18
  have r19 : (0 : Int) ≤ ρ 19 ∧ ρ 19 ≤ 2000 := r19
  have r20 : (0 : Int) ≤ ρ 20 ∧ ρ 20 ≤ 2000 := r20
  have r21 : ((-2147483648) : Int) ≤ ρ 21 ∧ ρ 21 ≤ 2147483647 := r21
  have r22 : (0 : Int) ≤ ρ 22 ∧ ρ 22 ≤ 60 := r22
  have r23 : (1 : Int) ≤ ρ 23 ∧ ρ 23 ≤ 8 := r23
  have r24 : (1 : Int) ≤ ρ 24 ∧ ρ 24 ≤ 4 := r24
  have r25 : (0 : Int) ≤ ρ 25 ∧ ρ 25 ≤ 19 := r25
  obtain ⟨f0, f1, f2, f3, f4, f5, f6, f7, f8, f9, -⟩ := hf
  have f0 : (0 : Int) ≤ -ρ 11 + ρ 2 + (-1) := f0
  have f1 : (0 : Int) ≤ -ρ 17 + ρ 6 := f1
  have f2 : (0 : Int) ≤ -ρ 11 + ρ 2 := f2
  have f3 : (0 : Int) ≤ ρ 20 + -ρ 3 := f3
  have f4 : (0 : Int) ≤ ρ 19 + -ρ 3 := f4
  have f5 : (0 : Int) ≤ -ρ 20 + ρ 19 := f5
  have f6 : (0 : Int) ≤ ρ 15 + -ρ 4 := f6
  have f7 : (0 : Int) ≤ ρ 14 + -ρ 3 := f7
  have f8 : (0 : Int) ≤ -ρ 19 + ρ 14 := f8
  have f9 : (0 : Int) ≤ ρ 13 + -ρ 1 := f9
  obtain ⟨m0, m1, m2, m3, m4, m5, m6, m7, m8, m9, m10, m11, m12, m13, m14, m15, m16, m17, m18, m19, m20, m21, m22, -⟩ := hm
  have m0 : γ 0 6 0 0 = ρ 1 := m0
  have m1 : γ 0 1 0 10 = ρ 2 := m1
  have m2 : γ 0 4 0 7 = ρ 3 := m2
  have m3 : γ 0 5 0 3 = ρ 4 := m3
  have m4 : γ 0 6 0 8 = ρ 5 := m4
  have m5 : γ 0 6 0 9 = ρ 6 := m5
  have m6 : γ 0 6 0 10 = ρ 7 := m6
  have m7 : γ 0 6 0 11 = ρ 8 := m7
  have m8 : γ 0 6 0 12 = ρ 9 := m8
  have m9 : γ 0 6 0 13 = ρ 10 := m9
  have m10 : γ 1 6 0 0 = ρ 13 := m10
  have m11 : γ 1 4 0 7 = ρ 14 := m11
  have m12 : γ 1 5 0 3 = ρ 15 := m12
  have m13 : γ 1 6 0 8 = ρ 16 := m13
  have m14 : γ 1 6 0 9 = ρ 17 := m14
  have m15 : γ 1 6 0 10 = ρ 18 := m15
  have m16 : γ 1 6 0 11 = ρ 19 := m16
  have m17 : γ 1 6 0 12 = ρ 20 := m17
  have m18 : γ 1 6 0 13 = ρ 21 := m18
  have m19 : γ 0 40 0 (ρ 11) = ρ 22 := m19
  have m20 : γ 0 9 (ρ 22) 3 = ρ 23 := m20
  have m21 : γ 0 10 (9 * ρ 22) 12 = ρ 24 := m21
  have m22 : γ 0 10 (9 * ρ 22) 8 = ρ 25 := m22
  obtain ⟨⟨-, c1⟩, c2⟩ := hc
  have c1 : ∀ (G : Nat) (k j : Int), ¬ rMdP m143_ G j → γ 1 G k j = γ 0 G k j := c1
  have c2 : ∀ (G : Nat) (k j : Int), ¬ rMdP m0_ G j → γ 2 G k j = γ 1 G k j := c2
  obtain ⟨l0, -⟩ := hl
  have l0 : sn131 [ρ 11, ρ 22] (γ 1) 0 (ρ 22) (γ 2) := hS131 _ _ _ _ _ l0
  show jn264 [ρ 0, ρ 1, ρ 2, ρ 3, ρ 4, ρ 5, ρ 6, ρ 7, ρ 8, ρ 9, ρ 10] (γ 0) 1 [ρ 0, ρ 1, ρ 2, ρ 3, ρ 4, ρ 5, ρ 6, ρ 7, ρ 8, ρ 9, ρ 10, ρ 11 + 1, ρ 12, ρ 13, ρ 14, ρ 15, ρ 16, ρ 17, ρ 18, ρ 19, ρ 20, ρ 21] (γ 2)
  have hD : en264 (γ 0) (1, [ρ 0, ρ 11, ρ 12], γ 1) = .inl (1, [ρ 0, ρ 11 + 1, ρ 12], γ 2) := by
    unfold en264
    refine (if_neg (show ¬ (1 : Nat) = 0 by decide)).trans ?_
    refine (if_pos (show (1 : Nat) = 1 by decide)).trans ?_
    refine (zLet_eq (show _ = γ 1 from rfl)).trans ?_
    refine (zLet_eq (show _ = ρ 0 from rfl)).trans ?_
    refine (zLet_eq (show _ = ρ 11 from rfl)).trans ?_
    refine (zLet_eq (show _ = ρ 12 from rfl)).trans ?_
    refine (zLet_eq m1).trans ?_
    refine (zLet_eq m11).trans ?_
    refine (zLet_eq m16).trans ?_
    refine (if_neg (show ¬ (ρ 11 ≥ ρ 2) by omega)).trans ?_
    refine (zLet_eq m19).trans ?_
    refine (zLet_eq (show fn131 [ρ 11] (γ 1) = (0, ρ 22, γ 2) from l0.symm)).trans ?_
    refine (zLet_eq (show _ = γ 2 from rfl)).trans ?_
    refine (if_neg (show ¬ (ρ 12 = 1) by omega)).trans ?_
    refine (zLet_eq m20).trans ?_
    refine (if_neg (show ¬ (ρ 23 ≤ 0) by omega)).trans ?_
    refine (zLet_eq m21).trans ?_
    refine (if_pos (show ρ 24 ≠ 0 by omega)).trans ?_
    rfl
  exact zGoo_ato hJ hD
theorem vn264a1_9 {S : Nat → zSpc} (hS131 : ∀ x g o v gz, S 131 x g o v gz → sn131 x g o v gz) (hS234 : ∀ x g o v gz, S 234 x g o v gz → sn234 x g o v gz) (hS238 : ∀ x g o v gz, S 238 x g o v gz → sn238 x g o v gz) (hS261 : ∀ x g o v gz, S 261 x g o v gz → sn261 x g o v gz) {a : List Int} {g : rHp} : ∀ (ρ : Nat → Int) (γ : Nat → rHp), jn264 a g 1 (zAg (zNA a264_ 1) ρ) (γ 1) → zO 11 S a g q264a1_9 ρ γ → zGl (fun i vs g1 => jn264 a g i vs g1) (sn264 a g) q264a1_9 ρ γ := by
  intro ρ γ hJ h
  obtain ⟨ha, hg, hr, hf, hm, hc, hl⟩ := h
  have ha : a = [ρ 0, ρ 1, ρ 2, ρ 3, ρ 4, ρ 5, ρ 6, ρ 7, ρ 8, ρ 9, ρ 10] := ha
  subst ha
  subst hg
  have hJ : jn264 [ρ 0, ρ 1, ρ 2, ρ 3, ρ 4, ρ 5, ρ 6, ρ 7, ρ 8, ρ 9, ρ 10] (γ 0) 1 [ρ 0, ρ 1, ρ 2, ρ 3, ρ 4, ρ 5, ρ 6, ρ 7, ρ 8, ρ 9, ρ 10, ρ 11, ρ 12, ρ 13, ρ 14, ρ 15, ρ 16, ρ 17, ρ 18, ρ 19, ρ 20, ρ 21] (γ 1) := hJ
  obtain ⟨r0, r1, r2, r3, r4, r5, r6, r7, r8, r9, r10, r11, r12, r13, r14, r15, r16, r17, r18, r19, r20, r21, r22, r23, r24, r25, -⟩ := hr
  have r0 : ((-2147483648) : Int) ≤ ρ 0 ∧ ρ 0 ≤ 2147483647 := r0
  have r1 : (0 : Int) ≤ ρ 1 ∧ ρ 1 ≤ 50000 := r1
  have r2 : (0 : Int) ≤ ρ 2 ∧ ρ 2 ≤ 60 := r2
  have r3 : (0 : Int) ≤ ρ 3 ∧ ρ 3 ≤ 2000 := r3
  have r4 : (0 : Int) ≤ ρ 4 ∧ ρ 4 ≤ 2000 := r4
  have r5 : ((-2147483648) : Int) ≤ ρ 5 ∧ ρ 5 ≤ 2147483647 := r5
  have r6 : (0 : Int) ≤ ρ 6 ∧ ρ 6 ≤ 2 := r6
  have r7 : ((-2147483648) : Int) ≤ ρ 7 ∧ ρ 7 ≤ 2147483647 := r7
  have r8 : (0 : Int) ≤ ρ 8 ∧ ρ 8 ≤ 2000 := r8
  have r9 : (0 : Int) ≤ ρ 9 ∧ ρ 9 ≤ 2000 := r9
  have r10 : ((-2147483648) : Int) ≤ ρ 10 ∧ ρ 10 ≤ 2147483647 := r10
  have r11 : (0 : Int) ≤ ρ 11 ∧ ρ 11 ≤ 60 := r11
  have r12 : (2 : Int) ≤ ρ 12 ∧ ρ 12 ≤ 2001 := r12
  have r13 : (0 : Int) ≤ ρ 13 ∧ ρ 13 ≤ 50000 := r13
  have r14 : (0 : Int) ≤ ρ 14 ∧ ρ 14 ≤ 2000 := r14
  have r15 : (0 : Int) ≤ ρ 15 ∧ ρ 15 ≤ 2000 := r15
  have r16 : ((-2147483648) : Int) ≤ ρ 16 ∧ ρ 16 ≤ 2147483647 := r16
  have r17 : (0 : Int) ≤ ρ 17 ∧ ρ 17 ≤ 2 := r17
  have r18 : ((-2147483648) : Int) ≤ ρ 18 ∧ ρ 18 ≤ 2147483647 := r18
  have r19 : (0 : Int) ≤ ρ 19 ∧ ρ 19 ≤ 2000 := r19
  have r20 : (0 : Int) ≤ ρ 20 ∧ ρ 20 ≤ 2000 := r20
  have r21 : ((-2147483648) : Int) ≤ ρ 21 ∧ ρ 21 ≤ 2147483647 := r21
  have r22 : (0 : Int) ≤ ρ 22 ∧ ρ 22 ≤ 60 := r22
  have r23 : (1 : Int) ≤ ρ 23 ∧ ρ 23 ≤ 8 := r23
  have r24 : (0 : Int) ≤ ρ 24 ∧ ρ 24 ≤ 0 := r24
  have r25 : (0 : Int) ≤ ρ 25 ∧ ρ 25 ≤ 19 := r25
  obtain ⟨f0, f1, f2, f3, f4, f5, f6, f7, f8, f9, -⟩ := hf
  have f0 : (0 : Int) ≤ -ρ 11 + ρ 2 + (-1) := f0
  have f1 : (0 : Int) ≤ -ρ 17 + ρ 6 := f1
  have f2 : (0 : Int) ≤ -ρ 11 + ρ 2 := f2
  have f3 : (0 : Int) ≤ ρ 20 + -ρ 3 := f3
  have f4 : (0 : Int) ≤ ρ 19 + -ρ 3 := f4
  have f5 : (0 : Int) ≤ -ρ 20 + ρ 19 := f5
  have f6 : (0 : Int) ≤ ρ 15 + -ρ 4 := f6
  have f7 : (0 : Int) ≤ ρ 14 + -ρ 3 := f7
  have f8 : (0 : Int) ≤ -ρ 19 + ρ 14 := f8
  have f9 : (0 : Int) ≤ ρ 13 + -ρ 1 := f9
  obtain ⟨m0, m1, m2, m3, m4, m5, m6, m7, m8, m9, m10, m11, m12, m13, m14, m15, m16, m17, m18, m19, m20, m21, m22, -⟩ := hm
  have m0 : γ 0 6 0 0 = ρ 1 := m0
  have m1 : γ 0 1 0 10 = ρ 2 := m1
  have m2 : γ 0 4 0 7 = ρ 3 := m2
  have m3 : γ 0 5 0 3 = ρ 4 := m3
  have m4 : γ 0 6 0 8 = ρ 5 := m4
  have m5 : γ 0 6 0 9 = ρ 6 := m5
  have m6 : γ 0 6 0 10 = ρ 7 := m6
  have m7 : γ 0 6 0 11 = ρ 8 := m7
  have m8 : γ 0 6 0 12 = ρ 9 := m8
  have m9 : γ 0 6 0 13 = ρ 10 := m9
  have m10 : γ 1 6 0 0 = ρ 13 := m10
  have m11 : γ 1 4 0 7 = ρ 14 := m11
  have m12 : γ 1 5 0 3 = ρ 15 := m12
  have m13 : γ 1 6 0 8 = ρ 16 := m13
  have m14 : γ 1 6 0 9 = ρ 17 := m14
  have m15 : γ 1 6 0 10 = ρ 18 := m15
  have m16 : γ 1 6 0 11 = ρ 19 := m16
  have m17 : γ 1 6 0 12 = ρ 20 := m17
  have m18 : γ 1 6 0 13 = ρ 21 := m18
  have m19 : γ 0 40 0 (ρ 11) = ρ 22 := m19
  have m20 : γ 0 9 (ρ 22) 3 = ρ 23 := m20
  have m21 : γ 0 10 (9 * ρ 22) 12 = ρ 24 := m21
  have m22 : γ 0 10 (9 * ρ 22) 8 = ρ 25 := m22
  obtain ⟨⟨⟨-, c1⟩, c2⟩, c3⟩ := hc
  have c1 : ∀ (G : Nat) (k j : Int), ¬ rMdP m143_ G j → γ 1 G k j = γ 0 G k j := c1
  have c2 : ∀ (G : Nat) (k j : Int), ¬ rMdP m0_ G j → γ 2 G k j = γ 1 G k j := c2
  have c3 : ∀ (G : Nat) (k j : Int), ¬ rMdP m0_ G j → γ 3 G k j = γ 2 G k j := c3
  obtain ⟨l0, l1, -⟩ := hl
  have l0 : sn131 [ρ 11, ρ 22] (γ 1) 0 (ρ 22) (γ 2) := hS131 _ _ _ _ _ l0
  have l1 : sn234 [ρ 22, ρ 0, ρ 25] (γ 2) 0 0 (γ 3) := hS234 _ _ _ _ _ l1
  show jn264 [ρ 0, ρ 1, ρ 2, ρ 3, ρ 4, ρ 5, ρ 6, ρ 7, ρ 8, ρ 9, ρ 10] (γ 0) 1 [ρ 0, ρ 1, ρ 2, ρ 3, ρ 4, ρ 5, ρ 6, ρ 7, ρ 8, ρ 9, ρ 10, ρ 11 + 1, ρ 12, ρ 13, ρ 14, ρ 15, ρ 16, ρ 17, ρ 18, ρ 19, ρ 20, ρ 21] (γ 3)
  have hD : en264 (γ 0) (1, [ρ 0, ρ 11, ρ 12], γ 1) = .inl (1, [ρ 0, ρ 11 + 1, ρ 12], γ 3) := by
    unfold en264
    refine (if_neg (show ¬ (1 : Nat) = 0 by decide)).trans ?_
    refine (if_pos (show (1 : Nat) = 1 by decide)).trans ?_
    refine (zLet_eq (show _ = γ 1 from rfl)).trans ?_
    refine (zLet_eq (show _ = ρ 0 from rfl)).trans ?_
    refine (zLet_eq (show _ = ρ 11 from rfl)).trans ?_
    refine (zLet_eq (show _ = ρ 12 from rfl)).trans ?_
    refine (zLet_eq m1).trans ?_
    refine (zLet_eq m11).trans ?_
    refine (zLet_eq m16).trans ?_
    refine (if_neg (show ¬ (ρ 11 ≥ ρ 2) by omega)).trans ?_
    refine (zLet_eq m19).trans ?_
    refine (zLet_eq (show fn131 [ρ 11] (γ 1) = (0, ρ 22, γ 2) from l0.symm)).trans ?_
    refine (zLet_eq (show _ = γ 2 from rfl)).trans ?_
    refine (if_neg (show ¬ (ρ 12 = 1) by omega)).trans ?_
    refine (zLet_eq m20).trans ?_
    refine (if_neg (show ¬ (ρ 23 ≤ 0) by omega)).trans ?_
    refine (zLet_eq m21).trans ?_
    refine (if_neg (show ¬ (ρ 24 ≠ 0) by omega)).trans ?_
    refine (zLet_eq (show fn234 [ρ 22, ρ 0] (γ 2) = (0, 0, γ 3) from l1.symm)).trans ?_
    refine (zLet_eq (show _ = γ 3 from rfl)).trans ?_
    refine (if_neg (show ¬ ((1 : Int) ≤ 0) by omega)).trans ?_
    rfl
  exact zGoo_ato hJ hD
theorem vn264a1_10 {S : Nat → zSpc} (hS131 : ∀ x g o v gz, S 131 x g o v gz → sn131 x g o v gz) (hS234 : ∀ x g o v gz, S 234 x g o v gz → sn234 x g o v gz) (hS238 : ∀ x g o v gz, S 238 x g o v gz → sn238 x g o v gz) (hS261 : ∀ x g o v gz, S 261 x g o v gz → sn261 x g o v gz) {a : List Int} {g : rHp} : ∀ (ρ : Nat → Int) (γ : Nat → rHp), jn264 a g 1 (zAg (zNA a264_ 1) ρ) (γ 1) → zO 11 S a g q264a1_10 ρ γ → zGl (fun i vs g1 => jn264 a g i vs g1) (sn264 a g) q264a1_10 ρ γ := by
  intro ρ γ hJ h
  obtain ⟨ha, hg, hr, hf, hm, hc, hl⟩ := h
  have ha : a = [ρ 0, ρ 1, ρ 2, ρ 3, ρ 4, ρ 5, ρ 6, ρ 7, ρ 8, ρ 9, ρ 10] := ha
  subst ha
  subst hg
  have hJ : jn264 [ρ 0, ρ 1, ρ 2, ρ 3, ρ 4, ρ 5, ρ 6, ρ 7, ρ 8, ρ 9, ρ 10] (γ 0) 1 [ρ 0, ρ 1, ρ 2, ρ 3, ρ 4, ρ 5, ρ 6, ρ 7, ρ 8, ρ 9, ρ 10, ρ 11, ρ 12, ρ 13, ρ 14, ρ 15, ρ 16, ρ 17, ρ 18, ρ 19, ρ 20, ρ 21] (γ 1) := hJ
  obtain ⟨r0, r1, r2, r3, r4, r5, r6, r7, r8, r9, r10, r11, r12, r13, r14, r15, r16, r17, r18, r19, r20, r21, r22, r23, r24, r25, r26, r27, r28, r29, r30, r31, r32, r33, r34, r35, r36, r37, r38, r39, r40, r41, r42, r43, r44, r45, r46, r47, r48, r49, r50, r51, r52, r53, r54, r55, r56, r57, r58, r59, r60, r61, r62, r63, r64, r65, r66, r67, r68, r69, r70, r71, r72, r73, r74, r75, r76, r77, r78, r79, r80, r81, r82, r83, r84, r85, r86, r87, r88, -⟩ := hr
  have r0 : ((-2147483648) : Int) ≤ ρ 0 ∧ ρ 0 ≤ 2147483647 := r0
  have r1 : (0 : Int) ≤ ρ 1 ∧ ρ 1 ≤ 50000 := r1
  have r2 : (0 : Int) ≤ ρ 2 ∧ ρ 2 ≤ 60 := r2
  have r3 : (0 : Int) ≤ ρ 3 ∧ ρ 3 ≤ 2000 := r3
  have r4 : (0 : Int) ≤ ρ 4 ∧ ρ 4 ≤ 2000 := r4
  have r5 : ((-2147483648) : Int) ≤ ρ 5 ∧ ρ 5 ≤ 2147483647 := r5
  have r6 : (0 : Int) ≤ ρ 6 ∧ ρ 6 ≤ 2 := r6
  have r7 : ((-2147483648) : Int) ≤ ρ 7 ∧ ρ 7 ≤ 2147483647 := r7
  have r8 : (0 : Int) ≤ ρ 8 ∧ ρ 8 ≤ 2000 := r8
  have r9 : (0 : Int) ≤ ρ 9 ∧ ρ 9 ≤ 2000 := r9
  have r10 : ((-2147483648) : Int) ≤ ρ 10 ∧ ρ 10 ≤ 2147483647 := r10
  have r11 : (0 : Int) ≤ ρ 11 ∧ ρ 11 ≤ 60 := r11
  have r12 : (2 : Int) ≤ ρ 12 ∧ ρ 12 ≤ 2001 := r12
  have r13 : (0 : Int) ≤ ρ 13 ∧ ρ 13 ≤ 50000 := r13
  have r14 : (0 : Int) ≤ ρ 14 ∧ ρ 14 ≤ 2000 := r14
  have r15 : (0 : Int) ≤ ρ 15 ∧ ρ 15 ≤ 2000 := r15
  have r16 : ((-2147483648) : Int) ≤ ρ 16 ∧ ρ 16 ≤ 2147483647 := r16
  have r17 : (0 : Int) ≤ ρ 17 ∧ ρ 17 ≤ 2 := r17
  have r18 : ((-2147483648) : Int) ≤ ρ 18 ∧ ρ 18 ≤ 2147483647 := r18
  have r19 : (0 : Int) ≤ ρ 19 ∧ ρ 19 ≤ 2000 := r19
  have r20 : (0 : Int) ≤ ρ 20 ∧ ρ 20 ≤ 2000 := r20
  have r21 : ((-2147483648) : Int) ≤ ρ 21 ∧ ρ 21 ≤ 2147483647 := r21
  have r22 : (0 : Int) ≤ ρ 22 ∧ ρ 22 ≤ 60 := r22
  have r23 : (1 : Int) ≤ ρ 23 ∧ ρ 23 ≤ 8 := r23
  have r24 : (0 : Int) ≤ ρ 24 ∧ ρ 24 ≤ 0 := r24
  have r25 : (0 : Int) ≤ ρ 25 ∧ ρ 25 ≤ 19 := r25
  have r26 : ((-1) : Int) ≤ ρ 26 ∧ ρ 26 ≤ 7 := r26
  have r27 : (0 : Int) ≤ ρ 27 ∧ ρ 27 ≤ 2 := r27
  have r28 : (0 : Int) ≤ ρ 28 ∧ ρ 28 ≤ 50001 := r28
  have r29 : (0 : Int) ≤ ρ 29 ∧ ρ 29 ≤ 62 := r29
  have r30 : (0 : Int) ≤ ρ 30 ∧ ρ 30 ≤ 8 := r30
  have r31 : (0 : Int) ≤ ρ 31 ∧ ρ 31 ≤ 8 := r31
  have r32 : (0 : Int) ≤ ρ 32 ∧ ρ 32 ≤ 4 := r32
  have r33 : ((-1) : Int) ≤ ρ 33 ∧ ρ 33 ≤ 19 := r33
  have r34 : (0 : Int) ≤ ρ 34 ∧ ρ 34 ≤ 4 := r34
  have r35 : ((-1) : Int) ≤ ρ 35 ∧ ρ 35 ≤ 7 := r35
  have r36 : (0 : Int) ≤ ρ 36 ∧ ρ 36 ≤ 8 := r36
  have r37 : (0 : Int) ≤ ρ 37 ∧ ρ 37 ≤ 4 := r37
  have r38 : ((-1) : Int) ≤ ρ 38 ∧ ρ 38 ≤ 19 := r38
  have r39 : ((-1) : Int) ≤ ρ 39 ∧ ρ 39 ≤ 3 := r39
  have r40 : (0 : Int) ≤ ρ 40 ∧ ρ 40 ≤ 7 := r40
  have r41 : ((-1) : Int) ≤ ρ 41 ∧ ρ 41 ≤ 7 := r41
  have r42 : (0 : Int) ≤ ρ 42 ∧ ρ 42 ≤ 8 := r42
  have r43 : (0 : Int) ≤ ρ 43 ∧ ρ 43 ≤ 4 := r43
  have r44 : ((-1) : Int) ≤ ρ 44 ∧ ρ 44 ≤ 19 := r44
  have r45 : ((-1) : Int) ≤ ρ 45 ∧ ρ 45 ≤ 3 := r45
  have r46 : (0 : Int) ≤ ρ 46 ∧ ρ 46 ≤ 7 := r46
  have r47 : ((-1) : Int) ≤ ρ 47 ∧ ρ 47 ≤ 7 := r47
  have r48 : (0 : Int) ≤ ρ 48 ∧ ρ 48 ≤ 8 := r48
  have r49 : (0 : Int) ≤ ρ 49 ∧ ρ 49 ≤ 4 := r49
  have r50 : ((-1) : Int) ≤ ρ 50 ∧ ρ 50 ≤ 19 := r50
  have r51 : ((-1) : Int) ≤ ρ 51 ∧ ρ 51 ≤ 3 := r51
  have r52 : (0 : Int) ≤ ρ 52 ∧ ρ 52 ≤ 7 := r52
  have r53 : ((-1) : Int) ≤ ρ 53 ∧ ρ 53 ≤ 7 := r53
  have r54 : (0 : Int) ≤ ρ 54 ∧ ρ 54 ≤ 8 := r54
  have r55 : (0 : Int) ≤ ρ 55 ∧ ρ 55 ≤ 4 := r55
  have r56 : ((-1) : Int) ≤ ρ 56 ∧ ρ 56 ≤ 19 := r56
  have r57 : ((-1) : Int) ≤ ρ 57 ∧ ρ 57 ≤ 3 := r57
  have r58 : (0 : Int) ≤ ρ 58 ∧ ρ 58 ≤ 7 := r58
  have r59 : ((-1) : Int) ≤ ρ 59 ∧ ρ 59 ≤ 7 := r59
  have r60 : (0 : Int) ≤ ρ 60 ∧ ρ 60 ≤ 8 := r60
  have r61 : (0 : Int) ≤ ρ 61 ∧ ρ 61 ≤ 4 := r61
  have r62 : ((-1) : Int) ≤ ρ 62 ∧ ρ 62 ≤ 19 := r62
  have r63 : ((-1) : Int) ≤ ρ 63 ∧ ρ 63 ≤ 3 := r63
  have r64 : (0 : Int) ≤ ρ 64 ∧ ρ 64 ≤ 7 := r64
  have r65 : ((-1) : Int) ≤ ρ 65 ∧ ρ 65 ≤ 7 := r65
  have r66 : (0 : Int) ≤ ρ 66 ∧ ρ 66 ≤ 8 := r66
  have r67 : (0 : Int) ≤ ρ 67 ∧ ρ 67 ≤ 4 := r67
  have r68 : ((-1) : Int) ≤ ρ 68 ∧ ρ 68 ≤ 19 := r68
  have r69 : ((-1) : Int) ≤ ρ 69 ∧ ρ 69 ≤ 3 := r69
  have r70 : (0 : Int) ≤ ρ 70 ∧ ρ 70 ≤ 7 := r70
  have r71 : ((-1) : Int) ≤ ρ 71 ∧ ρ 71 ≤ 7 := r71
  have r72 : (0 : Int) ≤ ρ 72 ∧ ρ 72 ≤ 8 := r72
  have r73 : (0 : Int) ≤ ρ 73 ∧ ρ 73 ≤ 4 := r73
  have r74 : ((-1) : Int) ≤ ρ 74 ∧ ρ 74 ≤ 19 := r74
  have r75 : ((-1) : Int) ≤ ρ 75 ∧ ρ 75 ≤ 3 := r75
  have r76 : (0 : Int) ≤ ρ 76 ∧ ρ 76 ≤ 7 := r76
  have r77 : ((-1) : Int) ≤ ρ 77 ∧ ρ 77 ≤ 7 := r77
  have r78 : (0 : Int) ≤ ρ 78 ∧ ρ 78 ≤ 8 := r78
  have r79 : (0 : Int) ≤ ρ 79 ∧ ρ 79 ≤ 4 := r79
  have r80 : ((-1) : Int) ≤ ρ 80 ∧ ρ 80 ≤ 19 := r80
  have r81 : ((-1) : Int) ≤ ρ 81 ∧ ρ 81 ≤ 3 := r81
  have r82 : (0 : Int) ≤ ρ 82 ∧ ρ 82 ≤ 7 := r82
  have r83 : ((-1) : Int) ≤ ρ 83 ∧ ρ 83 ≤ 7 := r83
  have r84 : (0 : Int) ≤ ρ 84 ∧ ρ 84 ≤ 50000 := r84
  have r85 : (0 : Int) ≤ ρ 85 ∧ ρ 85 ≤ 50001 := r85
  have r86 : (0 : Int) ≤ ρ 86 ∧ ρ 86 ≤ 2000 := r86
  have r87 : (0 : Int) ≤ ρ 87 ∧ ρ 87 ≤ 2000 := r87
  have r88 : ((-2147483648) : Int) ≤ ρ 88 ∧ ρ 88 ≤ 2147483647 := r88
  obtain ⟨f0, f1, f2, f3, f4, f5, f6, f7, f8, f9, f10, f11, f12, f13, f14, -⟩ := hf
  have f0 : (0 : Int) ≤ ρ 84 + -ρ 13 := f0
  have f1 : (0 : Int) ≤ ρ 85 + -ρ 28 := f1
  have f2 : (0 : Int) ≤ ρ 86 + -ρ 14 := f2
  have f3 : (0 : Int) ≤ ρ 87 + -ρ 15 := f3
  have f4 : (0 : Int) ≤ -ρ 85 + (ρ 84 + (ρ 28 + -ρ 13)) + 1 := f4
  have f5 : (0 : Int) ≤ -ρ 11 + ρ 2 + (-1) := f5
  have f6 : (0 : Int) ≤ -ρ 17 + ρ 6 := f6
  have f7 : (0 : Int) ≤ -ρ 11 + ρ 2 := f7
  have f8 : (0 : Int) ≤ ρ 20 + -ρ 3 := f8
  have f9 : (0 : Int) ≤ ρ 19 + -ρ 3 := f9
  have f10 : (0 : Int) ≤ -ρ 20 + ρ 19 := f10
  have f11 : (0 : Int) ≤ ρ 15 + -ρ 4 := f11
  have f12 : (0 : Int) ≤ ρ 14 + -ρ 3 := f12
  have f13 : (0 : Int) ≤ -ρ 19 + ρ 14 := f13
  have f14 : (0 : Int) ≤ ρ 13 + -ρ 1 := f14
  obtain ⟨m0, m1, m2, m3, m4, m5, m6, m7, m8, m9, m10, m11, m12, m13, m14, m15, m16, m17, m18, m19, m20, m21, m22, m23, m24, m25, m26, m27, m28, m29, m30, m31, m32, m33, m34, m35, m36, m37, m38, m39, m40, m41, m42, m43, m44, m45, m46, m47, m48, m49, m50, m51, m52, m53, m54, m55, m56, m57, m58, m59, m60, m61, m62, m63, m64, m65, m66, m67, m68, m69, m70, m71, m72, m73, m74, m75, m76, m77, m78, m79, m80, m81, m82, m83, m84, m85, m86, m87, m88, m89, -⟩ := hm
  have m0 : γ 0 6 0 0 = ρ 1 := m0
  have m1 : γ 0 1 0 10 = ρ 2 := m1
  have m2 : γ 0 4 0 7 = ρ 3 := m2
  have m3 : γ 0 5 0 3 = ρ 4 := m3
  have m4 : γ 0 6 0 8 = ρ 5 := m4
  have m5 : γ 0 6 0 9 = ρ 6 := m5
  have m6 : γ 0 6 0 10 = ρ 7 := m6
  have m7 : γ 0 6 0 11 = ρ 8 := m7
  have m8 : γ 0 6 0 12 = ρ 9 := m8
  have m9 : γ 0 6 0 13 = ρ 10 := m9
  have m10 : γ 1 6 0 0 = ρ 13 := m10
  have m11 : γ 1 4 0 7 = ρ 14 := m11
  have m12 : γ 1 5 0 3 = ρ 15 := m12
  have m13 : γ 1 6 0 8 = ρ 16 := m13
  have m14 : γ 1 6 0 9 = ρ 17 := m14
  have m15 : γ 1 6 0 10 = ρ 18 := m15
  have m16 : γ 1 6 0 11 = ρ 19 := m16
  have m17 : γ 1 6 0 12 = ρ 20 := m17
  have m18 : γ 1 6 0 13 = ρ 21 := m18
  have m19 : γ 0 40 0 (ρ 11) = ρ 22 := m19
  have m20 : γ 0 9 (ρ 22) 3 = ρ 23 := m20
  have m21 : γ 0 10 (9 * ρ 22) 12 = ρ 24 := m21
  have m22 : γ 0 10 (9 * ρ 22) 8 = ρ 25 := m22
  have m23 : γ 0 10 (9 * ρ 22) 14 = ρ 26 := m23
  have m24 : γ 4 6 0 8 = ρ 11 := m24
  have m25 : γ 4 6 0 9 = 0 := m25
  have m26 : γ 4 6 0 10 = ρ 12 := m26
  have m27 : γ 4 6 0 13 = 0 := m27
  have m28 : γ 0 6 0 6 = ρ 27 := m28
  have m29 : γ 1 8 (ρ 27) 1 = ρ 28 := m29
  have m30 : γ 4 6 0 7 = ρ 29 := m30
  have m31 : γ 0 9 (ρ 29) 2 = ρ 30 := m31
  have m32 : γ 0 9 (ρ 29) 3 = ρ 31 := m32
  have m33 : γ 0 10 (9 * ρ 29) 5 = ρ 32 := m33
  have m34 : γ 0 10 (9 * ρ 29) 8 = ρ 33 := m34
  have m35 : γ 0 10 (9 * ρ 29) 12 = ρ 34 := m35
  have m36 : γ 0 10 (9 * ρ 29) 14 = ρ 35 := m36
  have m37 : γ 0 10 (9 * ρ 29 + 1) 4 = ρ 36 := m37
  have m38 : γ 0 10 (9 * ρ 29 + 1) 5 = ρ 37 := m38
  have m39 : γ 0 10 (9 * ρ 29 + 1) 8 = ρ 38 := m39
  have m40 : γ 0 10 (9 * ρ 29 + 1) 9 = ρ 39 := m40
  have m41 : γ 0 10 (9 * ρ 29 + 1) 10 = ρ 40 := m41
  have m42 : γ 0 10 (9 * ρ 29 + 1) 11 = ρ 41 := m42
  have m43 : γ 0 10 (9 * ρ 29 + 2) 4 = ρ 42 := m43
  have m44 : γ 0 10 (9 * ρ 29 + 2) 5 = ρ 43 := m44
  have m45 : γ 0 10 (9 * ρ 29 + 2) 8 = ρ 44 := m45
  have m46 : γ 0 10 (9 * ρ 29 + 2) 9 = ρ 45 := m46
  have m47 : γ 0 10 (9 * ρ 29 + 2) 10 = ρ 46 := m47
  have m48 : γ 0 10 (9 * ρ 29 + 2) 11 = ρ 47 := m48
  have m49 : γ 0 10 (9 * ρ 29 + 3) 4 = ρ 48 := m49
  have m50 : γ 0 10 (9 * ρ 29 + 3) 5 = ρ 49 := m50
  have m51 : γ 0 10 (9 * ρ 29 + 3) 8 = ρ 50 := m51
  have m52 : γ 0 10 (9 * ρ 29 + 3) 9 = ρ 51 := m52
  have m53 : γ 0 10 (9 * ρ 29 + 3) 10 = ρ 52 := m53
  have m54 : γ 0 10 (9 * ρ 29 + 3) 11 = ρ 53 := m54
  have m55 : γ 0 10 (9 * ρ 29 + 4) 4 = ρ 54 := m55
  have m56 : γ 0 10 (9 * ρ 29 + 4) 5 = ρ 55 := m56
  have m57 : γ 0 10 (9 * ρ 29 + 4) 8 = ρ 56 := m57
  have m58 : γ 0 10 (9 * ρ 29 + 4) 9 = ρ 57 := m58
  have m59 : γ 0 10 (9 * ρ 29 + 4) 10 = ρ 58 := m59
  have m60 : γ 0 10 (9 * ρ 29 + 4) 11 = ρ 59 := m60
  have m61 : γ 0 10 (9 * ρ 29 + 5) 4 = ρ 60 := m61
  have m62 : γ 0 10 (9 * ρ 29 + 5) 5 = ρ 61 := m62
  have m63 : γ 0 10 (9 * ρ 29 + 5) 8 = ρ 62 := m63
  have m64 : γ 0 10 (9 * ρ 29 + 5) 9 = ρ 63 := m64
  have m65 : γ 0 10 (9 * ρ 29 + 5) 10 = ρ 64 := m65
  have m66 : γ 0 10 (9 * ρ 29 + 5) 11 = ρ 65 := m66
  have m67 : γ 0 10 (9 * ρ 29 + 6) 4 = ρ 66 := m67
  have m68 : γ 0 10 (9 * ρ 29 + 6) 5 = ρ 67 := m68
  have m69 : γ 0 10 (9 * ρ 29 + 6) 8 = ρ 68 := m69
  have m70 : γ 0 10 (9 * ρ 29 + 6) 9 = ρ 69 := m70
  have m71 : γ 0 10 (9 * ρ 29 + 6) 10 = ρ 70 := m71
  have m72 : γ 0 10 (9 * ρ 29 + 6) 11 = ρ 71 := m72
  have m73 : γ 0 10 (9 * ρ 29 + 7) 4 = ρ 72 := m73
  have m74 : γ 0 10 (9 * ρ 29 + 7) 5 = ρ 73 := m74
  have m75 : γ 0 10 (9 * ρ 29 + 7) 8 = ρ 74 := m75
  have m76 : γ 0 10 (9 * ρ 29 + 7) 9 = ρ 75 := m76
  have m77 : γ 0 10 (9 * ρ 29 + 7) 10 = ρ 76 := m77
  have m78 : γ 0 10 (9 * ρ 29 + 7) 11 = ρ 77 := m78
  have m79 : γ 0 10 (9 * ρ 29 + 8) 4 = ρ 78 := m79
  have m80 : γ 0 10 (9 * ρ 29 + 8) 5 = ρ 79 := m80
  have m81 : γ 0 10 (9 * ρ 29 + 8) 8 = ρ 80 := m81
  have m82 : γ 0 10 (9 * ρ 29 + 8) 9 = ρ 81 := m82
  have m83 : γ 0 10 (9 * ρ 29 + 8) 10 = ρ 82 := m83
  have m84 : γ 0 10 (9 * ρ 29 + 8) 11 = ρ 83 := m84
  have m85 : γ 5 6 0 0 = ρ 84 := m85
  have m86 : γ 5 8 (ρ 27) 1 = ρ 85 := m86
  have m87 : γ 5 4 0 7 = ρ 86 := m87
  have m88 : γ 5 5 0 3 = ρ 87 := m88
  have m89 : γ 5 6 0 13 = ρ 88 := m89
  obtain ⟨⟨⟨⟨⟨-, c1⟩, c2⟩, c3⟩, c4⟩, c5⟩ := hc
  have c1 : ∀ (G : Nat) (k j : Int), ¬ rMdP m143_ G j → γ 1 G k j = γ 0 G k j := c1
  have c2 : ∀ (G : Nat) (k j : Int), ¬ rMdP m0_ G j → γ 2 G k j = γ 1 G k j := c2
  have c3 : ∀ (G : Nat) (k j : Int), ¬ rMdP m0_ G j → γ 3 G k j = γ 2 G k j := c3
  have c4 : ∀ (G : Nat) (k j : Int), ¬ rMdP m136_ G j → γ 4 G k j = γ 3 G k j := c4
  have c5 : ∀ (G : Nat) (k j : Int), ¬ rMdP m140_ G j → γ 5 G k j = γ 4 G k j := c5
  obtain ⟨l0, l1, l2, l3, -⟩ := hl
  have l0 : sn131 [ρ 11, ρ 22] (γ 1) 0 (ρ 22) (γ 2) := hS131 _ _ _ _ _ l0
  have l1 : sn234 [ρ 22, ρ 0, ρ 25] (γ 2) 0 1 (γ 3) := hS234 _ _ _ _ _ l1
  have l2 : sn238 [ρ 12, ρ 22, ρ 11, ρ 25, ρ 24, ρ 26, ρ 16, ρ 17, ρ 18, ρ 21] (γ 3) 0 0 (γ 4) := hS238 _ _ _ _ _ l2
  have l3 : sn261 [ρ 13, 0, ρ 27, ρ 28, ρ 29, ρ 2, ρ 14, ρ 15, ρ 11, ρ 12, ρ 19, ρ 20, 0, ρ 30, ρ 31, ρ 32, ρ 33, ρ 34, ρ 35, ρ 36, ρ 37, ρ 38, ρ 39, ρ 40, ρ 41, ρ 42, ρ 43, ρ 44, ρ 45, ρ 46, ρ 47, ρ 48, ρ 49, ρ 50, ρ 51, ρ 52, ρ 53, ρ 54, ρ 55, ρ 56, ρ 57, ρ 58, ρ 59, ρ 60, ρ 61, ρ 62, ρ 63, ρ 64, ρ 65, ρ 66, ρ 67, ρ 68, ρ 69, ρ 70, ρ 71, ρ 72, ρ 73, ρ 74, ρ 75, ρ 76, ρ 77, ρ 78, ρ 79, ρ 80, ρ 81, ρ 82, ρ 83] (γ 4) 0 0 (γ 5) := hS261 _ _ _ _ _ l3
  show jn264 [ρ 0, ρ 1, ρ 2, ρ 3, ρ 4, ρ 5, ρ 6, ρ 7, ρ 8, ρ 9, ρ 10] (γ 0) 1 [ρ 0, ρ 1, ρ 2, ρ 3, ρ 4, ρ 5, ρ 6, ρ 7, ρ 8, ρ 9, ρ 10, ρ 11 + 1, ρ 12, ρ 84, ρ 86, ρ 87, ρ 11, 0, ρ 12, ρ 19, ρ 20, ρ 88] (γ 5)
  have hD : en264 (γ 0) (1, [ρ 0, ρ 11, ρ 12], γ 1) = .inl (1, [ρ 0, ρ 11 + 1, ρ 12], γ 5) := by
    unfold en264
    refine (if_neg (show ¬ (1 : Nat) = 0 by decide)).trans ?_
    refine (if_pos (show (1 : Nat) = 1 by decide)).trans ?_
    refine (zLet_eq (show _ = γ 1 from rfl)).trans ?_
    refine (zLet_eq (show _ = ρ 0 from rfl)).trans ?_
    refine (zLet_eq (show _ = ρ 11 from rfl)).trans ?_
    refine (zLet_eq (show _ = ρ 12 from rfl)).trans ?_
    refine (zLet_eq m1).trans ?_
    refine (zLet_eq m11).trans ?_
    refine (zLet_eq m16).trans ?_
    refine (if_neg (show ¬ (ρ 11 ≥ ρ 2) by omega)).trans ?_
    refine (zLet_eq m19).trans ?_
    refine (zLet_eq (show fn131 [ρ 11] (γ 1) = (0, ρ 22, γ 2) from l0.symm)).trans ?_
    refine (zLet_eq (show _ = γ 2 from rfl)).trans ?_
    refine (if_neg (show ¬ (ρ 12 = 1) by omega)).trans ?_
    refine (zLet_eq m20).trans ?_
    refine (if_neg (show ¬ (ρ 23 ≤ 0) by omega)).trans ?_
    refine (zLet_eq m21).trans ?_
    refine (if_neg (show ¬ (ρ 24 ≠ 0) by omega)).trans ?_
    refine (zLet_eq (show fn234 [ρ 22, ρ 0] (γ 2) = (0, 1, γ 3) from l1.symm)).trans ?_
    refine (zLet_eq (show _ = γ 3 from rfl)).trans ?_
    refine (if_pos (show (1 : Int) ≤ 1 by omega)).trans ?_
    refine (zLet_eq (show fn238 [ρ 12, ρ 22, ρ 11] (γ 3) = (0, 0, γ 4) from l2.symm)).trans ?_
    refine (zLet_eq (show _ = γ 4 from rfl)).trans ?_
    refine (zLet_eq (show fn261 [] (γ 4) = (0, 0, γ 5) from l3.symm)).trans ?_
    refine (zLet_eq (show _ = γ 5 from rfl)).trans ?_
    refine (if_pos (show (0 : Nat) = 0 by decide)).trans ?_
    rfl
  exact zGoo_ato hJ hD
theorem vn264a1_11 {S : Nat → zSpc} (hS131 : ∀ x g o v gz, S 131 x g o v gz → sn131 x g o v gz) (hS234 : ∀ x g o v gz, S 234 x g o v gz → sn234 x g o v gz) (hS238 : ∀ x g o v gz, S 238 x g o v gz → sn238 x g o v gz) (hS261 : ∀ x g o v gz, S 261 x g o v gz → sn261 x g o v gz) {a : List Int} {g : rHp} : ∀ (ρ : Nat → Int) (γ : Nat → rHp), jn264 a g 1 (zAg (zNA a264_ 1) ρ) (γ 1) → zO 11 S a g q264a1_11 ρ γ → zGl (fun i vs g1 => jn264 a g i vs g1) (sn264 a g) q264a1_11 ρ γ := by
  intro ρ γ hJ h
  obtain ⟨ha, hg, hr, hf, hm, hc, hl⟩ := h
  have ha : a = [ρ 0, ρ 1, ρ 2, ρ 3, ρ 4, ρ 5, ρ 6, ρ 7, ρ 8, ρ 9, ρ 10] := ha
  subst ha
  subst hg
  have hJ : jn264 [ρ 0, ρ 1, ρ 2, ρ 3, ρ 4, ρ 5, ρ 6, ρ 7, ρ 8, ρ 9, ρ 10] (γ 0) 1 [ρ 0, ρ 1, ρ 2, ρ 3, ρ 4, ρ 5, ρ 6, ρ 7, ρ 8, ρ 9, ρ 10, ρ 11, ρ 12, ρ 13, ρ 14, ρ 15, ρ 16, ρ 17, ρ 18, ρ 19, ρ 20, ρ 21] (γ 1) := hJ
  obtain ⟨r0, r1, r2, r3, r4, r5, r6, r7, r8, r9, r10, r11, r12, r13, r14, r15, r16, r17, r18, r19, r20, r21, r22, r23, r24, r25, r26, r27, r28, r29, r30, r31, r32, r33, r34, r35, r36, r37, r38, r39, r40, r41, r42, r43, r44, r45, r46, r47, r48, r49, r50, r51, r52, r53, r54, r55, r56, r57, r58, r59, r60, r61, r62, r63, r64, r65, r66, r67, r68, r69, r70, r71, r72, r73, r74, r75, r76, r77, r78, r79, r80, r81, r82, r83, r84, r85, r86, r87, r88, -⟩ := hr
  have r0 : ((-2147483648) : Int) ≤ ρ 0 ∧ ρ 0 ≤ 2147483647 := r0
  have r1 : (0 : Int) ≤ ρ 1 ∧ ρ 1 ≤ 50000 := r1
  have r2 : (0 : Int) ≤ ρ 2 ∧ ρ 2 ≤ 60 := r2
  have r3 : (0 : Int) ≤ ρ 3 ∧ ρ 3 ≤ 2000 := r3
  have r4 : (0 : Int) ≤ ρ 4 ∧ ρ 4 ≤ 2000 := r4
  have r5 : ((-2147483648) : Int) ≤ ρ 5 ∧ ρ 5 ≤ 2147483647 := r5
  have r6 : (0 : Int) ≤ ρ 6 ∧ ρ 6 ≤ 2 := r6
  have r7 : ((-2147483648) : Int) ≤ ρ 7 ∧ ρ 7 ≤ 2147483647 := r7
  have r8 : (0 : Int) ≤ ρ 8 ∧ ρ 8 ≤ 2000 := r8
  have r9 : (0 : Int) ≤ ρ 9 ∧ ρ 9 ≤ 2000 := r9
  have r10 : ((-2147483648) : Int) ≤ ρ 10 ∧ ρ 10 ≤ 2147483647 := r10
  have r11 : (0 : Int) ≤ ρ 11 ∧ ρ 11 ≤ 60 := r11
  have r12 : (2 : Int) ≤ ρ 12 ∧ ρ 12 ≤ 2001 := r12
  have r13 : (0 : Int) ≤ ρ 13 ∧ ρ 13 ≤ 50000 := r13
  have r14 : (0 : Int) ≤ ρ 14 ∧ ρ 14 ≤ 2000 := r14
  have r15 : (0 : Int) ≤ ρ 15 ∧ ρ 15 ≤ 2000 := r15
  have r16 : ((-2147483648) : Int) ≤ ρ 16 ∧ ρ 16 ≤ 2147483647 := r16
  have r17 : (0 : Int) ≤ ρ 17 ∧ ρ 17 ≤ 2 := r17
  have r18 : ((-2147483648) : Int) ≤ ρ 18 ∧ ρ 18 ≤ 2147483647 := r18
  have r19 : (0 : Int) ≤ ρ 19 ∧ ρ 19 ≤ 2000 := r19
  have r20 : (0 : Int) ≤ ρ 20 ∧ ρ 20 ≤ 2000 := r20
  have r21 : ((-2147483648) : Int) ≤ ρ 21 ∧ ρ 21 ≤ 2147483647 := r21
  have r22 : (0 : Int) ≤ ρ 22 ∧ ρ 22 ≤ 60 := r22
  have r23 : (1 : Int) ≤ ρ 23 ∧ ρ 23 ≤ 8 := r23
  have r24 : (0 : Int) ≤ ρ 24 ∧ ρ 24 ≤ 0 := r24
  have r25 : (0 : Int) ≤ ρ 25 ∧ ρ 25 ≤ 19 := r25
  have r26 : ((-1) : Int) ≤ ρ 26 ∧ ρ 26 ≤ 7 := r26
  have r27 : (0 : Int) ≤ ρ 27 ∧ ρ 27 ≤ 2 := r27
  have r28 : (0 : Int) ≤ ρ 28 ∧ ρ 28 ≤ 50001 := r28
  have r29 : (0 : Int) ≤ ρ 29 ∧ ρ 29 ≤ 62 := r29
  have r30 : (0 : Int) ≤ ρ 30 ∧ ρ 30 ≤ 8 := r30
  have r31 : (0 : Int) ≤ ρ 31 ∧ ρ 31 ≤ 8 := r31
  have r32 : (0 : Int) ≤ ρ 32 ∧ ρ 32 ≤ 4 := r32
  have r33 : ((-1) : Int) ≤ ρ 33 ∧ ρ 33 ≤ 19 := r33
  have r34 : (0 : Int) ≤ ρ 34 ∧ ρ 34 ≤ 4 := r34
  have r35 : ((-1) : Int) ≤ ρ 35 ∧ ρ 35 ≤ 7 := r35
  have r36 : (0 : Int) ≤ ρ 36 ∧ ρ 36 ≤ 8 := r36
  have r37 : (0 : Int) ≤ ρ 37 ∧ ρ 37 ≤ 4 := r37
  have r38 : ((-1) : Int) ≤ ρ 38 ∧ ρ 38 ≤ 19 := r38
  have r39 : ((-1) : Int) ≤ ρ 39 ∧ ρ 39 ≤ 3 := r39
  have r40 : (0 : Int) ≤ ρ 40 ∧ ρ 40 ≤ 7 := r40
  have r41 : ((-1) : Int) ≤ ρ 41 ∧ ρ 41 ≤ 7 := r41
  have r42 : (0 : Int) ≤ ρ 42 ∧ ρ 42 ≤ 8 := r42
  have r43 : (0 : Int) ≤ ρ 43 ∧ ρ 43 ≤ 4 := r43
  have r44 : ((-1) : Int) ≤ ρ 44 ∧ ρ 44 ≤ 19 := r44
  have r45 : ((-1) : Int) ≤ ρ 45 ∧ ρ 45 ≤ 3 := r45
  have r46 : (0 : Int) ≤ ρ 46 ∧ ρ 46 ≤ 7 := r46
  have r47 : ((-1) : Int) ≤ ρ 47 ∧ ρ 47 ≤ 7 := r47
  have r48 : (0 : Int) ≤ ρ 48 ∧ ρ 48 ≤ 8 := r48
  have r49 : (0 : Int) ≤ ρ 49 ∧ ρ 49 ≤ 4 := r49
  have r50 : ((-1) : Int) ≤ ρ 50 ∧ ρ 50 ≤ 19 := r50
  have r51 : ((-1) : Int) ≤ ρ 51 ∧ ρ 51 ≤ 3 := r51
  have r52 : (0 : Int) ≤ ρ 52 ∧ ρ 52 ≤ 7 := r52
  have r53 : ((-1) : Int) ≤ ρ 53 ∧ ρ 53 ≤ 7 := r53
  have r54 : (0 : Int) ≤ ρ 54 ∧ ρ 54 ≤ 8 := r54
  have r55 : (0 : Int) ≤ ρ 55 ∧ ρ 55 ≤ 4 := r55
  have r56 : ((-1) : Int) ≤ ρ 56 ∧ ρ 56 ≤ 19 := r56
  have r57 : ((-1) : Int) ≤ ρ 57 ∧ ρ 57 ≤ 3 := r57
  have r58 : (0 : Int) ≤ ρ 58 ∧ ρ 58 ≤ 7 := r58
  have r59 : ((-1) : Int) ≤ ρ 59 ∧ ρ 59 ≤ 7 := r59
  have r60 : (0 : Int) ≤ ρ 60 ∧ ρ 60 ≤ 8 := r60
  have r61 : (0 : Int) ≤ ρ 61 ∧ ρ 61 ≤ 4 := r61
  have r62 : ((-1) : Int) ≤ ρ 62 ∧ ρ 62 ≤ 19 := r62
  have r63 : ((-1) : Int) ≤ ρ 63 ∧ ρ 63 ≤ 3 := r63
  have r64 : (0 : Int) ≤ ρ 64 ∧ ρ 64 ≤ 7 := r64
  have r65 : ((-1) : Int) ≤ ρ 65 ∧ ρ 65 ≤ 7 := r65
  have r66 : (0 : Int) ≤ ρ 66 ∧ ρ 66 ≤ 8 := r66
  have r67 : (0 : Int) ≤ ρ 67 ∧ ρ 67 ≤ 4 := r67
  have r68 : ((-1) : Int) ≤ ρ 68 ∧ ρ 68 ≤ 19 := r68
  have r69 : ((-1) : Int) ≤ ρ 69 ∧ ρ 69 ≤ 3 := r69
  have r70 : (0 : Int) ≤ ρ 70 ∧ ρ 70 ≤ 7 := r70
  have r71 : ((-1) : Int) ≤ ρ 71 ∧ ρ 71 ≤ 7 := r71
  have r72 : (0 : Int) ≤ ρ 72 ∧ ρ 72 ≤ 8 := r72
  have r73 : (0 : Int) ≤ ρ 73 ∧ ρ 73 ≤ 4 := r73
  have r74 : ((-1) : Int) ≤ ρ 74 ∧ ρ 74 ≤ 19 := r74
  have r75 : ((-1) : Int) ≤ ρ 75 ∧ ρ 75 ≤ 3 := r75
  have r76 : (0 : Int) ≤ ρ 76 ∧ ρ 76 ≤ 7 := r76
  have r77 : ((-1) : Int) ≤ ρ 77 ∧ ρ 77 ≤ 7 := r77
  have r78 : (0 : Int) ≤ ρ 78 ∧ ρ 78 ≤ 8 := r78
  have r79 : (0 : Int) ≤ ρ 79 ∧ ρ 79 ≤ 4 := r79
  have r80 : ((-1) : Int) ≤ ρ 80 ∧ ρ 80 ≤ 19 := r80
  have r81 : ((-1) : Int) ≤ ρ 81 ∧ ρ 81 ≤ 3 := r81
  have r82 : (0 : Int) ≤ ρ 82 ∧ ρ 82 ≤ 7 := r82
  have r83 : ((-1) : Int) ≤ ρ 83 ∧ ρ 83 ≤ 7 := r83
  have r84 : (0 : Int) ≤ ρ 84 ∧ ρ 84 ≤ 50000 := r84
  have r85 : (0 : Int) ≤ ρ 85 ∧ ρ 85 ≤ 50001 := r85
  have r86 : (0 : Int) ≤ ρ 86 ∧ ρ 86 ≤ 2000 := r86
  have r87 : (0 : Int) ≤ ρ 87 ∧ ρ 87 ≤ 2000 := r87
  have r88 : ((-2147483648) : Int) ≤ ρ 88 ∧ ρ 88 ≤ 2147483647 := r88
  obtain ⟨f0, f1, f2, f3, f4, f5, f6, f7, f8, f9, f10, f11, f12, f13, f14, -⟩ := hf
  have f0 : (0 : Int) ≤ ρ 84 + -ρ 13 := f0
  have f1 : (0 : Int) ≤ ρ 85 + -ρ 28 := f1
  have f2 : (0 : Int) ≤ ρ 86 + -ρ 14 := f2
  have f3 : (0 : Int) ≤ ρ 87 + -ρ 15 := f3
  have f4 : (0 : Int) ≤ -ρ 85 + (ρ 84 + (ρ 28 + -ρ 13)) + 1 := f4
  have f5 : (0 : Int) ≤ -ρ 11 + ρ 2 + (-1) := f5
  have f6 : (0 : Int) ≤ -ρ 17 + ρ 6 := f6
  have f7 : (0 : Int) ≤ -ρ 11 + ρ 2 := f7
  have f8 : (0 : Int) ≤ ρ 20 + -ρ 3 := f8
  have f9 : (0 : Int) ≤ ρ 19 + -ρ 3 := f9
  have f10 : (0 : Int) ≤ -ρ 20 + ρ 19 := f10
  have f11 : (0 : Int) ≤ ρ 15 + -ρ 4 := f11
  have f12 : (0 : Int) ≤ ρ 14 + -ρ 3 := f12
  have f13 : (0 : Int) ≤ -ρ 19 + ρ 14 := f13
  have f14 : (0 : Int) ≤ ρ 13 + -ρ 1 := f14
  obtain ⟨m0, m1, m2, m3, m4, m5, m6, m7, m8, m9, m10, m11, m12, m13, m14, m15, m16, m17, m18, m19, m20, m21, m22, m23, m24, m25, m26, m27, m28, m29, m30, m31, m32, m33, m34, m35, m36, m37, m38, m39, m40, m41, m42, m43, m44, m45, m46, m47, m48, m49, m50, m51, m52, m53, m54, m55, m56, m57, m58, m59, m60, m61, m62, m63, m64, m65, m66, m67, m68, m69, m70, m71, m72, m73, m74, m75, m76, m77, m78, m79, m80, m81, m82, m83, m84, m85, m86, m87, m88, m89, -⟩ := hm
  have m0 : γ 0 6 0 0 = ρ 1 := m0
  have m1 : γ 0 1 0 10 = ρ 2 := m1
  have m2 : γ 0 4 0 7 = ρ 3 := m2
  have m3 : γ 0 5 0 3 = ρ 4 := m3
  have m4 : γ 0 6 0 8 = ρ 5 := m4
  have m5 : γ 0 6 0 9 = ρ 6 := m5
  have m6 : γ 0 6 0 10 = ρ 7 := m6
  have m7 : γ 0 6 0 11 = ρ 8 := m7
  have m8 : γ 0 6 0 12 = ρ 9 := m8
  have m9 : γ 0 6 0 13 = ρ 10 := m9
  have m10 : γ 1 6 0 0 = ρ 13 := m10
  have m11 : γ 1 4 0 7 = ρ 14 := m11
  have m12 : γ 1 5 0 3 = ρ 15 := m12
  have m13 : γ 1 6 0 8 = ρ 16 := m13
  have m14 : γ 1 6 0 9 = ρ 17 := m14
  have m15 : γ 1 6 0 10 = ρ 18 := m15
  have m16 : γ 1 6 0 11 = ρ 19 := m16
  have m17 : γ 1 6 0 12 = ρ 20 := m17
  have m18 : γ 1 6 0 13 = ρ 21 := m18
  have m19 : γ 0 40 0 (ρ 11) = ρ 22 := m19
  have m20 : γ 0 9 (ρ 22) 3 = ρ 23 := m20
  have m21 : γ 0 10 (9 * ρ 22) 12 = ρ 24 := m21
  have m22 : γ 0 10 (9 * ρ 22) 8 = ρ 25 := m22
  have m23 : γ 0 10 (9 * ρ 22) 14 = ρ 26 := m23
  have m24 : γ 4 6 0 8 = ρ 11 := m24
  have m25 : γ 4 6 0 9 = 0 := m25
  have m26 : γ 4 6 0 10 = ρ 12 := m26
  have m27 : γ 4 6 0 13 = 0 := m27
  have m28 : γ 0 6 0 6 = ρ 27 := m28
  have m29 : γ 1 8 (ρ 27) 1 = ρ 28 := m29
  have m30 : γ 4 6 0 7 = ρ 29 := m30
  have m31 : γ 0 9 (ρ 29) 2 = ρ 30 := m31
  have m32 : γ 0 9 (ρ 29) 3 = ρ 31 := m32
  have m33 : γ 0 10 (9 * ρ 29) 5 = ρ 32 := m33
  have m34 : γ 0 10 (9 * ρ 29) 8 = ρ 33 := m34
  have m35 : γ 0 10 (9 * ρ 29) 12 = ρ 34 := m35
  have m36 : γ 0 10 (9 * ρ 29) 14 = ρ 35 := m36
  have m37 : γ 0 10 (9 * ρ 29 + 1) 4 = ρ 36 := m37
  have m38 : γ 0 10 (9 * ρ 29 + 1) 5 = ρ 37 := m38
  have m39 : γ 0 10 (9 * ρ 29 + 1) 8 = ρ 38 := m39
  have m40 : γ 0 10 (9 * ρ 29 + 1) 9 = ρ 39 := m40
  have m41 : γ 0 10 (9 * ρ 29 + 1) 10 = ρ 40 := m41
  have m42 : γ 0 10 (9 * ρ 29 + 1) 11 = ρ 41 := m42
  have m43 : γ 0 10 (9 * ρ 29 + 2) 4 = ρ 42 := m43
  have m44 : γ 0 10 (9 * ρ 29 + 2) 5 = ρ 43 := m44
  have m45 : γ 0 10 (9 * ρ 29 + 2) 8 = ρ 44 := m45
  have m46 : γ 0 10 (9 * ρ 29 + 2) 9 = ρ 45 := m46
  have m47 : γ 0 10 (9 * ρ 29 + 2) 10 = ρ 46 := m47
  have m48 : γ 0 10 (9 * ρ 29 + 2) 11 = ρ 47 := m48
  have m49 : γ 0 10 (9 * ρ 29 + 3) 4 = ρ 48 := m49
  have m50 : γ 0 10 (9 * ρ 29 + 3) 5 = ρ 49 := m50
  have m51 : γ 0 10 (9 * ρ 29 + 3) 8 = ρ 50 := m51
  have m52 : γ 0 10 (9 * ρ 29 + 3) 9 = ρ 51 := m52
  have m53 : γ 0 10 (9 * ρ 29 + 3) 10 = ρ 52 := m53
  have m54 : γ 0 10 (9 * ρ 29 + 3) 11 = ρ 53 := m54
  have m55 : γ 0 10 (9 * ρ 29 + 4) 4 = ρ 54 := m55
  have m56 : γ 0 10 (9 * ρ 29 + 4) 5 = ρ 55 := m56
  have m57 : γ 0 10 (9 * ρ 29 + 4) 8 = ρ 56 := m57
  have m58 : γ 0 10 (9 * ρ 29 + 4) 9 = ρ 57 := m58
  have m59 : γ 0 10 (9 * ρ 29 + 4) 10 = ρ 58 := m59
  have m60 : γ 0 10 (9 * ρ 29 + 4) 11 = ρ 59 := m60
  have m61 : γ 0 10 (9 * ρ 29 + 5) 4 = ρ 60 := m61
  have m62 : γ 0 10 (9 * ρ 29 + 5) 5 = ρ 61 := m62
  have m63 : γ 0 10 (9 * ρ 29 + 5) 8 = ρ 62 := m63
  have m64 : γ 0 10 (9 * ρ 29 + 5) 9 = ρ 63 := m64
  have m65 : γ 0 10 (9 * ρ 29 + 5) 10 = ρ 64 := m65
  have m66 : γ 0 10 (9 * ρ 29 + 5) 11 = ρ 65 := m66
  have m67 : γ 0 10 (9 * ρ 29 + 6) 4 = ρ 66 := m67
  have m68 : γ 0 10 (9 * ρ 29 + 6) 5 = ρ 67 := m68
  have m69 : γ 0 10 (9 * ρ 29 + 6) 8 = ρ 68 := m69
  have m70 : γ 0 10 (9 * ρ 29 + 6) 9 = ρ 69 := m70
  have m71 : γ 0 10 (9 * ρ 29 + 6) 10 = ρ 70 := m71
  have m72 : γ 0 10 (9 * ρ 29 + 6) 11 = ρ 71 := m72
  have m73 : γ 0 10 (9 * ρ 29 + 7) 4 = ρ 72 := m73
  have m74 : γ 0 10 (9 * ρ 29 + 7) 5 = ρ 73 := m74
  have m75 : γ 0 10 (9 * ρ 29 + 7) 8 = ρ 74 := m75
  have m76 : γ 0 10 (9 * ρ 29 + 7) 9 = ρ 75 := m76
  have m77 : γ 0 10 (9 * ρ 29 + 7) 10 = ρ 76 := m77
  have m78 : γ 0 10 (9 * ρ 29 + 7) 11 = ρ 77 := m78
  have m79 : γ 0 10 (9 * ρ 29 + 8) 4 = ρ 78 := m79
  have m80 : γ 0 10 (9 * ρ 29 + 8) 5 = ρ 79 := m80
  have m81 : γ 0 10 (9 * ρ 29 + 8) 8 = ρ 80 := m81
  have m82 : γ 0 10 (9 * ρ 29 + 8) 9 = ρ 81 := m82
  have m83 : γ 0 10 (9 * ρ 29 + 8) 10 = ρ 82 := m83
  have m84 : γ 0 10 (9 * ρ 29 + 8) 11 = ρ 83 := m84
  have m85 : γ 5 6 0 0 = ρ 84 := m85
  have m86 : γ 5 8 (ρ 27) 1 = ρ 85 := m86
  have m87 : γ 5 4 0 7 = ρ 86 := m87
  have m88 : γ 5 5 0 3 = ρ 87 := m88
  have m89 : γ 5 6 0 13 = ρ 88 := m89
  obtain ⟨⟨⟨⟨⟨-, c1⟩, c2⟩, c3⟩, c4⟩, c5⟩ := hc
  have c1 : ∀ (G : Nat) (k j : Int), ¬ rMdP m143_ G j → γ 1 G k j = γ 0 G k j := c1
  have c2 : ∀ (G : Nat) (k j : Int), ¬ rMdP m0_ G j → γ 2 G k j = γ 1 G k j := c2
  have c3 : ∀ (G : Nat) (k j : Int), ¬ rMdP m0_ G j → γ 3 G k j = γ 2 G k j := c3
  have c4 : ∀ (G : Nat) (k j : Int), ¬ rMdP m136_ G j → γ 4 G k j = γ 3 G k j := c4
  have c5 : ∀ (G : Nat) (k j : Int), ¬ rMdP m140_ G j → γ 5 G k j = γ 4 G k j := c5
  obtain ⟨l0, l1, l2, l3, -⟩ := hl
  have l0 : sn131 [ρ 11, ρ 22] (γ 1) 0 (ρ 22) (γ 2) := hS131 _ _ _ _ _ l0
  have l1 : sn234 [ρ 22, ρ 0, ρ 25] (γ 2) 0 1 (γ 3) := hS234 _ _ _ _ _ l1
  have l2 : sn238 [ρ 12, ρ 22, ρ 11, ρ 25, ρ 24, ρ 26, ρ 16, ρ 17, ρ 18, ρ 21] (γ 3) 0 0 (γ 4) := hS238 _ _ _ _ _ l2
  have l3 : sn261 [ρ 13, 0, ρ 27, ρ 28, ρ 29, ρ 2, ρ 14, ρ 15, ρ 11, ρ 12, ρ 19, ρ 20, 0, ρ 30, ρ 31, ρ 32, ρ 33, ρ 34, ρ 35, ρ 36, ρ 37, ρ 38, ρ 39, ρ 40, ρ 41, ρ 42, ρ 43, ρ 44, ρ 45, ρ 46, ρ 47, ρ 48, ρ 49, ρ 50, ρ 51, ρ 52, ρ 53, ρ 54, ρ 55, ρ 56, ρ 57, ρ 58, ρ 59, ρ 60, ρ 61, ρ 62, ρ 63, ρ 64, ρ 65, ρ 66, ρ 67, ρ 68, ρ 69, ρ 70, ρ 71, ρ 72, ρ 73, ρ 74, ρ 75, ρ 76, ρ 77, ρ 78, ρ 79, ρ 80, ρ 81, ρ 82, ρ 83] (γ 4) 1 0 (γ 5) := hS261 _ _ _ _ _ l3
  show sn264 [ρ 0, ρ 1, ρ 2, ρ 3, ρ 4, ρ 5, ρ 6, ρ 7, ρ 8, ρ 9, ρ 10] (γ 0) 1 0 (γ 5)
  have hD : en264 (γ 0) (1, [ρ 0, ρ 11, ρ 12], γ 1) = .inr (1, 0, γ 5) := by
    unfold en264
    refine (if_neg (show ¬ (1 : Nat) = 0 by decide)).trans ?_
    refine (if_pos (show (1 : Nat) = 1 by decide)).trans ?_
    refine (zLet_eq (show _ = γ 1 from rfl)).trans ?_
    refine (zLet_eq (show _ = ρ 0 from rfl)).trans ?_
    refine (zLet_eq (show _ = ρ 11 from rfl)).trans ?_
    refine (zLet_eq (show _ = ρ 12 from rfl)).trans ?_
    refine (zLet_eq m1).trans ?_
    refine (zLet_eq m11).trans ?_
    refine (zLet_eq m16).trans ?_
    refine (if_neg (show ¬ (ρ 11 ≥ ρ 2) by omega)).trans ?_
    refine (zLet_eq m19).trans ?_
    refine (zLet_eq (show fn131 [ρ 11] (γ 1) = (0, ρ 22, γ 2) from l0.symm)).trans ?_
    refine (zLet_eq (show _ = γ 2 from rfl)).trans ?_
    refine (if_neg (show ¬ (ρ 12 = 1) by omega)).trans ?_
    refine (zLet_eq m20).trans ?_
    refine (if_neg (show ¬ (ρ 23 ≤ 0) by omega)).trans ?_
    refine (zLet_eq m21).trans ?_
    refine (if_neg (show ¬ (ρ 24 ≠ 0) by omega)).trans ?_
    refine (zLet_eq (show fn234 [ρ 22, ρ 0] (γ 2) = (0, 1, γ 3) from l1.symm)).trans ?_
    refine (zLet_eq (show _ = γ 3 from rfl)).trans ?_
    refine (if_pos (show (1 : Int) ≤ 1 by omega)).trans ?_
    refine (zLet_eq (show fn238 [ρ 12, ρ 22, ρ 11] (γ 3) = (0, 0, γ 4) from l2.symm)).trans ?_
    refine (zLet_eq (show _ = γ 4 from rfl)).trans ?_
    refine (zLet_eq (show fn261 [] (γ 4) = (1, 0, γ 5) from l3.symm)).trans ?_
    refine (zLet_eq (show _ = γ 5 from rfl)).trans ?_
    refine (if_neg (show ¬ (1 : Nat) = 0 by decide)).trans ?_
    refine (if_pos (show (1 : Nat) = 1 by decide)).trans ?_
    rfl
  exact zGoo_aend hJ hD
theorem vn264a1_12 {S : Nat → zSpc} (hS131 : ∀ x g o v gz, S 131 x g o v gz → sn131 x g o v gz) (hS234 : ∀ x g o v gz, S 234 x g o v gz → sn234 x g o v gz) (hS238 : ∀ x g o v gz, S 238 x g o v gz → sn238 x g o v gz) (hS261 : ∀ x g o v gz, S 261 x g o v gz → sn261 x g o v gz) {a : List Int} {g : rHp} : ∀ (ρ : Nat → Int) (γ : Nat → rHp), jn264 a g 1 (zAg (zNA a264_ 1) ρ) (γ 1) → zO 11 S a g q264a1_12 ρ γ → zGl (fun i vs g1 => jn264 a g i vs g1) (sn264 a g) q264a1_12 ρ γ := by
  intro ρ γ hJ h
  obtain ⟨ha, hg, hr, hf, hm, hc, hl⟩ := h
  have ha : a = [ρ 0, ρ 1, ρ 2, ρ 3, ρ 4, ρ 5, ρ 6, ρ 7, ρ 8, ρ 9, ρ 10] := ha
  subst ha
  subst hg
  have hJ : jn264 [ρ 0, ρ 1, ρ 2, ρ 3, ρ 4, ρ 5, ρ 6, ρ 7, ρ 8, ρ 9, ρ 10] (γ 0) 1 [ρ 0, ρ 1, ρ 2, ρ 3, ρ 4, ρ 5, ρ 6, ρ 7, ρ 8, ρ 9, ρ 10, ρ 11, ρ 12, ρ 13, ρ 14, ρ 15, ρ 16, ρ 17, ρ 18, ρ 19, ρ 20, ρ 21] (γ 1) := hJ
  obtain ⟨r0, r1, r2, r3, r4, r5, r6, r7, r8, r9, r10, r11, r12, r13, r14, r15, r16, r17, r18, r19, r20, r21, r22, r23, r24, r25, r26, r27, r28, r29, r30, r31, r32, r33, r34, r35, r36, r37, r38, r39, r40, r41, r42, r43, r44, r45, r46, r47, r48, r49, r50, r51, r52, r53, r54, r55, r56, r57, r58, r59, r60, r61, r62, r63, r64, r65, r66, r67, r68, r69, r70, r71, r72, r73, r74, r75, r76, r77, r78, r79, r80, r81, r82, r83, r84, r85, r86, r87, r88, -⟩ := hr
  have r0 : ((-2147483648) : Int) ≤ ρ 0 ∧ ρ 0 ≤ 2147483647 := r0
  have r1 : (0 : Int) ≤ ρ 1 ∧ ρ 1 ≤ 50000 := r1
  have r2 : (0 : Int) ≤ ρ 2 ∧ ρ 2 ≤ 60 := r2
  have r3 : (0 : Int) ≤ ρ 3 ∧ ρ 3 ≤ 2000 := r3
  have r4 : (0 : Int) ≤ ρ 4 ∧ ρ 4 ≤ 2000 := r4
  have r5 : ((-2147483648) : Int) ≤ ρ 5 ∧ ρ 5 ≤ 2147483647 := r5
  have r6 : (0 : Int) ≤ ρ 6 ∧ ρ 6 ≤ 2 := r6
  have r7 : ((-2147483648) : Int) ≤ ρ 7 ∧ ρ 7 ≤ 2147483647 := r7
  have r8 : (0 : Int) ≤ ρ 8 ∧ ρ 8 ≤ 2000 := r8
  have r9 : (0 : Int) ≤ ρ 9 ∧ ρ 9 ≤ 2000 := r9
  have r10 : ((-2147483648) : Int) ≤ ρ 10 ∧ ρ 10 ≤ 2147483647 := r10
  have r11 : (0 : Int) ≤ ρ 11 ∧ ρ 11 ≤ 60 := r11
  have r12 : (2 : Int) ≤ ρ 12 ∧ ρ 12 ≤ 2001 := r12
  have r13 : (0 : Int) ≤ ρ 13 ∧ ρ 13 ≤ 50000 := r13
  have r14 : (0 : Int) ≤ ρ 14 ∧ ρ 14 ≤ 2000 := r14
  have r15 : (0 : Int) ≤ ρ 15 ∧ ρ 15 ≤ 2000 := r15
  have r16 : ((-2147483648) : Int) ≤ ρ 16 ∧ ρ 16 ≤ 2147483647 := r16
  have r17 : (0 : Int) ≤ ρ 17 ∧ ρ 17 ≤ 2 := r17
  have r18 : ((-2147483648) : Int) ≤ ρ 18 ∧ ρ 18 ≤ 2147483647 := r18
  have r19 : (0 : Int) ≤ ρ 19 ∧ ρ 19 ≤ 2000 := r19
  have r20 : (0 : Int) ≤ ρ 20 ∧ ρ 20 ≤ 2000 := r20
  have r21 : ((-2147483648) : Int) ≤ ρ 21 ∧ ρ 21 ≤ 2147483647 := r21
  have r22 : (0 : Int) ≤ ρ 22 ∧ ρ 22 ≤ 60 := r22
  have r23 : (1 : Int) ≤ ρ 23 ∧ ρ 23 ≤ 8 := r23
  have r24 : (0 : Int) ≤ ρ 24 ∧ ρ 24 ≤ 0 := r24
  have r25 : (0 : Int) ≤ ρ 25 ∧ ρ 25 ≤ 19 := r25
  have r26 : ((-1) : Int) ≤ ρ 26 ∧ ρ 26 ≤ 7 := r26
  have r27 : (0 : Int) ≤ ρ 27 ∧ ρ 27 ≤ 2 := r27
  have r28 : (0 : Int) ≤ ρ 28 ∧ ρ 28 ≤ 50001 := r28
  have r29 : (0 : Int) ≤ ρ 29 ∧ ρ 29 ≤ 62 := r29
  have r30 : (1 : Int) ≤ ρ 30 ∧ ρ 30 ≤ 8 := r30
  have r31 : (0 : Int) ≤ ρ 31 ∧ ρ 31 ≤ 8 := r31
  have r32 : (0 : Int) ≤ ρ 32 ∧ ρ 32 ≤ 4 := r32
  have r33 : ((-1) : Int) ≤ ρ 33 ∧ ρ 33 ≤ 19 := r33
  have r34 : (0 : Int) ≤ ρ 34 ∧ ρ 34 ≤ 4 := r34
  have r35 : ((-1) : Int) ≤ ρ 35 ∧ ρ 35 ≤ 7 := r35
  have r36 : (1 : Int) ≤ ρ 36 ∧ ρ 36 ≤ 8 := r36
  have r37 : (0 : Int) ≤ ρ 37 ∧ ρ 37 ≤ 4 := r37
  have r38 : ((-1) : Int) ≤ ρ 38 ∧ ρ 38 ≤ 19 := r38
  have r39 : ((-1) : Int) ≤ ρ 39 ∧ ρ 39 ≤ 3 := r39
  have r40 : (0 : Int) ≤ ρ 40 ∧ ρ 40 ≤ 7 := r40
  have r41 : ((-1) : Int) ≤ ρ 41 ∧ ρ 41 ≤ 7 := r41
  have r42 : (0 : Int) ≤ ρ 42 ∧ ρ 42 ≤ 8 := r42
  have r43 : (0 : Int) ≤ ρ 43 ∧ ρ 43 ≤ 4 := r43
  have r44 : ((-1) : Int) ≤ ρ 44 ∧ ρ 44 ≤ 19 := r44
  have r45 : ((-1) : Int) ≤ ρ 45 ∧ ρ 45 ≤ 3 := r45
  have r46 : (0 : Int) ≤ ρ 46 ∧ ρ 46 ≤ 7 := r46
  have r47 : ((-1) : Int) ≤ ρ 47 ∧ ρ 47 ≤ 7 := r47
  have r48 : (0 : Int) ≤ ρ 48 ∧ ρ 48 ≤ 8 := r48
  have r49 : (0 : Int) ≤ ρ 49 ∧ ρ 49 ≤ 4 := r49
  have r50 : ((-1) : Int) ≤ ρ 50 ∧ ρ 50 ≤ 19 := r50
  have r51 : ((-1) : Int) ≤ ρ 51 ∧ ρ 51 ≤ 3 := r51
  have r52 : (0 : Int) ≤ ρ 52 ∧ ρ 52 ≤ 7 := r52
  have r53 : ((-1) : Int) ≤ ρ 53 ∧ ρ 53 ≤ 7 := r53
  have r54 : (0 : Int) ≤ ρ 54 ∧ ρ 54 ≤ 8 := r54
  have r55 : (0 : Int) ≤ ρ 55 ∧ ρ 55 ≤ 4 := r55
  have r56 : ((-1) : Int) ≤ ρ 56 ∧ ρ 56 ≤ 19 := r56
  have r57 : ((-1) : Int) ≤ ρ 57 ∧ ρ 57 ≤ 3 := r57
  have r58 : (0 : Int) ≤ ρ 58 ∧ ρ 58 ≤ 7 := r58
  have r59 : ((-1) : Int) ≤ ρ 59 ∧ ρ 59 ≤ 7 := r59
  have r60 : (0 : Int) ≤ ρ 60 ∧ ρ 60 ≤ 8 := r60
  have r61 : (0 : Int) ≤ ρ 61 ∧ ρ 61 ≤ 4 := r61
  have r62 : ((-1) : Int) ≤ ρ 62 ∧ ρ 62 ≤ 19 := r62
  have r63 : ((-1) : Int) ≤ ρ 63 ∧ ρ 63 ≤ 3 := r63
  have r64 : (0 : Int) ≤ ρ 64 ∧ ρ 64 ≤ 7 := r64
  have r65 : ((-1) : Int) ≤ ρ 65 ∧ ρ 65 ≤ 7 := r65
  have r66 : (0 : Int) ≤ ρ 66 ∧ ρ 66 ≤ 8 := r66
  have r67 : (0 : Int) ≤ ρ 67 ∧ ρ 67 ≤ 4 := r67
  have r68 : ((-1) : Int) ≤ ρ 68 ∧ ρ 68 ≤ 19 := r68
  have r69 : ((-1) : Int) ≤ ρ 69 ∧ ρ 69 ≤ 3 := r69
  have r70 : (0 : Int) ≤ ρ 70 ∧ ρ 70 ≤ 7 := r70
  have r71 : ((-1) : Int) ≤ ρ 71 ∧ ρ 71 ≤ 7 := r71
  have r72 : (0 : Int) ≤ ρ 72 ∧ ρ 72 ≤ 8 := r72
  have r73 : (0 : Int) ≤ ρ 73 ∧ ρ 73 ≤ 4 := r73
  have r74 : ((-1) : Int) ≤ ρ 74 ∧ ρ 74 ≤ 19 := r74
  have r75 : ((-1) : Int) ≤ ρ 75 ∧ ρ 75 ≤ 3 := r75
  have r76 : (0 : Int) ≤ ρ 76 ∧ ρ 76 ≤ 7 := r76
  have r77 : ((-1) : Int) ≤ ρ 77 ∧ ρ 77 ≤ 7 := r77
  have r78 : (0 : Int) ≤ ρ 78 ∧ ρ 78 ≤ 8 := r78
  have r79 : (0 : Int) ≤ ρ 79 ∧ ρ 79 ≤ 4 := r79
  have r80 : ((-1) : Int) ≤ ρ 80 ∧ ρ 80 ≤ 19 := r80
  have r81 : ((-1) : Int) ≤ ρ 81 ∧ ρ 81 ≤ 3 := r81
  have r82 : (0 : Int) ≤ ρ 82 ∧ ρ 82 ≤ 7 := r82
  have r83 : ((-1) : Int) ≤ ρ 83 ∧ ρ 83 ≤ 7 := r83
  have r84 : (50001 : Int) ≤ ρ 84 ∧ ρ 84 ≤ 50001 := r84
  have r85 : (0 : Int) ≤ ρ 85 ∧ ρ 85 ≤ 50001 := r85
  have r86 : (0 : Int) ≤ ρ 86 ∧ ρ 86 ≤ 2000 := r86
  have r87 : (0 : Int) ≤ ρ 87 ∧ ρ 87 ≤ 2000 := r87
  have r88 : ((-2147483648) : Int) ≤ ρ 88 ∧ ρ 88 ≤ 2147483647 := r88
  obtain ⟨f0, f1, f2, f3, f4, f5, f6, f7, f8, f9, f10, f11, f12, f13, -⟩ := hf
  have f0 : (0 : Int) ≤ ρ 85 + -ρ 28 := f0
  have f1 : (0 : Int) ≤ ρ 86 + -ρ 14 := f1
  have f2 : (0 : Int) ≤ ρ 87 + -ρ 15 := f2
  have f3 : (0 : Int) ≤ -ρ 85 + (ρ 84 + (ρ 28 + -ρ 13)) + 1 := f3
  have f4 : (0 : Int) ≤ -ρ 11 + ρ 2 + (-1) := f4
  have f5 : (0 : Int) ≤ -ρ 17 + ρ 6 := f5
  have f6 : (0 : Int) ≤ -ρ 11 + ρ 2 := f6
  have f7 : (0 : Int) ≤ ρ 20 + -ρ 3 := f7
  have f8 : (0 : Int) ≤ ρ 19 + -ρ 3 := f8
  have f9 : (0 : Int) ≤ -ρ 20 + ρ 19 := f9
  have f10 : (0 : Int) ≤ ρ 15 + -ρ 4 := f10
  have f11 : (0 : Int) ≤ ρ 14 + -ρ 3 := f11
  have f12 : (0 : Int) ≤ -ρ 19 + ρ 14 := f12
  have f13 : (0 : Int) ≤ ρ 13 + -ρ 1 := f13
  obtain ⟨m0, m1, m2, m3, m4, m5, m6, m7, m8, m9, m10, m11, m12, m13, m14, m15, m16, m17, m18, m19, m20, m21, m22, m23, m24, m25, m26, m27, m28, m29, m30, m31, m32, m33, m34, m35, m36, m37, m38, m39, m40, m41, m42, m43, m44, m45, m46, m47, m48, m49, m50, m51, m52, m53, m54, m55, m56, m57, m58, m59, m60, m61, m62, m63, m64, m65, m66, m67, m68, m69, m70, m71, m72, m73, m74, m75, m76, m77, m78, m79, m80, m81, m82, m83, m84, m85, m86, m87, m88, m89, -⟩ := hm
  have m0 : γ 0 6 0 0 = ρ 1 := m0
  have m1 : γ 0 1 0 10 = ρ 2 := m1
  have m2 : γ 0 4 0 7 = ρ 3 := m2
  have m3 : γ 0 5 0 3 = ρ 4 := m3
  have m4 : γ 0 6 0 8 = ρ 5 := m4
  have m5 : γ 0 6 0 9 = ρ 6 := m5
  have m6 : γ 0 6 0 10 = ρ 7 := m6
  have m7 : γ 0 6 0 11 = ρ 8 := m7
  have m8 : γ 0 6 0 12 = ρ 9 := m8
  have m9 : γ 0 6 0 13 = ρ 10 := m9
  have m10 : γ 1 6 0 0 = ρ 13 := m10
  have m11 : γ 1 4 0 7 = ρ 14 := m11
  have m12 : γ 1 5 0 3 = ρ 15 := m12
  have m13 : γ 1 6 0 8 = ρ 16 := m13
  have m14 : γ 1 6 0 9 = ρ 17 := m14
  have m15 : γ 1 6 0 10 = ρ 18 := m15
  have m16 : γ 1 6 0 11 = ρ 19 := m16
  have m17 : γ 1 6 0 12 = ρ 20 := m17
  have m18 : γ 1 6 0 13 = ρ 21 := m18
  have m19 : γ 0 40 0 (ρ 11) = ρ 22 := m19
  have m20 : γ 0 9 (ρ 22) 3 = ρ 23 := m20
  have m21 : γ 0 10 (9 * ρ 22) 12 = ρ 24 := m21
  have m22 : γ 0 10 (9 * ρ 22) 8 = ρ 25 := m22
  have m23 : γ 0 10 (9 * ρ 22) 14 = ρ 26 := m23
  have m24 : γ 4 6 0 8 = ρ 11 := m24
  have m25 : γ 4 6 0 9 = 0 := m25
  have m26 : γ 4 6 0 10 = ρ 12 := m26
  have m27 : γ 4 6 0 13 = 0 := m27
  have m28 : γ 0 6 0 6 = ρ 27 := m28
  have m29 : γ 1 8 (ρ 27) 1 = ρ 28 := m29
  have m30 : γ 4 6 0 7 = ρ 29 := m30
  have m31 : γ 0 9 (ρ 29) 2 = ρ 30 := m31
  have m32 : γ 0 9 (ρ 29) 3 = ρ 31 := m32
  have m33 : γ 0 10 (9 * ρ 29) 5 = ρ 32 := m33
  have m34 : γ 0 10 (9 * ρ 29) 8 = ρ 33 := m34
  have m35 : γ 0 10 (9 * ρ 29) 12 = ρ 34 := m35
  have m36 : γ 0 10 (9 * ρ 29) 14 = ρ 35 := m36
  have m37 : γ 0 10 (9 * ρ 29 + 1) 4 = ρ 36 := m37
  have m38 : γ 0 10 (9 * ρ 29 + 1) 5 = ρ 37 := m38
  have m39 : γ 0 10 (9 * ρ 29 + 1) 8 = ρ 38 := m39
  have m40 : γ 0 10 (9 * ρ 29 + 1) 9 = ρ 39 := m40
  have m41 : γ 0 10 (9 * ρ 29 + 1) 10 = ρ 40 := m41
  have m42 : γ 0 10 (9 * ρ 29 + 1) 11 = ρ 41 := m42
  have m43 : γ 0 10 (9 * ρ 29 + 2) 4 = ρ 42 := m43
  have m44 : γ 0 10 (9 * ρ 29 + 2) 5 = ρ 43 := m44
  have m45 : γ 0 10 (9 * ρ 29 + 2) 8 = ρ 44 := m45
  have m46 : γ 0 10 (9 * ρ 29 + 2) 9 = ρ 45 := m46
  have m47 : γ 0 10 (9 * ρ 29 + 2) 10 = ρ 46 := m47
  have m48 : γ 0 10 (9 * ρ 29 + 2) 11 = ρ 47 := m48
  have m49 : γ 0 10 (9 * ρ 29 + 3) 4 = ρ 48 := m49
  have m50 : γ 0 10 (9 * ρ 29 + 3) 5 = ρ 49 := m50
  have m51 : γ 0 10 (9 * ρ 29 + 3) 8 = ρ 50 := m51
  have m52 : γ 0 10 (9 * ρ 29 + 3) 9 = ρ 51 := m52
  have m53 : γ 0 10 (9 * ρ 29 + 3) 10 = ρ 52 := m53
  have m54 : γ 0 10 (9 * ρ 29 + 3) 11 = ρ 53 := m54
  have m55 : γ 0 10 (9 * ρ 29 + 4) 4 = ρ 54 := m55
  have m56 : γ 0 10 (9 * ρ 29 + 4) 5 = ρ 55 := m56
  have m57 : γ 0 10 (9 * ρ 29 + 4) 8 = ρ 56 := m57
  have m58 : γ 0 10 (9 * ρ 29 + 4) 9 = ρ 57 := m58
  have m59 : γ 0 10 (9 * ρ 29 + 4) 10 = ρ 58 := m59
  have m60 : γ 0 10 (9 * ρ 29 + 4) 11 = ρ 59 := m60
  have m61 : γ 0 10 (9 * ρ 29 + 5) 4 = ρ 60 := m61
  have m62 : γ 0 10 (9 * ρ 29 + 5) 5 = ρ 61 := m62
  have m63 : γ 0 10 (9 * ρ 29 + 5) 8 = ρ 62 := m63
  have m64 : γ 0 10 (9 * ρ 29 + 5) 9 = ρ 63 := m64
  have m65 : γ 0 10 (9 * ρ 29 + 5) 10 = ρ 64 := m65
  have m66 : γ 0 10 (9 * ρ 29 + 5) 11 = ρ 65 := m66
  have m67 : γ 0 10 (9 * ρ 29 + 6) 4 = ρ 66 := m67
  have m68 : γ 0 10 (9 * ρ 29 + 6) 5 = ρ 67 := m68
  have m69 : γ 0 10 (9 * ρ 29 + 6) 8 = ρ 68 := m69
  have m70 : γ 0 10 (9 * ρ 29 + 6) 9 = ρ 69 := m70
  have m71 : γ 0 10 (9 * ρ 29 + 6) 10 = ρ 70 := m71
  have m72 : γ 0 10 (9 * ρ 29 + 6) 11 = ρ 71 := m72
  have m73 : γ 0 10 (9 * ρ 29 + 7) 4 = ρ 72 := m73
  have m74 : γ 0 10 (9 * ρ 29 + 7) 5 = ρ 73 := m74
  have m75 : γ 0 10 (9 * ρ 29 + 7) 8 = ρ 74 := m75
  have m76 : γ 0 10 (9 * ρ 29 + 7) 9 = ρ 75 := m76
  have m77 : γ 0 10 (9 * ρ 29 + 7) 10 = ρ 76 := m77
  have m78 : γ 0 10 (9 * ρ 29 + 7) 11 = ρ 77 := m78
  have m79 : γ 0 10 (9 * ρ 29 + 8) 4 = ρ 78 := m79
  have m80 : γ 0 10 (9 * ρ 29 + 8) 5 = ρ 79 := m80
  have m81 : γ 0 10 (9 * ρ 29 + 8) 8 = ρ 80 := m81
  have m82 : γ 0 10 (9 * ρ 29 + 8) 9 = ρ 81 := m82
  have m83 : γ 0 10 (9 * ρ 29 + 8) 10 = ρ 82 := m83
  have m84 : γ 0 10 (9 * ρ 29 + 8) 11 = ρ 83 := m84
  have m85 : γ 5 6 0 0 = ρ 84 := m85
  have m86 : γ 5 8 (ρ 27) 1 = ρ 85 := m86
  have m87 : γ 5 4 0 7 = ρ 86 := m87
  have m88 : γ 5 5 0 3 = ρ 87 := m88
  have m89 : γ 5 6 0 13 = ρ 88 := m89
  obtain ⟨⟨⟨⟨⟨-, c1⟩, c2⟩, c3⟩, c4⟩, c5⟩ := hc
  have c1 : ∀ (G : Nat) (k j : Int), ¬ rMdP m143_ G j → γ 1 G k j = γ 0 G k j := c1
  have c2 : ∀ (G : Nat) (k j : Int), ¬ rMdP m0_ G j → γ 2 G k j = γ 1 G k j := c2
  have c3 : ∀ (G : Nat) (k j : Int), ¬ rMdP m0_ G j → γ 3 G k j = γ 2 G k j := c3
  have c4 : ∀ (G : Nat) (k j : Int), ¬ rMdP m136_ G j → γ 4 G k j = γ 3 G k j := c4
  have c5 : ∀ (G : Nat) (k j : Int), ¬ rMdP m140_ G j → γ 5 G k j = γ 4 G k j := c5
  obtain ⟨l0, l1, l2, l3, -⟩ := hl
  have l0 : sn131 [ρ 11, ρ 22] (γ 1) 0 (ρ 22) (γ 2) := hS131 _ _ _ _ _ l0
  have l1 : sn234 [ρ 22, ρ 0, ρ 25] (γ 2) 0 1 (γ 3) := hS234 _ _ _ _ _ l1
  have l2 : sn238 [ρ 12, ρ 22, ρ 11, ρ 25, ρ 24, ρ 26, ρ 16, ρ 17, ρ 18, ρ 21] (γ 3) 0 0 (γ 4) := hS238 _ _ _ _ _ l2
  have l3 : sn261 [ρ 13, 0, ρ 27, ρ 28, ρ 29, ρ 2, ρ 14, ρ 15, ρ 11, ρ 12, ρ 19, ρ 20, 0, ρ 30, ρ 31, ρ 32, ρ 33, ρ 34, ρ 35, ρ 36, ρ 37, ρ 38, ρ 39, ρ 40, ρ 41, ρ 42, ρ 43, ρ 44, ρ 45, ρ 46, ρ 47, ρ 48, ρ 49, ρ 50, ρ 51, ρ 52, ρ 53, ρ 54, ρ 55, ρ 56, ρ 57, ρ 58, ρ 59, ρ 60, ρ 61, ρ 62, ρ 63, ρ 64, ρ 65, ρ 66, ρ 67, ρ 68, ρ 69, ρ 70, ρ 71, ρ 72, ρ 73, ρ 74, ρ 75, ρ 76, ρ 77, ρ 78, ρ 79, ρ 80, ρ 81, ρ 82, ρ 83] (γ 4) 4 0 (γ 5) := hS261 _ _ _ _ _ l3
  show sn264 [ρ 0, ρ 1, ρ 2, ρ 3, ρ 4, ρ 5, ρ 6, ρ 7, ρ 8, ρ 9, ρ 10] (γ 0) 4 0 (γ 5)
  have hD : en264 (γ 0) (1, [ρ 0, ρ 11, ρ 12], γ 1) = .inr (4, 0, γ 5) := by
    unfold en264
    refine (if_neg (show ¬ (1 : Nat) = 0 by decide)).trans ?_
    refine (if_pos (show (1 : Nat) = 1 by decide)).trans ?_
    refine (zLet_eq (show _ = γ 1 from rfl)).trans ?_
    refine (zLet_eq (show _ = ρ 0 from rfl)).trans ?_
    refine (zLet_eq (show _ = ρ 11 from rfl)).trans ?_
    refine (zLet_eq (show _ = ρ 12 from rfl)).trans ?_
    refine (zLet_eq m1).trans ?_
    refine (zLet_eq m11).trans ?_
    refine (zLet_eq m16).trans ?_
    refine (if_neg (show ¬ (ρ 11 ≥ ρ 2) by omega)).trans ?_
    refine (zLet_eq m19).trans ?_
    refine (zLet_eq (show fn131 [ρ 11] (γ 1) = (0, ρ 22, γ 2) from l0.symm)).trans ?_
    refine (zLet_eq (show _ = γ 2 from rfl)).trans ?_
    refine (if_neg (show ¬ (ρ 12 = 1) by omega)).trans ?_
    refine (zLet_eq m20).trans ?_
    refine (if_neg (show ¬ (ρ 23 ≤ 0) by omega)).trans ?_
    refine (zLet_eq m21).trans ?_
    refine (if_neg (show ¬ (ρ 24 ≠ 0) by omega)).trans ?_
    refine (zLet_eq (show fn234 [ρ 22, ρ 0] (γ 2) = (0, 1, γ 3) from l1.symm)).trans ?_
    refine (zLet_eq (show _ = γ 3 from rfl)).trans ?_
    refine (if_pos (show (1 : Int) ≤ 1 by omega)).trans ?_
    refine (zLet_eq (show fn238 [ρ 12, ρ 22, ρ 11] (γ 3) = (0, 0, γ 4) from l2.symm)).trans ?_
    refine (zLet_eq (show _ = γ 4 from rfl)).trans ?_
    refine (zLet_eq (show fn261 [] (γ 4) = (4, 0, γ 5) from l3.symm)).trans ?_
    refine (zLet_eq (show _ = γ 5 from rfl)).trans ?_
    refine (if_neg (show ¬ (4 : Nat) = 0 by decide)).trans ?_
    refine (if_neg (show ¬ (4 : Nat) = 1 by decide)).trans ?_
    rfl
  exact zGoo_aend hJ hD
theorem yn264 {S : Nat → zSpc} (hS131 : ∀ x g o v gz, S 131 x g o v gz → sn131 x g o v gz) (hS234 : ∀ x g o v gz, S 234 x g o v gz → sn234 x g o v gz) (hS238 : ∀ x g o v gz, S 238 x g o v gz → sn238 x g o v gz) (hS261 : ∀ x g o v gz, S 261 x g o v gz → sn261 x g o v gz) : ∀ x g o v gz, zSem uW uT w264_.2.2.2.1 w264_.2.2.1.1.length S q264 (fun i => q264a.getD i []) (zNA a264_) x g o v gz → sn264 x g o v gz := by
  intro a g o v gz h
  exact zSem_all (l0 := q264) (las := q264a) (S := S) (J := (fun i vs g1 => jn264 a g i vs g1)) (P := sn264 a g) (fun _ => (show zAll _ [q264_0] from (zAll_c (vn264_0 hS131 hS234 hS238 hS261) zAll_n))) (fun _ => (show zAllI _ 0 [q264a0, q264a1] from ⟨(show zAll _ [q264a0_0, q264a0_1, q264a0_2] from (zAll_c (vn264a0_0 hS131 hS234 hS238 hS261) (zAll_c (vn264a0_1 hS131 hS234 hS238 hS261) (zAll_c (vn264a0_2 hS131 hS234 hS238 hS261) zAll_n)))), ⟨(show zAll _ [q264a1_0, q264a1_1, q264a1_2, q264a1_3, q264a1_4, q264a1_5, q264a1_6, q264a1_7, q264a1_8, q264a1_9, q264a1_10, q264a1_11, q264a1_12] from (zAll_c (vn264a1_0 hS131 hS234 hS238 hS261) (zAll_c (vn264a1_1 hS131 hS234 hS238 hS261) (zAll_c (vn264a1_2 hS131 hS234 hS238 hS261) (zAll_c (vn264a1_3 hS131 hS234 hS238 hS261) (zAll_c (vn264a1_4 hS131 hS234 hS238 hS261) (zAll_c (vn264a1_5 hS131 hS234 hS238 hS261) (zAll_c (vn264a1_6 hS131 hS234 hS238 hS261) (zAll_c (vn264a1_7 hS131 hS234 hS238 hS261) (zAll_c (vn264a1_8 hS131 hS234 hS238 hS261) (zAll_c (vn264a1_9 hS131 hS234 hS238 hS261) (zAll_c (vn264a1_10 hS131 hS234 hS238 hS261) (zAll_c (vn264a1_11 hS131 hS234 hS238 hS261) (zAll_c (vn264a1_12 hS131 hS234 hS238 hS261) zAll_n)))))))))))))), trivial⟩⟩)) h
theorem vn265_0 {S : Nat → zSpc} (hS163 : ∀ x g o v gz, S 163 x g o v gz → sn163 x g o v gz) (hS223 : ∀ x g o v gz, S 223 x g o v gz → sn223 x g o v gz) (hS235 : ∀ x g o v gz, S 235 x g o v gz → sn235 x g o v gz) (hS236 : ∀ x g o v gz, S 236 x g o v gz → sn236 x g o v gz) (hS263 : ∀ x g o v gz, S 263 x g o v gz → sn263 x g o v gz) (hS264 : ∀ x g o v gz, S 264 x g o v gz → sn264 x g o v gz) {a : List Int} {g : rHp} : ∀ (ρ : Nat → Int) (γ : Nat → rHp), zO 16 S a g q265_0 ρ γ → zGl (fun i vs g1 => jn265 a g i vs g1) (sn265 a g) q265_0 ρ γ := by
  intro ρ γ h
  obtain ⟨ha, hg, hr, hf, hm, hc, hl⟩ := h
  have ha : a = [ρ 0, ρ 1, ρ 2, ρ 3, ρ 4, ρ 5, ρ 6, ρ 7, ρ 8, ρ 9, ρ 10, ρ 11, ρ 12, ρ 13, ρ 14, ρ 15] := ha
  subst ha
  subst hg
  obtain ⟨r0, r1, r2, r3, r4, r5, r6, r7, r8, r9, r10, r11, r12, r13, r14, r15, -⟩ := hr
  have r0 : (0 : Int) ≤ ρ 0 ∧ ρ 0 ≤ 2000 := r0
  have r1 : (0 : Int) ≤ ρ 1 ∧ ρ 1 ≤ 20 := r1
  have r2 : (0 : Int) ≤ ρ 2 ∧ ρ 2 ≤ 20 := r2
  have r3 : (0 : Int) ≤ ρ 3 ∧ ρ 3 ≤ 400 := r3
  have r4 : (0 : Int) ≤ ρ 4 ∧ ρ 4 ≤ 60 := r4
  have r5 : (0 : Int) ≤ ρ 5 ∧ ρ 5 ≤ 2000 := r5
  have r6 : (0 : Int) ≤ ρ 6 ∧ ρ 6 ≤ 50001 := r6
  have r7 : ((-2147483648) : Int) ≤ ρ 7 ∧ ρ 7 ≤ 2147483647 := r7
  have r8 : ((-2147483648) : Int) ≤ ρ 8 ∧ ρ 8 ≤ 2147483647 := r8
  have r9 : (0 : Int) ≤ ρ 9 ∧ ρ 9 ≤ 2000 := r9
  have r10 : ((-2147483648) : Int) ≤ ρ 10 ∧ ρ 10 ≤ 2147483647 := r10
  have r11 : (0 : Int) ≤ ρ 11 ∧ ρ 11 ≤ 2 := r11
  have r12 : ((-2147483648) : Int) ≤ ρ 12 ∧ ρ 12 ≤ 2147483647 := r12
  have r13 : (0 : Int) ≤ ρ 13 ∧ ρ 13 ≤ 2000 := r13
  have r14 : (0 : Int) ≤ ρ 14 ∧ ρ 14 ≤ 2000 := r14
  have r15 : ((-2147483648) : Int) ≤ ρ 15 ∧ ρ 15 ≤ 2147483647 := r15
  obtain ⟨m0, m1, m2, m3, m4, m5, m6, m7, m8, m9, m10, m11, m12, m13, m14, m15, m16, -⟩ := hm
  have m0 : γ 0 2 0 3 = ρ 0 := m0
  have m1 : γ 0 1 0 7 = ρ 1 := m1
  have m2 : γ 0 1 0 8 = ρ 2 := m2
  have m3 : γ 0 1 0 9 = ρ 3 := m3
  have m4 : γ 0 1 0 10 = ρ 4 := m4
  have m5 : γ 0 4 0 7 = ρ 5 := m5
  have m6 : γ 0 6 0 0 = ρ 6 := m6
  have m7 : γ 0 0 0 8 = ρ 7 := m7
  have m8 : γ 0 0 0 9 = ρ 8 := m8
  have m9 : γ 0 5 0 3 = ρ 9 := m9
  have m10 : γ 0 6 0 8 = ρ 10 := m10
  have m11 : γ 0 6 0 9 = ρ 11 := m11
  have m12 : γ 0 6 0 10 = ρ 12 := m12
  have m13 : γ 0 6 0 11 = ρ 13 := m13
  have m14 : γ 0 6 0 12 = ρ 14 := m14
  have m15 : γ 0 6 0 13 = ρ 15 := m15
  have m16 : γ 2 1 0 8 = ρ 2 := m16
  obtain ⟨⟨-, c1⟩, c2⟩ := hc
  have c1 : ∀ (G : Nat) (k j : Int), ¬ rMdP m111_ G j → γ 1 G k j = γ 0 G k j := c1
  have c2 : ∀ (G : Nat) (k j : Int), ¬ rMdP m131_ G j → γ 2 G k j = γ 1 G k j := c2
  obtain ⟨l0, l1, -⟩ := hl
  have l0 : sn163 [] (γ 0) 0 0 (γ 1) := hS163 _ _ _ _ _ l0
  have l1 : sn223 [ρ 1, ρ 2, ρ 4] (γ 1) 0 0 (γ 2) := hS223 _ _ _ _ _ l1
  show sn265 [ρ 0, ρ 1, ρ 2, ρ 3, ρ 4, ρ 5, ρ 6, ρ 7, ρ 8, ρ 9, ρ 10, ρ 11, ρ 12, ρ 13, ρ 14, ρ 15] (γ 0) 3 0 (γ 2)
  have hD : dn265 [] (γ 0) = .inr (3, 0, γ 2) := by
    unfold dn265
    refine (zLet_eq (show fn163 [] (γ 0) = (0, 0, γ 1) from l0.symm)).trans ?_
    refine (zLet_eq (show _ = γ 1 from rfl)).trans ?_
    refine (zLet_eq (show fn223 [] (γ 1) = (0, 0, γ 2) from l1.symm)).trans ?_
    refine (zLet_eq (show _ = γ 2 from rfl)).trans ?_
    refine (if_neg (show ¬ ((1 : Int) ≤ 0) by omega)).trans ?_
    rfl
  exact zGoo_end hD
theorem vn265_1 {S : Nat → zSpc} (hS163 : ∀ x g o v gz, S 163 x g o v gz → sn163 x g o v gz) (hS223 : ∀ x g o v gz, S 223 x g o v gz → sn223 x g o v gz) (hS235 : ∀ x g o v gz, S 235 x g o v gz → sn235 x g o v gz) (hS236 : ∀ x g o v gz, S 236 x g o v gz → sn236 x g o v gz) (hS263 : ∀ x g o v gz, S 263 x g o v gz → sn263 x g o v gz) (hS264 : ∀ x g o v gz, S 264 x g o v gz → sn264 x g o v gz) {a : List Int} {g : rHp} : ∀ (ρ : Nat → Int) (γ : Nat → rHp), zO 16 S a g q265_1 ρ γ → zGl (fun i vs g1 => jn265 a g i vs g1) (sn265 a g) q265_1 ρ γ := by
  intro ρ γ h
  obtain ⟨ha, hg, hr, hf, hm, hc, hl⟩ := h
  have ha : a = [ρ 0, ρ 1, ρ 2, ρ 3, ρ 4, ρ 5, ρ 6, ρ 7, ρ 8, ρ 9, ρ 10, ρ 11, ρ 12, ρ 13, ρ 14, ρ 15] := ha
  subst ha
  subst hg
  obtain ⟨r0, r1, r2, r3, r4, r5, r6, r7, r8, r9, r10, r11, r12, r13, r14, r15, r16, -⟩ := hr
  have r0 : (0 : Int) ≤ ρ 0 ∧ ρ 0 ≤ 2000 := r0
  have r1 : (0 : Int) ≤ ρ 1 ∧ ρ 1 ≤ 20 := r1
  have r2 : (0 : Int) ≤ ρ 2 ∧ ρ 2 ≤ 20 := r2
  have r3 : (0 : Int) ≤ ρ 3 ∧ ρ 3 ≤ 400 := r3
  have r4 : (0 : Int) ≤ ρ 4 ∧ ρ 4 ≤ 60 := r4
  have r5 : (0 : Int) ≤ ρ 5 ∧ ρ 5 ≤ 2000 := r5
  have r6 : (0 : Int) ≤ ρ 6 ∧ ρ 6 ≤ 50001 := r6
  have r7 : ((-2147483648) : Int) ≤ ρ 7 ∧ ρ 7 ≤ 2147483647 := r7
  have r8 : ((-2147483648) : Int) ≤ ρ 8 ∧ ρ 8 ≤ 2147483647 := r8
  have r9 : (0 : Int) ≤ ρ 9 ∧ ρ 9 ≤ 2000 := r9
  have r10 : ((-2147483648) : Int) ≤ ρ 10 ∧ ρ 10 ≤ 2147483647 := r10
  have r11 : (0 : Int) ≤ ρ 11 ∧ ρ 11 ≤ 2 := r11
  have r12 : ((-2147483648) : Int) ≤ ρ 12 ∧ ρ 12 ≤ 2147483647 := r12
  have r13 : (0 : Int) ≤ ρ 13 ∧ ρ 13 ≤ 2000 := r13
  have r14 : (0 : Int) ≤ ρ 14 ∧ ρ 14 ≤ 2000 := r14
  have r15 : ((-2147483648) : Int) ≤ ρ 15 ∧ ρ 15 ≤ 2147483647 := r15
  have r16 : (0 : Int) ≤ ρ 16 ∧ ρ 16 ≤ 20 := r16
  obtain ⟨m0, m1, m2, m3, m4, m5, m6, m7, m8, m9, m10, m11, m12, m13, m14, m15, m16, m17, m18, -⟩ := hm
  have m0 : γ 0 2 0 3 = ρ 0 := m0
  have m1 : γ 0 1 0 7 = ρ 1 := m1
  have m2 : γ 0 1 0 8 = ρ 2 := m2
  have m3 : γ 0 1 0 9 = ρ 3 := m3
  have m4 : γ 0 1 0 10 = ρ 4 := m4
  have m5 : γ 0 4 0 7 = ρ 5 := m5
  have m6 : γ 0 6 0 0 = ρ 6 := m6
  have m7 : γ 0 0 0 8 = ρ 7 := m7
  have m8 : γ 0 0 0 9 = ρ 8 := m8
  have m9 : γ 0 5 0 3 = ρ 9 := m9
  have m10 : γ 0 6 0 8 = ρ 10 := m10
  have m11 : γ 0 6 0 9 = ρ 11 := m11
  have m12 : γ 0 6 0 10 = ρ 12 := m12
  have m13 : γ 0 6 0 11 = ρ 13 := m13
  have m14 : γ 0 6 0 12 = ρ 14 := m14
  have m15 : γ 0 6 0 13 = ρ 15 := m15
  have m16 : γ 2 1 0 8 = ρ 16 := m16
  have m17 : γ 3 4 0 7 = 0 := m17
  have m18 : γ 3 6 0 0 = 0 := m18
  obtain ⟨⟨⟨-, c1⟩, c2⟩, c3⟩ := hc
  have c1 : ∀ (G : Nat) (k j : Int), ¬ rMdP m111_ G j → γ 1 G k j = γ 0 G k j := c1
  have c2 : ∀ (G : Nat) (k j : Int), ¬ rMdP m131_ G j → γ 2 G k j = γ 1 G k j := c2
  have c3 : ∀ (G : Nat) (k j : Int), ¬ rMdP m135_ G j → γ 3 G k j = γ 2 G k j := c3
  obtain ⟨l0, l1, l2, -⟩ := hl
  have l0 : sn163 [] (γ 0) 0 0 (γ 1) := hS163 _ _ _ _ _ l0
  have l1 : sn223 [ρ 1, ρ 2, ρ 4] (γ 1) 0 1 (γ 2) := hS223 _ _ _ _ _ l1
  have l2 : sn236 [ρ 5, ρ 6] (γ 2) 0 0 (γ 3) := hS236 _ _ _ _ _ l2
  show jn265 [ρ 0, ρ 1, ρ 2, ρ 3, ρ 4, ρ 5, ρ 6, ρ 7, ρ 8, ρ 9, ρ 10, ρ 11, ρ 12, ρ 13, ρ 14, ρ 15] (γ 0) 0 [ρ 0, ρ 1, ρ 2, ρ 3, ρ 4, ρ 5, ρ 6, ρ 7, ρ 8, ρ 9, ρ 10, ρ 11, ρ 12, ρ 13, ρ 14, ρ 15, 0, 0, ρ 16, 0, 0, ρ 9, ρ 10, ρ 11, ρ 12, ρ 13, ρ 14, ρ 15] (γ 3)
  have hD : dn265 [] (γ 0) = .inl (0, [0, 0], γ 3) := by
    unfold dn265
    refine (zLet_eq (show fn163 [] (γ 0) = (0, 0, γ 1) from l0.symm)).trans ?_
    refine (zLet_eq (show _ = γ 1 from rfl)).trans ?_
    refine (zLet_eq (show fn223 [] (γ 1) = (0, 1, γ 2) from l1.symm)).trans ?_
    refine (zLet_eq (show _ = γ 2 from rfl)).trans ?_
    refine (if_pos (show (1 : Int) ≤ 1 by omega)).trans ?_
    refine (zLet_eq (show fn236 [] (γ 2) = (0, 0, γ 3) from l2.symm)).trans ?_
    refine (zLet_eq (show _ = γ 3 from rfl)).trans ?_
    rfl
  exact zGoo_to hD
theorem vn265a0_0 {S : Nat → zSpc} (hS163 : ∀ x g o v gz, S 163 x g o v gz → sn163 x g o v gz) (hS223 : ∀ x g o v gz, S 223 x g o v gz → sn223 x g o v gz) (hS235 : ∀ x g o v gz, S 235 x g o v gz → sn235 x g o v gz) (hS236 : ∀ x g o v gz, S 236 x g o v gz → sn236 x g o v gz) (hS263 : ∀ x g o v gz, S 263 x g o v gz → sn263 x g o v gz) (hS264 : ∀ x g o v gz, S 264 x g o v gz → sn264 x g o v gz) {a : List Int} {g : rHp} : ∀ (ρ : Nat → Int) (γ : Nat → rHp), jn265 a g 0 (zAg (zNA a265_ 0) ρ) (γ 1) → zO 16 S a g q265a0_0 ρ γ → zGl (fun i vs g1 => jn265 a g i vs g1) (sn265 a g) q265a0_0 ρ γ := by
  intro ρ γ hJ h
  obtain ⟨ha, hg, hr, hf, hm, hc, hl⟩ := h
  have ha : a = [ρ 0, ρ 1, ρ 2, ρ 3, ρ 4, ρ 5, ρ 6, ρ 7, ρ 8, ρ 9, ρ 10, ρ 11, ρ 12, ρ 13, ρ 14, ρ 15] := ha
  subst ha
  subst hg
  have hJ : jn265 [ρ 0, ρ 1, ρ 2, ρ 3, ρ 4, ρ 5, ρ 6, ρ 7, ρ 8, ρ 9, ρ 10, ρ 11, ρ 12, ρ 13, ρ 14, ρ 15] (γ 0) 0 [ρ 0, ρ 1, ρ 2, ρ 3, ρ 4, ρ 5, ρ 6, ρ 7, ρ 8, ρ 9, ρ 10, ρ 11, ρ 12, ρ 13, ρ 14, ρ 15, ρ 16, ρ 17, ρ 18, ρ 19, ρ 20, ρ 21, ρ 22, ρ 23, ρ 24, ρ 25, ρ 26, ρ 27] (γ 1) := hJ
  obtain ⟨r0, r1, r2, r3, r4, r5, r6, r7, r8, r9, r10, r11, r12, r13, r14, r15, r16, r17, r18, r19, r20, r21, r22, r23, r24, r25, r26, r27, -⟩ := hr
  have r0 : (0 : Int) ≤ ρ 0 ∧ ρ 0 ≤ 2000 := r0
  have r1 : (0 : Int) ≤ ρ 1 ∧ ρ 1 ≤ 20 := r1
  have r2 : (0 : Int) ≤ ρ 2 ∧ ρ 2 ≤ 20 := r2
  have r3 : (0 : Int) ≤ ρ 3 ∧ ρ 3 ≤ 400 := r3
  have r4 : (0 : Int) ≤ ρ 4 ∧ ρ 4 ≤ 60 := r4
  have r5 : (0 : Int) ≤ ρ 5 ∧ ρ 5 ≤ 2000 := r5
  have r6 : (0 : Int) ≤ ρ 6 ∧ ρ 6 ≤ 50001 := r6
  have r7 : ((-2147483648) : Int) ≤ ρ 7 ∧ ρ 7 ≤ 2147483647 := r7
  have r8 : ((-2147483648) : Int) ≤ ρ 8 ∧ ρ 8 ≤ 2147483647 := r8
  have r9 : (0 : Int) ≤ ρ 9 ∧ ρ 9 ≤ 2000 := r9
  have r10 : ((-2147483648) : Int) ≤ ρ 10 ∧ ρ 10 ≤ 2147483647 := r10
  have r11 : (0 : Int) ≤ ρ 11 ∧ ρ 11 ≤ 2 := r11
  have r12 : ((-2147483648) : Int) ≤ ρ 12 ∧ ρ 12 ≤ 2147483647 := r12
  have r13 : (0 : Int) ≤ ρ 13 ∧ ρ 13 ≤ 2000 := r13
  have r14 : (0 : Int) ≤ ρ 14 ∧ ρ 14 ≤ 2000 := r14
  have r15 : ((-2147483648) : Int) ≤ ρ 15 ∧ ρ 15 ≤ 2147483647 := r15
  have r16 : (0 : Int) ≤ ρ 16 ∧ ρ 16 ≤ 20 := r16
  have r17 : ((-2147483648) : Int) ≤ ρ 17 ∧ ρ 17 ≤ 2147483647 := r17
  have r18 : (0 : Int) ≤ ρ 18 ∧ ρ 18 ≤ 20 := r18
  have r19 : (0 : Int) ≤ ρ 19 ∧ ρ 19 ≤ 2000 := r19
  have r20 : (0 : Int) ≤ ρ 20 ∧ ρ 20 ≤ 50000 := r20
  have r21 : (0 : Int) ≤ ρ 21 ∧ ρ 21 ≤ 2000 := r21
  have r22 : ((-2147483648) : Int) ≤ ρ 22 ∧ ρ 22 ≤ 2147483647 := r22
  have r23 : (0 : Int) ≤ ρ 23 ∧ ρ 23 ≤ 2 := r23
  have r24 : ((-2147483648) : Int) ≤ ρ 24 ∧ ρ 24 ≤ 2147483647 := r24
  have r25 : (0 : Int) ≤ ρ 25 ∧ ρ 25 ≤ 2000 := r25
  have r26 : (0 : Int) ≤ ρ 26 ∧ ρ 26 ≤ 2000 := r26
  have r27 : ((-2147483648) : Int) ≤ ρ 27 ∧ ρ 27 ≤ 2147483647 := r27
  obtain ⟨f0, f1, -⟩ := hf
  have f0 : (0 : Int) ≤ -ρ 18 + ρ 16 := f0
  have f1 : (0 : Int) ≤ ρ 18 + -ρ 16 := f1
  obtain ⟨m0, m1, m2, m3, m4, m5, m6, m7, m8, m9, m10, m11, m12, m13, m14, m15, m16, m17, m18, m19, m20, m21, m22, m23, m24, m25, -⟩ := hm
  have m0 : γ 0 2 0 3 = ρ 0 := m0
  have m1 : γ 0 1 0 7 = ρ 1 := m1
  have m2 : γ 0 1 0 8 = ρ 2 := m2
  have m3 : γ 0 1 0 9 = ρ 3 := m3
  have m4 : γ 0 1 0 10 = ρ 4 := m4
  have m5 : γ 0 4 0 7 = ρ 5 := m5
  have m6 : γ 0 6 0 0 = ρ 6 := m6
  have m7 : γ 0 0 0 8 = ρ 7 := m7
  have m8 : γ 0 0 0 9 = ρ 8 := m8
  have m9 : γ 0 5 0 3 = ρ 9 := m9
  have m10 : γ 0 6 0 8 = ρ 10 := m10
  have m11 : γ 0 6 0 9 = ρ 11 := m11
  have m12 : γ 0 6 0 10 = ρ 12 := m12
  have m13 : γ 0 6 0 11 = ρ 13 := m13
  have m14 : γ 0 6 0 12 = ρ 14 := m14
  have m15 : γ 0 6 0 13 = ρ 15 := m15
  have m16 : γ 1 1 0 8 = ρ 18 := m16
  have m17 : γ 1 4 0 7 = ρ 19 := m17
  have m18 : γ 1 6 0 0 = ρ 20 := m18
  have m19 : γ 1 5 0 3 = ρ 21 := m19
  have m20 : γ 1 6 0 8 = ρ 22 := m20
  have m21 : γ 1 6 0 9 = ρ 23 := m21
  have m22 : γ 1 6 0 10 = ρ 24 := m22
  have m23 : γ 1 6 0 11 = ρ 25 := m23
  have m24 : γ 1 6 0 12 = ρ 26 := m24
  have m25 : γ 1 6 0 13 = ρ 27 := m25
  obtain ⟨⟨⟨⟨-, c1⟩, c2⟩, c3⟩, c4⟩ := hc
  have c1 : ∀ (G : Nat) (k j : Int), ¬ rMdP m145_ G j → γ 1 G k j = γ 0 G k j := c1
  have c2 : γ 2 = rUp (γ 1) 0 0 9 (ρ 17) := c2
  have c3 : γ 3 = rUp (γ 2) 0 0 8 (ρ 20) := c3
  have c4 : γ 4 = rUp (γ 3) 0 0 7 1 := c4
  show sn265 [ρ 0, ρ 1, ρ 2, ρ 3, ρ 4, ρ 5, ρ 6, ρ 7, ρ 8, ρ 9, ρ 10, ρ 11, ρ 12, ρ 13, ρ 14, ρ 15] (γ 0) 0 (ρ 19) (γ 4)
  have hD : en265 (γ 0) (0, [ρ 16, ρ 17], γ 1) = .inr (0, ρ 19, γ 4) := by
    unfold en265
    refine (if_pos (show (0 : Nat) = 0 by decide)).trans ?_
    refine (zLet_eq (show _ = γ 1 from rfl)).trans ?_
    refine (zLet_eq (show _ = ρ 16 from rfl)).trans ?_
    refine (zLet_eq (show _ = ρ 17 from rfl)).trans ?_
    refine (zLet_eq m16).trans ?_
    refine (zLet_eq m17).trans ?_
    refine (zLet_eq m18).trans ?_
    refine (if_pos (show ρ 16 ≥ ρ 18 by omega)).trans ?_
    refine (zLet_eq c2.symm).trans ?_
    refine (zLet_eq c3.symm).trans ?_
    refine (zLet_eq c4.symm).trans ?_
    rfl
  exact zGoo_aend hJ hD
theorem vn265a0_1 {S : Nat → zSpc} (hS163 : ∀ x g o v gz, S 163 x g o v gz → sn163 x g o v gz) (hS223 : ∀ x g o v gz, S 223 x g o v gz → sn223 x g o v gz) (hS235 : ∀ x g o v gz, S 235 x g o v gz → sn235 x g o v gz) (hS236 : ∀ x g o v gz, S 236 x g o v gz → sn236 x g o v gz) (hS263 : ∀ x g o v gz, S 263 x g o v gz → sn263 x g o v gz) (hS264 : ∀ x g o v gz, S 264 x g o v gz → sn264 x g o v gz) {a : List Int} {g : rHp} : ∀ (ρ : Nat → Int) (γ : Nat → rHp), jn265 a g 0 (zAg (zNA a265_ 0) ρ) (γ 1) → zO 16 S a g q265a0_1 ρ γ → zGl (fun i vs g1 => jn265 a g i vs g1) (sn265 a g) q265a0_1 ρ γ := by
  intro ρ γ hJ h
  obtain ⟨ha, hg, hr, hf, hm, hc, hl⟩ := h
  have ha : a = [ρ 0, ρ 1, ρ 2, ρ 3, ρ 4, ρ 5, ρ 6, ρ 7, ρ 8, ρ 9, ρ 10, ρ 11, ρ 12, ρ 13, ρ 14, ρ 15] := ha
  subst ha
  subst hg
  have hJ : jn265 [ρ 0, ρ 1, ρ 2, ρ 3, ρ 4, ρ 5, ρ 6, ρ 7, ρ 8, ρ 9, ρ 10, ρ 11, ρ 12, ρ 13, ρ 14, ρ 15] (γ 0) 0 [ρ 0, ρ 1, ρ 2, ρ 3, ρ 4, ρ 5, ρ 6, ρ 7, ρ 8, ρ 9, ρ 10, ρ 11, ρ 12, ρ 13, ρ 14, ρ 15, ρ 16, ρ 17, ρ 18, ρ 19, ρ 20, ρ 21, ρ 22, ρ 23, ρ 24, ρ 25, ρ 26, ρ 27] (γ 1) := hJ
  obtain ⟨r0, r1, r2, r3, r4, r5, r6, r7, r8, r9, r10, r11, r12, r13, r14, r15, r16, r17, r18, r19, r20, r21, r22, r23, r24, r25, r26, r27, r28, r29, r30, r31, r32, r33, r34, r35, r36, r37, r38, r39, r40, r41, r42, r43, r44, r45, r46, r47, -⟩ := hr
  have r0 : (0 : Int) ≤ ρ 0 ∧ ρ 0 ≤ 2000 := r0
  have r1 : (0 : Int) ≤ ρ 1 ∧ ρ 1 ≤ 20 := r1
  have r2 : (0 : Int) ≤ ρ 2 ∧ ρ 2 ≤ 20 := r2
  have r3 : (0 : Int) ≤ ρ 3 ∧ ρ 3 ≤ 400 := r3
  have r4 : (0 : Int) ≤ ρ 4 ∧ ρ 4 ≤ 60 := r4
  have r5 : (0 : Int) ≤ ρ 5 ∧ ρ 5 ≤ 2000 := r5
  have r6 : (0 : Int) ≤ ρ 6 ∧ ρ 6 ≤ 50001 := r6
  have r7 : ((-2147483648) : Int) ≤ ρ 7 ∧ ρ 7 ≤ 2147483647 := r7
  have r8 : ((-2147483648) : Int) ≤ ρ 8 ∧ ρ 8 ≤ 2147483647 := r8
  have r9 : (0 : Int) ≤ ρ 9 ∧ ρ 9 ≤ 2000 := r9
  have r10 : ((-2147483648) : Int) ≤ ρ 10 ∧ ρ 10 ≤ 2147483647 := r10
  have r11 : (0 : Int) ≤ ρ 11 ∧ ρ 11 ≤ 2 := r11
  have r12 : ((-2147483648) : Int) ≤ ρ 12 ∧ ρ 12 ≤ 2147483647 := r12
  have r13 : (0 : Int) ≤ ρ 13 ∧ ρ 13 ≤ 2000 := r13
  have r14 : (0 : Int) ≤ ρ 14 ∧ ρ 14 ≤ 2000 := r14
  have r15 : ((-2147483648) : Int) ≤ ρ 15 ∧ ρ 15 ≤ 2147483647 := r15
  have r16 : (0 : Int) ≤ ρ 16 ∧ ρ 16 ≤ 20 := r16
  have r17 : ((-2147483648) : Int) ≤ ρ 17 ∧ ρ 17 ≤ 2147483647 := r17
  have r18 : (0 : Int) ≤ ρ 18 ∧ ρ 18 ≤ 20 := r18
  have r19 : (0 : Int) ≤ ρ 19 ∧ ρ 19 ≤ 2000 := r19
  have r20 : (0 : Int) ≤ ρ 20 ∧ ρ 20 ≤ 50000 := r20
  have r21 : (0 : Int) ≤ ρ 21 ∧ ρ 21 ≤ 2000 := r21
  have r22 : ((-2147483648) : Int) ≤ ρ 22 ∧ ρ 22 ≤ 2147483647 := r22
  have r23 : (0 : Int) ≤ ρ 23 ∧ ρ 23 ≤ 2 := r23
  have r24 : ((-2147483648) : Int) ≤ ρ 24 ∧ ρ 24 ≤ 2147483647 := r24
  have r25 : (0 : Int) ≤ ρ 25 ∧ ρ 25 ≤ 2000 := r25
  have r26 : (0 : Int) ≤ ρ 26 ∧ ρ 26 ≤ 2000 := r26
  have r27 : ((-2147483648) : Int) ≤ ρ 27 ∧ ρ 27 ≤ 2147483647 := r27
  have r28 : (0 : Int) ≤ ρ 28 ∧ ρ 28 ≤ 2000 := r28
  have r29 : (0 : Int) ≤ ρ 29 ∧ ρ 29 ≤ 50000 := r29
  have r30 : (0 : Int) ≤ ρ 30 ∧ ρ 30 ≤ 2000 := r30
  have r31 : (0 : Int) ≤ ρ 31 ∧ ρ 31 ≤ 2000 := r31
  have r32 : ((-2147483648) : Int) ≤ ρ 32 ∧ ρ 32 ≤ 2147483647 := r32
  have r33 : (0 : Int) ≤ ρ 33 ∧ ρ 33 ≤ 2 := r33
  have r34 : ((-2147483648) : Int) ≤ ρ 34 ∧ ρ 34 ≤ 2147483647 := r34
  have r35 : (0 : Int) ≤ ρ 35 ∧ ρ 35 ≤ 2000 := r35
  have r36 : ((-2147483648) : Int) ≤ ρ 36 ∧ ρ 36 ≤ 2147483647 := r36
  have r37 : (0 : Int) ≤ ρ 37 ∧ ρ 37 ≤ 2001 := r37
  have r38 : (0 : Int) ≤ ρ 38 ∧ ρ 38 ≤ 50000 := r38
  have r39 : (0 : Int) ≤ ρ 39 ∧ ρ 39 ≤ 2000 := r39
  have r40 : (0 : Int) ≤ ρ 40 ∧ ρ 40 ≤ 2000 := r40
  have r41 : ((-2147483648) : Int) ≤ ρ 41 ∧ ρ 41 ≤ 2147483647 := r41
  have r42 : (0 : Int) ≤ ρ 42 ∧ ρ 42 ≤ 2 := r42
  have r43 : ((-2147483648) : Int) ≤ ρ 43 ∧ ρ 43 ≤ 2147483647 := r43
  have r44 : (0 : Int) ≤ ρ 44 ∧ ρ 44 ≤ 2000 := r44
  have r45 : (0 : Int) ≤ ρ 45 ∧ ρ 45 ≤ 2000 := r45
  have r46 : ((-2147483648) : Int) ≤ ρ 46 ∧ ρ 46 ≤ 2147483647 := r46
  have r47 : ((-2147483648) : Int) ≤ ρ 47 ∧ ρ 47 ≤ 2147483647 := r47
  obtain ⟨f0, f1, f2, f3, f4, f5, f6, f7, f8, f9, f10, -⟩ := hf
  have f0 : (0 : Int) ≤ ρ 38 + -ρ 29 := f0
  have f1 : (0 : Int) ≤ -ρ 45 + ρ 39 := f1
  have f2 : (0 : Int) ≤ ρ 39 + -ρ 30 := f2
  have f3 : (0 : Int) ≤ ρ 40 + -ρ 31 := f3
  have f4 : (0 : Int) ≤ ρ 45 + -ρ 30 := f4
  have f5 : (0 : Int) ≤ -ρ 42 + ρ 33 := f5
  have f6 : (0 : Int) ≤ ρ 29 + -ρ 20 := f6
  have f7 : (0 : Int) ≤ ρ 30 + -ρ 28 := f7
  have f8 : (0 : Int) ≤ ρ 28 + -ρ 19 := f8
  have f9 : (0 : Int) ≤ ρ 18 + -ρ 16 + (-1) := f9
  have f10 : (0 : Int) ≤ ρ 18 + -ρ 16 := f10
  obtain ⟨m0, m1, m2, m3, m4, m5, m6, m7, m8, m9, m10, m11, m12, m13, m14, m15, m16, m17, m18, m19, m20, m21, m22, m23, m24, m25, m26, m27, m28, m29, m30, m31, m32, m33, m34, m35, m36, m37, m38, m39, m40, m41, m42, m43, -⟩ := hm
  have m0 : γ 0 2 0 3 = ρ 0 := m0
  have m1 : γ 0 1 0 7 = ρ 1 := m1
  have m2 : γ 0 1 0 8 = ρ 2 := m2
  have m3 : γ 0 1 0 9 = ρ 3 := m3
  have m4 : γ 0 1 0 10 = ρ 4 := m4
  have m5 : γ 0 4 0 7 = ρ 5 := m5
  have m6 : γ 0 6 0 0 = ρ 6 := m6
  have m7 : γ 0 0 0 8 = ρ 7 := m7
  have m8 : γ 0 0 0 9 = ρ 8 := m8
  have m9 : γ 0 5 0 3 = ρ 9 := m9
  have m10 : γ 0 6 0 8 = ρ 10 := m10
  have m11 : γ 0 6 0 9 = ρ 11 := m11
  have m12 : γ 0 6 0 10 = ρ 12 := m12
  have m13 : γ 0 6 0 11 = ρ 13 := m13
  have m14 : γ 0 6 0 12 = ρ 14 := m14
  have m15 : γ 0 6 0 13 = ρ 15 := m15
  have m16 : γ 1 1 0 8 = ρ 18 := m16
  have m17 : γ 1 4 0 7 = ρ 19 := m17
  have m18 : γ 1 6 0 0 = ρ 20 := m18
  have m19 : γ 1 5 0 3 = ρ 21 := m19
  have m20 : γ 1 6 0 8 = ρ 22 := m20
  have m21 : γ 1 6 0 9 = ρ 23 := m21
  have m22 : γ 1 6 0 10 = ρ 24 := m22
  have m23 : γ 1 6 0 11 = ρ 25 := m23
  have m24 : γ 1 6 0 12 = ρ 26 := m24
  have m25 : γ 1 6 0 13 = ρ 27 := m25
  have m26 : γ 2 4 0 7 = ρ 28 := m26
  have m27 : γ 3 6 0 0 = ρ 29 := m27
  have m28 : γ 3 4 0 7 = ρ 30 := m28
  have m29 : γ 3 5 0 3 = ρ 31 := m29
  have m30 : γ 3 6 0 8 = ρ 32 := m30
  have m31 : γ 3 6 0 9 = ρ 33 := m31
  have m32 : γ 3 6 0 10 = ρ 34 := m32
  have m33 : γ 3 6 0 11 = ρ 35 := m33
  have m34 : γ 3 6 0 13 = ρ 36 := m34
  have m35 : γ 4 6 0 0 = ρ 38 := m35
  have m36 : γ 4 4 0 7 = ρ 39 := m36
  have m37 : γ 4 5 0 3 = ρ 40 := m37
  have m38 : γ 4 6 0 8 = ρ 41 := m38
  have m39 : γ 4 6 0 9 = ρ 42 := m39
  have m40 : γ 4 6 0 10 = ρ 43 := m40
  have m41 : γ 4 6 0 11 = ρ 44 := m41
  have m42 : γ 4 6 0 12 = ρ 45 := m42
  have m43 : γ 4 6 0 13 = ρ 46 := m43
  obtain ⟨⟨⟨⟨-, c1⟩, c2⟩, c3⟩, c4⟩ := hc
  have c1 : ∀ (G : Nat) (k j : Int), ¬ rMdP m145_ G j → γ 1 G k j = γ 0 G k j := c1
  have c2 : ∀ (G : Nat) (k j : Int), ¬ rMdP m134_ G j → γ 2 G k j = γ 1 G k j := c2
  have c3 : ∀ (G : Nat) (k j : Int), ¬ rMdP m142_ G j → γ 3 G k j = γ 2 G k j := c3
  have c4 : ∀ (G : Nat) (k j : Int), ¬ rMdP m143_ G j → γ 4 G k j = γ 3 G k j := c4
  obtain ⟨l0, l1, l2, l3, -⟩ := hl
  have l0 : sn235 [ρ 16, ρ 3, ρ 19] (γ 1) 0 0 (γ 2) := hS235 _ _ _ _ _ l0
  have l1 : sn263 [ρ 16, ρ 20, ρ 4, ρ 28, ρ 21, ρ 22, ρ 23, ρ 24, ρ 25, ρ 26, ρ 27] (γ 2) 0 0 (γ 3) := hS263 _ _ _ _ _ l1
  have l2 : sn264 [ρ 16, ρ 29, ρ 4, ρ 30, ρ 31, ρ 32, ρ 33, ρ 34, ρ 35, ρ 26, ρ 36] (γ 3) 0 (ρ 37) (γ 4) := hS264 _ _ _ _ _ l2
  have l3 : zOpP (.iadd) (γ 0) (γ 1) [ρ 17, ρ 37] (ρ 47) := l3
  show jn265 [ρ 0, ρ 1, ρ 2, ρ 3, ρ 4, ρ 5, ρ 6, ρ 7, ρ 8, ρ 9, ρ 10, ρ 11, ρ 12, ρ 13, ρ 14, ρ 15] (γ 0) 0 [ρ 0, ρ 1, ρ 2, ρ 3, ρ 4, ρ 5, ρ 6, ρ 7, ρ 8, ρ 9, ρ 10, ρ 11, ρ 12, ρ 13, ρ 14, ρ 15, ρ 16 + 1, ρ 47, ρ 18, ρ 39, ρ 38, ρ 40, ρ 41, ρ 42, ρ 43, ρ 44, ρ 45, ρ 46] (γ 4)
  have hD : en265 (γ 0) (0, [ρ 16, ρ 17], γ 1) = .inl (0, [ρ 16 + 1, ρ 47], γ 4) := by
    unfold en265
    refine (if_pos (show (0 : Nat) = 0 by decide)).trans ?_
    refine (zLet_eq (show _ = γ 1 from rfl)).trans ?_
    refine (zLet_eq (show _ = ρ 16 from rfl)).trans ?_
    refine (zLet_eq (show _ = ρ 17 from rfl)).trans ?_
    refine (zLet_eq m16).trans ?_
    refine (zLet_eq m17).trans ?_
    refine (zLet_eq m18).trans ?_
    refine (if_neg (show ¬ (ρ 16 ≥ ρ 18) by omega)).trans ?_
    refine (zLet_eq (show fn235 [ρ 16] (γ 1) = (0, 0, γ 2) from l0.symm)).trans ?_
    refine (zLet_eq (show _ = γ 2 from rfl)).trans ?_
    refine (if_pos (show (0 : Nat) = 0 by decide)).trans ?_
    refine (zLet_eq (show fn263 [ρ 16] (γ 2) = (0, 0, γ 3) from l1.symm)).trans ?_
    refine (zLet_eq (show _ = γ 3 from rfl)).trans ?_
    refine (if_pos (show (0 : Nat) = 0 by decide)).trans ?_
    refine (zLet_eq (show fn264 [ρ 16] (γ 3) = (0, ρ 37, γ 4) from l2.symm)).trans ?_
    refine (zLet_eq (show _ = γ 4 from rfl)).trans ?_
    refine (if_pos (show (0 : Nat) = 0 by decide)).trans ?_
    refine (zLet_eq (show _ = ρ 37 from rfl)).trans ?_
    refine (zLet_eq (zF2_ok l3)).trans ?_
    rfl
  exact zGoo_ato hJ hD
theorem vn265a0_2 {S : Nat → zSpc} (hS163 : ∀ x g o v gz, S 163 x g o v gz → sn163 x g o v gz) (hS223 : ∀ x g o v gz, S 223 x g o v gz → sn223 x g o v gz) (hS235 : ∀ x g o v gz, S 235 x g o v gz → sn235 x g o v gz) (hS236 : ∀ x g o v gz, S 236 x g o v gz → sn236 x g o v gz) (hS263 : ∀ x g o v gz, S 263 x g o v gz → sn263 x g o v gz) (hS264 : ∀ x g o v gz, S 264 x g o v gz → sn264 x g o v gz) {a : List Int} {g : rHp} : ∀ (ρ : Nat → Int) (γ : Nat → rHp), jn265 a g 0 (zAg (zNA a265_ 0) ρ) (γ 1) → zO 16 S a g q265a0_2 ρ γ → zGl (fun i vs g1 => jn265 a g i vs g1) (sn265 a g) q265a0_2 ρ γ := by
  intro ρ γ hJ h
  obtain ⟨ha, hg, hr, hf, hm, hc, hl⟩ := h
  have ha : a = [ρ 0, ρ 1, ρ 2, ρ 3, ρ 4, ρ 5, ρ 6, ρ 7, ρ 8, ρ 9, ρ 10, ρ 11, ρ 12, ρ 13, ρ 14, ρ 15] := ha
  subst ha
  subst hg
  have hJ : jn265 [ρ 0, ρ 1, ρ 2, ρ 3, ρ 4, ρ 5, ρ 6, ρ 7, ρ 8, ρ 9, ρ 10, ρ 11, ρ 12, ρ 13, ρ 14, ρ 15] (γ 0) 0 [ρ 0, ρ 1, ρ 2, ρ 3, ρ 4, ρ 5, ρ 6, ρ 7, ρ 8, ρ 9, ρ 10, ρ 11, ρ 12, ρ 13, ρ 14, ρ 15, ρ 16, ρ 17, ρ 18, ρ 19, ρ 20, ρ 21, ρ 22, ρ 23, ρ 24, ρ 25, ρ 26, ρ 27] (γ 1) := hJ
  obtain ⟨r0, r1, r2, r3, r4, r5, r6, r7, r8, r9, r10, r11, r12, r13, r14, r15, r16, r17, r18, r19, r20, r21, r22, r23, r24, r25, r26, r27, r28, r29, r30, r31, r32, r33, r34, r35, r36, r37, r38, r39, r40, r41, r42, r43, r44, -⟩ := hr
  have r0 : (0 : Int) ≤ ρ 0 ∧ ρ 0 ≤ 2000 := r0
  have r1 : (0 : Int) ≤ ρ 1 ∧ ρ 1 ≤ 20 := r1
  have r2 : (0 : Int) ≤ ρ 2 ∧ ρ 2 ≤ 20 := r2
  have r3 : (0 : Int) ≤ ρ 3 ∧ ρ 3 ≤ 400 := r3
  have r4 : (0 : Int) ≤ ρ 4 ∧ ρ 4 ≤ 60 := r4
  have r5 : (0 : Int) ≤ ρ 5 ∧ ρ 5 ≤ 2000 := r5
  have r6 : (0 : Int) ≤ ρ 6 ∧ ρ 6 ≤ 50001 := r6
  have r7 : ((-2147483648) : Int) ≤ ρ 7 ∧ ρ 7 ≤ 2147483647 := r7
  have r8 : ((-2147483648) : Int) ≤ ρ 8 ∧ ρ 8 ≤ 2147483647 := r8
  have r9 : (0 : Int) ≤ ρ 9 ∧ ρ 9 ≤ 2000 := r9
  have r10 : ((-2147483648) : Int) ≤ ρ 10 ∧ ρ 10 ≤ 2147483647 := r10
  have r11 : (0 : Int) ≤ ρ 11 ∧ ρ 11 ≤ 2 := r11
  have r12 : ((-2147483648) : Int) ≤ ρ 12 ∧ ρ 12 ≤ 2147483647 := r12
  have r13 : (0 : Int) ≤ ρ 13 ∧ ρ 13 ≤ 2000 := r13
  have r14 : (0 : Int) ≤ ρ 14 ∧ ρ 14 ≤ 2000 := r14
  have r15 : ((-2147483648) : Int) ≤ ρ 15 ∧ ρ 15 ≤ 2147483647 := r15
  have r16 : (0 : Int) ≤ ρ 16 ∧ ρ 16 ≤ 20 := r16
  have r17 : ((-2147483648) : Int) ≤ ρ 17 ∧ ρ 17 ≤ 2147483647 := r17
  have r18 : (0 : Int) ≤ ρ 18 ∧ ρ 18 ≤ 20 := r18
  have r19 : (0 : Int) ≤ ρ 19 ∧ ρ 19 ≤ 2000 := r19
  have r20 : (0 : Int) ≤ ρ 20 ∧ ρ 20 ≤ 50000 := r20
  have r21 : (0 : Int) ≤ ρ 21 ∧ ρ 21 ≤ 2000 := r21
  have r22 : ((-2147483648) : Int) ≤ ρ 22 ∧ ρ 22 ≤ 2147483647 := r22
  have r23 : (0 : Int) ≤ ρ 23 ∧ ρ 23 ≤ 2 := r23
  have r24 : ((-2147483648) : Int) ≤ ρ 24 ∧ ρ 24 ≤ 2147483647 := r24
  have r25 : (0 : Int) ≤ ρ 25 ∧ ρ 25 ≤ 2000 := r25
  have r26 : (0 : Int) ≤ ρ 26 ∧ ρ 26 ≤ 2000 := r26
  have r27 : ((-2147483648) : Int) ≤ ρ 27 ∧ ρ 27 ≤ 2147483647 := r27
  have r28 : (0 : Int) ≤ ρ 28 ∧ ρ 28 ≤ 2000 := r28
  have r29 : (0 : Int) ≤ ρ 29 ∧ ρ 29 ≤ 50000 := r29
  have r30 : (0 : Int) ≤ ρ 30 ∧ ρ 30 ≤ 2000 := r30
  have r31 : (0 : Int) ≤ ρ 31 ∧ ρ 31 ≤ 2000 := r31
  have r32 : ((-2147483648) : Int) ≤ ρ 32 ∧ ρ 32 ≤ 2147483647 := r32
  have r33 : (0 : Int) ≤ ρ 33 ∧ ρ 33 ≤ 2 := r33
  have r34 : ((-2147483648) : Int) ≤ ρ 34 ∧ ρ 34 ≤ 2147483647 := r34
  have r35 : (0 : Int) ≤ ρ 35 ∧ ρ 35 ≤ 2000 := r35
  have r36 : ((-2147483648) : Int) ≤ ρ 36 ∧ ρ 36 ≤ 2147483647 := r36
  have r37 : (0 : Int) ≤ ρ 37 ∧ ρ 37 ≤ 50000 := r37
  have r38 : (0 : Int) ≤ ρ 38 ∧ ρ 38 ≤ 2000 := r38
  have r39 : (0 : Int) ≤ ρ 39 ∧ ρ 39 ≤ 2000 := r39
  have r40 : (0 : Int) ≤ ρ 40 ∧ ρ 40 ≤ 60 := r40
  have r41 : (1 : Int) ≤ ρ 41 ∧ ρ 41 ≤ 2001 := r41
  have r42 : (0 : Int) ≤ ρ 42 ∧ ρ 42 ≤ 2000 := r42
  have r43 : (0 : Int) ≤ ρ 43 ∧ ρ 43 ≤ 2000 := r43
  have r44 : ((-2147483648) : Int) ≤ ρ 44 ∧ ρ 44 ≤ 2147483647 := r44
  obtain ⟨f0, f1, f2, f3, f4, f5, f6, f7, f8, f9, f10, f11, f12, -⟩ := hf
  have f0 : (0 : Int) ≤ ρ 37 + -ρ 29 := f0
  have f1 : (0 : Int) ≤ -ρ 42 + ρ 38 := f1
  have f2 : (0 : Int) ≤ ρ 38 + -ρ 30 := f2
  have f3 : (0 : Int) ≤ ρ 39 + -ρ 31 := f3
  have f4 : (0 : Int) ≤ -ρ 43 + ρ 42 := f4
  have f5 : (0 : Int) ≤ ρ 42 + -ρ 30 := f5
  have f6 : (0 : Int) ≤ ρ 43 + -ρ 30 := f6
  have f7 : (0 : Int) ≤ -ρ 40 + ρ 4 + (-1) := f7
  have f8 : (0 : Int) ≤ ρ 29 + -ρ 20 := f8
  have f9 : (0 : Int) ≤ ρ 30 + -ρ 28 := f9
  have f10 : (0 : Int) ≤ ρ 28 + -ρ 19 := f10
  have f11 : (0 : Int) ≤ ρ 18 + -ρ 16 + (-1) := f11
  have f12 : (0 : Int) ≤ ρ 18 + -ρ 16 := f12
  obtain ⟨m0, m1, m2, m3, m4, m5, m6, m7, m8, m9, m10, m11, m12, m13, m14, m15, m16, m17, m18, m19, m20, m21, m22, m23, m24, m25, m26, m27, m28, m29, m30, m31, m32, m33, m34, m35, m36, m37, m38, m39, m40, m41, m42, m43, -⟩ := hm
  have m0 : γ 0 2 0 3 = ρ 0 := m0
  have m1 : γ 0 1 0 7 = ρ 1 := m1
  have m2 : γ 0 1 0 8 = ρ 2 := m2
  have m3 : γ 0 1 0 9 = ρ 3 := m3
  have m4 : γ 0 1 0 10 = ρ 4 := m4
  have m5 : γ 0 4 0 7 = ρ 5 := m5
  have m6 : γ 0 6 0 0 = ρ 6 := m6
  have m7 : γ 0 0 0 8 = ρ 7 := m7
  have m8 : γ 0 0 0 9 = ρ 8 := m8
  have m9 : γ 0 5 0 3 = ρ 9 := m9
  have m10 : γ 0 6 0 8 = ρ 10 := m10
  have m11 : γ 0 6 0 9 = ρ 11 := m11
  have m12 : γ 0 6 0 10 = ρ 12 := m12
  have m13 : γ 0 6 0 11 = ρ 13 := m13
  have m14 : γ 0 6 0 12 = ρ 14 := m14
  have m15 : γ 0 6 0 13 = ρ 15 := m15
  have m16 : γ 1 1 0 8 = ρ 18 := m16
  have m17 : γ 1 4 0 7 = ρ 19 := m17
  have m18 : γ 1 6 0 0 = ρ 20 := m18
  have m19 : γ 1 5 0 3 = ρ 21 := m19
  have m20 : γ 1 6 0 8 = ρ 22 := m20
  have m21 : γ 1 6 0 9 = ρ 23 := m21
  have m22 : γ 1 6 0 10 = ρ 24 := m22
  have m23 : γ 1 6 0 11 = ρ 25 := m23
  have m24 : γ 1 6 0 12 = ρ 26 := m24
  have m25 : γ 1 6 0 13 = ρ 27 := m25
  have m26 : γ 2 4 0 7 = ρ 28 := m26
  have m27 : γ 3 6 0 0 = ρ 29 := m27
  have m28 : γ 3 4 0 7 = ρ 30 := m28
  have m29 : γ 3 5 0 3 = ρ 31 := m29
  have m30 : γ 3 6 0 8 = ρ 32 := m30
  have m31 : γ 3 6 0 9 = ρ 33 := m31
  have m32 : γ 3 6 0 10 = ρ 34 := m32
  have m33 : γ 3 6 0 11 = ρ 35 := m33
  have m34 : γ 3 6 0 13 = ρ 36 := m34
  have m35 : γ 4 6 0 0 = ρ 37 := m35
  have m36 : γ 4 4 0 7 = ρ 38 := m36
  have m37 : γ 4 5 0 3 = ρ 39 := m37
  have m38 : γ 4 6 0 8 = ρ 40 := m38
  have m39 : γ 4 6 0 9 = 0 := m39
  have m40 : γ 4 6 0 10 = ρ 41 := m40
  have m41 : γ 4 6 0 11 = ρ 42 := m41
  have m42 : γ 4 6 0 12 = ρ 43 := m42
  have m43 : γ 4 6 0 13 = ρ 44 := m43
  obtain ⟨⟨⟨⟨-, c1⟩, c2⟩, c3⟩, c4⟩ := hc
  have c1 : ∀ (G : Nat) (k j : Int), ¬ rMdP m145_ G j → γ 1 G k j = γ 0 G k j := c1
  have c2 : ∀ (G : Nat) (k j : Int), ¬ rMdP m134_ G j → γ 2 G k j = γ 1 G k j := c2
  have c3 : ∀ (G : Nat) (k j : Int), ¬ rMdP m142_ G j → γ 3 G k j = γ 2 G k j := c3
  have c4 : ∀ (G : Nat) (k j : Int), ¬ rMdP m143_ G j → γ 4 G k j = γ 3 G k j := c4
  obtain ⟨l0, l1, l2, -⟩ := hl
  have l0 : sn235 [ρ 16, ρ 3, ρ 19] (γ 1) 0 0 (γ 2) := hS235 _ _ _ _ _ l0
  have l1 : sn263 [ρ 16, ρ 20, ρ 4, ρ 28, ρ 21, ρ 22, ρ 23, ρ 24, ρ 25, ρ 26, ρ 27] (γ 2) 0 0 (γ 3) := hS263 _ _ _ _ _ l1
  have l2 : sn264 [ρ 16, ρ 29, ρ 4, ρ 30, ρ 31, ρ 32, ρ 33, ρ 34, ρ 35, ρ 26, ρ 36] (γ 3) 1 0 (γ 4) := hS264 _ _ _ _ _ l2
  show sn265 [ρ 0, ρ 1, ρ 2, ρ 3, ρ 4, ρ 5, ρ 6, ρ 7, ρ 8, ρ 9, ρ 10, ρ 11, ρ 12, ρ 13, ρ 14, ρ 15] (γ 0) 1 0 (γ 4)
  have hD : en265 (γ 0) (0, [ρ 16, ρ 17], γ 1) = .inr (1, 0, γ 4) := by
    unfold en265
    refine (if_pos (show (0 : Nat) = 0 by decide)).trans ?_
    refine (zLet_eq (show _ = γ 1 from rfl)).trans ?_
    refine (zLet_eq (show _ = ρ 16 from rfl)).trans ?_
    refine (zLet_eq (show _ = ρ 17 from rfl)).trans ?_
    refine (zLet_eq m16).trans ?_
    refine (zLet_eq m17).trans ?_
    refine (zLet_eq m18).trans ?_
    refine (if_neg (show ¬ (ρ 16 ≥ ρ 18) by omega)).trans ?_
    refine (zLet_eq (show fn235 [ρ 16] (γ 1) = (0, 0, γ 2) from l0.symm)).trans ?_
    refine (zLet_eq (show _ = γ 2 from rfl)).trans ?_
    refine (if_pos (show (0 : Nat) = 0 by decide)).trans ?_
    refine (zLet_eq (show fn263 [ρ 16] (γ 2) = (0, 0, γ 3) from l1.symm)).trans ?_
    refine (zLet_eq (show _ = γ 3 from rfl)).trans ?_
    refine (if_pos (show (0 : Nat) = 0 by decide)).trans ?_
    refine (zLet_eq (show fn264 [ρ 16] (γ 3) = (1, 0, γ 4) from l2.symm)).trans ?_
    refine (zLet_eq (show _ = γ 4 from rfl)).trans ?_
    refine (if_neg (show ¬ (1 : Nat) = 0 by decide)).trans ?_
    refine (if_pos (show (1 : Nat) = 1 by decide)).trans ?_
    rfl
  exact zGoo_aend hJ hD
theorem vn265a0_3 {S : Nat → zSpc} (hS163 : ∀ x g o v gz, S 163 x g o v gz → sn163 x g o v gz) (hS223 : ∀ x g o v gz, S 223 x g o v gz → sn223 x g o v gz) (hS235 : ∀ x g o v gz, S 235 x g o v gz → sn235 x g o v gz) (hS236 : ∀ x g o v gz, S 236 x g o v gz → sn236 x g o v gz) (hS263 : ∀ x g o v gz, S 263 x g o v gz → sn263 x g o v gz) (hS264 : ∀ x g o v gz, S 264 x g o v gz → sn264 x g o v gz) {a : List Int} {g : rHp} : ∀ (ρ : Nat → Int) (γ : Nat → rHp), jn265 a g 0 (zAg (zNA a265_ 0) ρ) (γ 1) → zO 16 S a g q265a0_3 ρ γ → zGl (fun i vs g1 => jn265 a g i vs g1) (sn265 a g) q265a0_3 ρ γ := by
  intro ρ γ hJ h
  obtain ⟨ha, hg, hr, hf, hm, hc, hl⟩ := h
  have ha : a = [ρ 0, ρ 1, ρ 2, ρ 3, ρ 4, ρ 5, ρ 6, ρ 7, ρ 8, ρ 9, ρ 10, ρ 11, ρ 12, ρ 13, ρ 14, ρ 15] := ha
  subst ha
  subst hg
  have hJ : jn265 [ρ 0, ρ 1, ρ 2, ρ 3, ρ 4, ρ 5, ρ 6, ρ 7, ρ 8, ρ 9, ρ 10, ρ 11, ρ 12, ρ 13, ρ 14, ρ 15] (γ 0) 0 [ρ 0, ρ 1, ρ 2, ρ 3, ρ 4, ρ 5, ρ 6, ρ 7, ρ 8, ρ 9, ρ 10, ρ 11, ρ 12, ρ 13, ρ 14, ρ 15, ρ 16, ρ 17, ρ 18, ρ 19, ρ 20, ρ 21, ρ 22, ρ 23, ρ 24, ρ 25, ρ 26, ρ 27] (γ 1) := hJ
  obtain ⟨r0, r1, r2, r3, r4, r5, r6, r7, r8, r9, r10, r11, r12, r13, r14, r15, r16, r17, r18, r19, r20, r21, r22, r23, r24, r25, r26, r27, r28, r29, r30, r31, r32, r33, r34, r35, r36, r37, r38, r39, r40, r41, r42, r43, r44, -⟩ := hr
  have r0 : (0 : Int) ≤ ρ 0 ∧ ρ 0 ≤ 2000 := r0
  have r1 : (0 : Int) ≤ ρ 1 ∧ ρ 1 ≤ 20 := r1
  have r2 : (0 : Int) ≤ ρ 2 ∧ ρ 2 ≤ 20 := r2
  have r3 : (0 : Int) ≤ ρ 3 ∧ ρ 3 ≤ 400 := r3
  have r4 : (0 : Int) ≤ ρ 4 ∧ ρ 4 ≤ 60 := r4
  have r5 : (0 : Int) ≤ ρ 5 ∧ ρ 5 ≤ 2000 := r5
  have r6 : (0 : Int) ≤ ρ 6 ∧ ρ 6 ≤ 50001 := r6
  have r7 : ((-2147483648) : Int) ≤ ρ 7 ∧ ρ 7 ≤ 2147483647 := r7
  have r8 : ((-2147483648) : Int) ≤ ρ 8 ∧ ρ 8 ≤ 2147483647 := r8
  have r9 : (0 : Int) ≤ ρ 9 ∧ ρ 9 ≤ 2000 := r9
  have r10 : ((-2147483648) : Int) ≤ ρ 10 ∧ ρ 10 ≤ 2147483647 := r10
  have r11 : (0 : Int) ≤ ρ 11 ∧ ρ 11 ≤ 2 := r11
  have r12 : ((-2147483648) : Int) ≤ ρ 12 ∧ ρ 12 ≤ 2147483647 := r12
  have r13 : (0 : Int) ≤ ρ 13 ∧ ρ 13 ≤ 2000 := r13
  have r14 : (0 : Int) ≤ ρ 14 ∧ ρ 14 ≤ 2000 := r14
  have r15 : ((-2147483648) : Int) ≤ ρ 15 ∧ ρ 15 ≤ 2147483647 := r15
  have r16 : (0 : Int) ≤ ρ 16 ∧ ρ 16 ≤ 20 := r16
  have r17 : ((-2147483648) : Int) ≤ ρ 17 ∧ ρ 17 ≤ 2147483647 := r17
  have r18 : (0 : Int) ≤ ρ 18 ∧ ρ 18 ≤ 20 := r18
  have r19 : (0 : Int) ≤ ρ 19 ∧ ρ 19 ≤ 2000 := r19
  have r20 : (0 : Int) ≤ ρ 20 ∧ ρ 20 ≤ 50000 := r20
  have r21 : (0 : Int) ≤ ρ 21 ∧ ρ 21 ≤ 2000 := r21
  have r22 : ((-2147483648) : Int) ≤ ρ 22 ∧ ρ 22 ≤ 2147483647 := r22
  have r23 : (0 : Int) ≤ ρ 23 ∧ ρ 23 ≤ 2 := r23
  have r24 : ((-2147483648) : Int) ≤ ρ 24 ∧ ρ 24 ≤ 2147483647 := r24
  have r25 : (0 : Int) ≤ ρ 25 ∧ ρ 25 ≤ 2000 := r25
  have r26 : (0 : Int) ≤ ρ 26 ∧ ρ 26 ≤ 2000 := r26
  have r27 : ((-2147483648) : Int) ≤ ρ 27 ∧ ρ 27 ≤ 2147483647 := r27
  have r28 : (0 : Int) ≤ ρ 28 ∧ ρ 28 ≤ 2000 := r28
  have r29 : (0 : Int) ≤ ρ 29 ∧ ρ 29 ≤ 50000 := r29
  have r30 : (0 : Int) ≤ ρ 30 ∧ ρ 30 ≤ 2000 := r30
  have r31 : (0 : Int) ≤ ρ 31 ∧ ρ 31 ≤ 2000 := r31
  have r32 : ((-2147483648) : Int) ≤ ρ 32 ∧ ρ 32 ≤ 2147483647 := r32
  have r33 : (0 : Int) ≤ ρ 33 ∧ ρ 33 ≤ 2 := r33
  have r34 : ((-2147483648) : Int) ≤ ρ 34 ∧ ρ 34 ≤ 2147483647 := r34
  have r35 : (0 : Int) ≤ ρ 35 ∧ ρ 35 ≤ 2000 := r35
  have r36 : ((-2147483648) : Int) ≤ ρ 36 ∧ ρ 36 ≤ 2147483647 := r36
  have r37 : (50001 : Int) ≤ ρ 37 ∧ ρ 37 ≤ 50001 := r37
  have r38 : (0 : Int) ≤ ρ 38 ∧ ρ 38 ≤ 2000 := r38
  have r39 : (0 : Int) ≤ ρ 39 ∧ ρ 39 ≤ 2000 := r39
  have r40 : (0 : Int) ≤ ρ 40 ∧ ρ 40 ≤ 60 := r40
  have r41 : (1 : Int) ≤ ρ 41 ∧ ρ 41 ≤ 2001 := r41
  have r42 : (0 : Int) ≤ ρ 42 ∧ ρ 42 ≤ 2000 := r42
  have r43 : (0 : Int) ≤ ρ 43 ∧ ρ 43 ≤ 2000 := r43
  have r44 : ((-2147483648) : Int) ≤ ρ 44 ∧ ρ 44 ≤ 2147483647 := r44
  obtain ⟨f0, f1, f2, f3, f4, f5, f6, f7, f8, f9, f10, f11, -⟩ := hf
  have f0 : (0 : Int) ≤ -ρ 42 + ρ 38 := f0
  have f1 : (0 : Int) ≤ ρ 38 + -ρ 30 := f1
  have f2 : (0 : Int) ≤ ρ 39 + -ρ 31 := f2
  have f3 : (0 : Int) ≤ -ρ 43 + ρ 42 := f3
  have f4 : (0 : Int) ≤ ρ 42 + -ρ 30 := f4
  have f5 : (0 : Int) ≤ ρ 43 + -ρ 30 := f5
  have f6 : (0 : Int) ≤ -ρ 40 + ρ 4 + (-1) := f6
  have f7 : (0 : Int) ≤ ρ 29 + -ρ 20 := f7
  have f8 : (0 : Int) ≤ ρ 30 + -ρ 28 := f8
  have f9 : (0 : Int) ≤ ρ 28 + -ρ 19 := f9
  have f10 : (0 : Int) ≤ ρ 18 + -ρ 16 + (-1) := f10
  have f11 : (0 : Int) ≤ ρ 18 + -ρ 16 := f11
  obtain ⟨m0, m1, m2, m3, m4, m5, m6, m7, m8, m9, m10, m11, m12, m13, m14, m15, m16, m17, m18, m19, m20, m21, m22, m23, m24, m25, m26, m27, m28, m29, m30, m31, m32, m33, m34, m35, m36, m37, m38, m39, m40, m41, m42, m43, -⟩ := hm
  have m0 : γ 0 2 0 3 = ρ 0 := m0
  have m1 : γ 0 1 0 7 = ρ 1 := m1
  have m2 : γ 0 1 0 8 = ρ 2 := m2
  have m3 : γ 0 1 0 9 = ρ 3 := m3
  have m4 : γ 0 1 0 10 = ρ 4 := m4
  have m5 : γ 0 4 0 7 = ρ 5 := m5
  have m6 : γ 0 6 0 0 = ρ 6 := m6
  have m7 : γ 0 0 0 8 = ρ 7 := m7
  have m8 : γ 0 0 0 9 = ρ 8 := m8
  have m9 : γ 0 5 0 3 = ρ 9 := m9
  have m10 : γ 0 6 0 8 = ρ 10 := m10
  have m11 : γ 0 6 0 9 = ρ 11 := m11
  have m12 : γ 0 6 0 10 = ρ 12 := m12
  have m13 : γ 0 6 0 11 = ρ 13 := m13
  have m14 : γ 0 6 0 12 = ρ 14 := m14
  have m15 : γ 0 6 0 13 = ρ 15 := m15
  have m16 : γ 1 1 0 8 = ρ 18 := m16
  have m17 : γ 1 4 0 7 = ρ 19 := m17
  have m18 : γ 1 6 0 0 = ρ 20 := m18
  have m19 : γ 1 5 0 3 = ρ 21 := m19
  have m20 : γ 1 6 0 8 = ρ 22 := m20
  have m21 : γ 1 6 0 9 = ρ 23 := m21
  have m22 : γ 1 6 0 10 = ρ 24 := m22
  have m23 : γ 1 6 0 11 = ρ 25 := m23
  have m24 : γ 1 6 0 12 = ρ 26 := m24
  have m25 : γ 1 6 0 13 = ρ 27 := m25
  have m26 : γ 2 4 0 7 = ρ 28 := m26
  have m27 : γ 3 6 0 0 = ρ 29 := m27
  have m28 : γ 3 4 0 7 = ρ 30 := m28
  have m29 : γ 3 5 0 3 = ρ 31 := m29
  have m30 : γ 3 6 0 8 = ρ 32 := m30
  have m31 : γ 3 6 0 9 = ρ 33 := m31
  have m32 : γ 3 6 0 10 = ρ 34 := m32
  have m33 : γ 3 6 0 11 = ρ 35 := m33
  have m34 : γ 3 6 0 13 = ρ 36 := m34
  have m35 : γ 4 6 0 0 = ρ 37 := m35
  have m36 : γ 4 4 0 7 = ρ 38 := m36
  have m37 : γ 4 5 0 3 = ρ 39 := m37
  have m38 : γ 4 6 0 8 = ρ 40 := m38
  have m39 : γ 4 6 0 9 = 0 := m39
  have m40 : γ 4 6 0 10 = ρ 41 := m40
  have m41 : γ 4 6 0 11 = ρ 42 := m41
  have m42 : γ 4 6 0 12 = ρ 43 := m42
  have m43 : γ 4 6 0 13 = ρ 44 := m43
  obtain ⟨⟨⟨⟨-, c1⟩, c2⟩, c3⟩, c4⟩ := hc
  have c1 : ∀ (G : Nat) (k j : Int), ¬ rMdP m145_ G j → γ 1 G k j = γ 0 G k j := c1
  have c2 : ∀ (G : Nat) (k j : Int), ¬ rMdP m134_ G j → γ 2 G k j = γ 1 G k j := c2
  have c3 : ∀ (G : Nat) (k j : Int), ¬ rMdP m142_ G j → γ 3 G k j = γ 2 G k j := c3
  have c4 : ∀ (G : Nat) (k j : Int), ¬ rMdP m143_ G j → γ 4 G k j = γ 3 G k j := c4
  obtain ⟨l0, l1, l2, -⟩ := hl
  have l0 : sn235 [ρ 16, ρ 3, ρ 19] (γ 1) 0 0 (γ 2) := hS235 _ _ _ _ _ l0
  have l1 : sn263 [ρ 16, ρ 20, ρ 4, ρ 28, ρ 21, ρ 22, ρ 23, ρ 24, ρ 25, ρ 26, ρ 27] (γ 2) 0 0 (γ 3) := hS263 _ _ _ _ _ l1
  have l2 : sn264 [ρ 16, ρ 29, ρ 4, ρ 30, ρ 31, ρ 32, ρ 33, ρ 34, ρ 35, ρ 26, ρ 36] (γ 3) 4 0 (γ 4) := hS264 _ _ _ _ _ l2
  show sn265 [ρ 0, ρ 1, ρ 2, ρ 3, ρ 4, ρ 5, ρ 6, ρ 7, ρ 8, ρ 9, ρ 10, ρ 11, ρ 12, ρ 13, ρ 14, ρ 15] (γ 0) 4 0 (γ 4)
  have hD : en265 (γ 0) (0, [ρ 16, ρ 17], γ 1) = .inr (4, 0, γ 4) := by
    unfold en265
    refine (if_pos (show (0 : Nat) = 0 by decide)).trans ?_
    refine (zLet_eq (show _ = γ 1 from rfl)).trans ?_
    refine (zLet_eq (show _ = ρ 16 from rfl)).trans ?_
    refine (zLet_eq (show _ = ρ 17 from rfl)).trans ?_
    refine (zLet_eq m16).trans ?_
    refine (zLet_eq m17).trans ?_
    refine (zLet_eq m18).trans ?_
    refine (if_neg (show ¬ (ρ 16 ≥ ρ 18) by omega)).trans ?_
    refine (zLet_eq (show fn235 [ρ 16] (γ 1) = (0, 0, γ 2) from l0.symm)).trans ?_
    refine (zLet_eq (show _ = γ 2 from rfl)).trans ?_
    refine (if_pos (show (0 : Nat) = 0 by decide)).trans ?_
    refine (zLet_eq (show fn263 [ρ 16] (γ 2) = (0, 0, γ 3) from l1.symm)).trans ?_
    refine (zLet_eq (show _ = γ 3 from rfl)).trans ?_
    refine (if_pos (show (0 : Nat) = 0 by decide)).trans ?_
    refine (zLet_eq (show fn264 [ρ 16] (γ 3) = (4, 0, γ 4) from l2.symm)).trans ?_
    refine (zLet_eq (show _ = γ 4 from rfl)).trans ?_
    refine (if_neg (show ¬ (4 : Nat) = 0 by decide)).trans ?_
    refine (if_neg (show ¬ (4 : Nat) = 1 by decide)).trans ?_
    rfl
  exact zGoo_aend hJ hD
theorem vn265a0_4 {S : Nat → zSpc} (hS163 : ∀ x g o v gz, S 163 x g o v gz → sn163 x g o v gz) (hS223 : ∀ x g o v gz, S 223 x g o v gz → sn223 x g o v gz) (hS235 : ∀ x g o v gz, S 235 x g o v gz → sn235 x g o v gz) (hS236 : ∀ x g o v gz, S 236 x g o v gz → sn236 x g o v gz) (hS263 : ∀ x g o v gz, S 263 x g o v gz → sn263 x g o v gz) (hS264 : ∀ x g o v gz, S 264 x g o v gz → sn264 x g o v gz) {a : List Int} {g : rHp} : ∀ (ρ : Nat → Int) (γ : Nat → rHp), jn265 a g 0 (zAg (zNA a265_ 0) ρ) (γ 1) → zO 16 S a g q265a0_4 ρ γ → zGl (fun i vs g1 => jn265 a g i vs g1) (sn265 a g) q265a0_4 ρ γ := by
  intro ρ γ hJ h
  obtain ⟨ha, hg, hr, hf, hm, hc, hl⟩ := h
  have ha : a = [ρ 0, ρ 1, ρ 2, ρ 3, ρ 4, ρ 5, ρ 6, ρ 7, ρ 8, ρ 9, ρ 10, ρ 11, ρ 12, ρ 13, ρ 14, ρ 15] := ha
  subst ha
  subst hg
  have hJ : jn265 [ρ 0, ρ 1, ρ 2, ρ 3, ρ 4, ρ 5, ρ 6, ρ 7, ρ 8, ρ 9, ρ 10, ρ 11, ρ 12, ρ 13, ρ 14, ρ 15] (γ 0) 0 [ρ 0, ρ 1, ρ 2, ρ 3, ρ 4, ρ 5, ρ 6, ρ 7, ρ 8, ρ 9, ρ 10, ρ 11, ρ 12, ρ 13, ρ 14, ρ 15, ρ 16, ρ 17, ρ 18, ρ 19, ρ 20, ρ 21, ρ 22, ρ 23, ρ 24, ρ 25, ρ 26, ρ 27] (γ 1) := hJ
  obtain ⟨r0, r1, r2, r3, r4, r5, r6, r7, r8, r9, r10, r11, r12, r13, r14, r15, r16, r17, r18, r19, r20, r21, r22, r23, r24, r25, r26, r27, r28, r29, r30, r31, r32, r33, r34, -⟩ := hr
  have r0 : (0 : Int) ≤ ρ 0 ∧ ρ 0 ≤ 2000 := r0
  have r1 : (0 : Int) ≤ ρ 1 ∧ ρ 1 ≤ 20 := r1
  have r2 : (0 : Int) ≤ ρ 2 ∧ ρ 2 ≤ 20 := r2
  have r3 : (0 : Int) ≤ ρ 3 ∧ ρ 3 ≤ 400 := r3
  have r4 : (0 : Int) ≤ ρ 4 ∧ ρ 4 ≤ 60 := r4
  have r5 : (0 : Int) ≤ ρ 5 ∧ ρ 5 ≤ 2000 := r5
  have r6 : (0 : Int) ≤ ρ 6 ∧ ρ 6 ≤ 50001 := r6
  have r7 : ((-2147483648) : Int) ≤ ρ 7 ∧ ρ 7 ≤ 2147483647 := r7
  have r8 : ((-2147483648) : Int) ≤ ρ 8 ∧ ρ 8 ≤ 2147483647 := r8
  have r9 : (0 : Int) ≤ ρ 9 ∧ ρ 9 ≤ 2000 := r9
  have r10 : ((-2147483648) : Int) ≤ ρ 10 ∧ ρ 10 ≤ 2147483647 := r10
  have r11 : (0 : Int) ≤ ρ 11 ∧ ρ 11 ≤ 2 := r11
  have r12 : ((-2147483648) : Int) ≤ ρ 12 ∧ ρ 12 ≤ 2147483647 := r12
  have r13 : (0 : Int) ≤ ρ 13 ∧ ρ 13 ≤ 2000 := r13
  have r14 : (0 : Int) ≤ ρ 14 ∧ ρ 14 ≤ 2000 := r14
  have r15 : ((-2147483648) : Int) ≤ ρ 15 ∧ ρ 15 ≤ 2147483647 := r15
  have r16 : (0 : Int) ≤ ρ 16 ∧ ρ 16 ≤ 20 := r16
  have r17 : ((-2147483648) : Int) ≤ ρ 17 ∧ ρ 17 ≤ 2147483647 := r17
  have r18 : (0 : Int) ≤ ρ 18 ∧ ρ 18 ≤ 20 := r18
  have r19 : (0 : Int) ≤ ρ 19 ∧ ρ 19 ≤ 2000 := r19
  have r20 : (0 : Int) ≤ ρ 20 ∧ ρ 20 ≤ 50000 := r20
  have r21 : (0 : Int) ≤ ρ 21 ∧ ρ 21 ≤ 2000 := r21
  have r22 : ((-2147483648) : Int) ≤ ρ 22 ∧ ρ 22 ≤ 2147483647 := r22
  have r23 : (0 : Int) ≤ ρ 23 ∧ ρ 23 ≤ 2 := r23
  have r24 : ((-2147483648) : Int) ≤ ρ 24 ∧ ρ 24 ≤ 2147483647 := r24
  have r25 : (0 : Int) ≤ ρ 25 ∧ ρ 25 ≤ 2000 := r25
  have r26 : (0 : Int) ≤ ρ 26 ∧ ρ 26 ≤ 2000 := r26
  have r27 : ((-2147483648) : Int) ≤ ρ 27 ∧ ρ 27 ≤ 2147483647 := r27
  have r28 : (0 : Int) ≤ ρ 28 ∧ ρ 28 ≤ 2000 := r28
  have r29 : (0 : Int) ≤ ρ 29 ∧ ρ 29 ≤ 50000 := r29
  have r30 : (0 : Int) ≤ ρ 30 ∧ ρ 30 ≤ 2000 := r30
  have r31 : (0 : Int) ≤ ρ 31 ∧ ρ 31 ≤ 2000 := r31
  have r32 : (0 : Int) ≤ ρ 32 ∧ ρ 32 ≤ 60 := r32
  have r33 : (0 : Int) ≤ ρ 33 ∧ ρ 33 ≤ 2000 := r33
  have r34 : ((-2147483648) : Int) ≤ ρ 34 ∧ ρ 34 ≤ 2147483647 := r34
  obtain ⟨f0, f1, f2, f3, f4, f5, f6, f7, -⟩ := hf
  have f0 : (0 : Int) ≤ ρ 29 + -ρ 20 := f0
  have f1 : (0 : Int) ≤ -ρ 33 + ρ 30 := f1
  have f2 : (0 : Int) ≤ ρ 30 + -ρ 28 := f2
  have f3 : (0 : Int) ≤ ρ 33 + -ρ 28 := f3
  have f4 : (0 : Int) ≤ -ρ 32 + ρ 4 + (-1) := f4
  have f5 : (0 : Int) ≤ ρ 28 + -ρ 19 := f5
  have f6 : (0 : Int) ≤ ρ 18 + -ρ 16 + (-1) := f6
  have f7 : (0 : Int) ≤ ρ 18 + -ρ 16 := f7
  obtain ⟨m0, m1, m2, m3, m4, m5, m6, m7, m8, m9, m10, m11, m12, m13, m14, m15, m16, m17, m18, m19, m20, m21, m22, m23, m24, m25, m26, m27, m28, m29, m30, m31, m32, m33, m34, -⟩ := hm
  have m0 : γ 0 2 0 3 = ρ 0 := m0
  have m1 : γ 0 1 0 7 = ρ 1 := m1
  have m2 : γ 0 1 0 8 = ρ 2 := m2
  have m3 : γ 0 1 0 9 = ρ 3 := m3
  have m4 : γ 0 1 0 10 = ρ 4 := m4
  have m5 : γ 0 4 0 7 = ρ 5 := m5
  have m6 : γ 0 6 0 0 = ρ 6 := m6
  have m7 : γ 0 0 0 8 = ρ 7 := m7
  have m8 : γ 0 0 0 9 = ρ 8 := m8
  have m9 : γ 0 5 0 3 = ρ 9 := m9
  have m10 : γ 0 6 0 8 = ρ 10 := m10
  have m11 : γ 0 6 0 9 = ρ 11 := m11
  have m12 : γ 0 6 0 10 = ρ 12 := m12
  have m13 : γ 0 6 0 11 = ρ 13 := m13
  have m14 : γ 0 6 0 12 = ρ 14 := m14
  have m15 : γ 0 6 0 13 = ρ 15 := m15
  have m16 : γ 1 1 0 8 = ρ 18 := m16
  have m17 : γ 1 4 0 7 = ρ 19 := m17
  have m18 : γ 1 6 0 0 = ρ 20 := m18
  have m19 : γ 1 5 0 3 = ρ 21 := m19
  have m20 : γ 1 6 0 8 = ρ 22 := m20
  have m21 : γ 1 6 0 9 = ρ 23 := m21
  have m22 : γ 1 6 0 10 = ρ 24 := m22
  have m23 : γ 1 6 0 11 = ρ 25 := m23
  have m24 : γ 1 6 0 12 = ρ 26 := m24
  have m25 : γ 1 6 0 13 = ρ 27 := m25
  have m26 : γ 2 4 0 7 = ρ 28 := m26
  have m27 : γ 3 6 0 0 = ρ 29 := m27
  have m28 : γ 3 4 0 7 = ρ 30 := m28
  have m29 : γ 3 5 0 3 = ρ 31 := m29
  have m30 : γ 3 6 0 8 = ρ 32 := m30
  have m31 : γ 3 6 0 9 = 1 := m31
  have m32 : γ 3 6 0 10 = 0 := m32
  have m33 : γ 3 6 0 11 = ρ 33 := m33
  have m34 : γ 3 6 0 13 = ρ 34 := m34
  obtain ⟨⟨⟨-, c1⟩, c2⟩, c3⟩ := hc
  have c1 : ∀ (G : Nat) (k j : Int), ¬ rMdP m145_ G j → γ 1 G k j = γ 0 G k j := c1
  have c2 : ∀ (G : Nat) (k j : Int), ¬ rMdP m134_ G j → γ 2 G k j = γ 1 G k j := c2
  have c3 : ∀ (G : Nat) (k j : Int), ¬ rMdP m142_ G j → γ 3 G k j = γ 2 G k j := c3
  obtain ⟨l0, l1, -⟩ := hl
  have l0 : sn235 [ρ 16, ρ 3, ρ 19] (γ 1) 0 0 (γ 2) := hS235 _ _ _ _ _ l0
  have l1 : sn263 [ρ 16, ρ 20, ρ 4, ρ 28, ρ 21, ρ 22, ρ 23, ρ 24, ρ 25, ρ 26, ρ 27] (γ 2) 1 0 (γ 3) := hS263 _ _ _ _ _ l1
  show sn265 [ρ 0, ρ 1, ρ 2, ρ 3, ρ 4, ρ 5, ρ 6, ρ 7, ρ 8, ρ 9, ρ 10, ρ 11, ρ 12, ρ 13, ρ 14, ρ 15] (γ 0) 1 0 (γ 3)
  have hD : en265 (γ 0) (0, [ρ 16, ρ 17], γ 1) = .inr (1, 0, γ 3) := by
    unfold en265
    refine (if_pos (show (0 : Nat) = 0 by decide)).trans ?_
    refine (zLet_eq (show _ = γ 1 from rfl)).trans ?_
    refine (zLet_eq (show _ = ρ 16 from rfl)).trans ?_
    refine (zLet_eq (show _ = ρ 17 from rfl)).trans ?_
    refine (zLet_eq m16).trans ?_
    refine (zLet_eq m17).trans ?_
    refine (zLet_eq m18).trans ?_
    refine (if_neg (show ¬ (ρ 16 ≥ ρ 18) by omega)).trans ?_
    refine (zLet_eq (show fn235 [ρ 16] (γ 1) = (0, 0, γ 2) from l0.symm)).trans ?_
    refine (zLet_eq (show _ = γ 2 from rfl)).trans ?_
    refine (if_pos (show (0 : Nat) = 0 by decide)).trans ?_
    refine (zLet_eq (show fn263 [ρ 16] (γ 2) = (1, 0, γ 3) from l1.symm)).trans ?_
    refine (zLet_eq (show _ = γ 3 from rfl)).trans ?_
    refine (if_neg (show ¬ (1 : Nat) = 0 by decide)).trans ?_
    refine (if_pos (show (1 : Nat) = 1 by decide)).trans ?_
    rfl
  exact zGoo_aend hJ hD
theorem vn265a0_5 {S : Nat → zSpc} (hS163 : ∀ x g o v gz, S 163 x g o v gz → sn163 x g o v gz) (hS223 : ∀ x g o v gz, S 223 x g o v gz → sn223 x g o v gz) (hS235 : ∀ x g o v gz, S 235 x g o v gz → sn235 x g o v gz) (hS236 : ∀ x g o v gz, S 236 x g o v gz → sn236 x g o v gz) (hS263 : ∀ x g o v gz, S 263 x g o v gz → sn263 x g o v gz) (hS264 : ∀ x g o v gz, S 264 x g o v gz → sn264 x g o v gz) {a : List Int} {g : rHp} : ∀ (ρ : Nat → Int) (γ : Nat → rHp), jn265 a g 0 (zAg (zNA a265_ 0) ρ) (γ 1) → zO 16 S a g q265a0_5 ρ γ → zGl (fun i vs g1 => jn265 a g i vs g1) (sn265 a g) q265a0_5 ρ γ := by
  intro ρ γ hJ h
  obtain ⟨ha, hg, hr, hf, hm, hc, hl⟩ := h
  have ha : a = [ρ 0, ρ 1, ρ 2, ρ 3, ρ 4, ρ 5, ρ 6, ρ 7, ρ 8, ρ 9, ρ 10, ρ 11, ρ 12, ρ 13, ρ 14, ρ 15] := ha
  subst ha
  subst hg
  have hJ : jn265 [ρ 0, ρ 1, ρ 2, ρ 3, ρ 4, ρ 5, ρ 6, ρ 7, ρ 8, ρ 9, ρ 10, ρ 11, ρ 12, ρ 13, ρ 14, ρ 15] (γ 0) 0 [ρ 0, ρ 1, ρ 2, ρ 3, ρ 4, ρ 5, ρ 6, ρ 7, ρ 8, ρ 9, ρ 10, ρ 11, ρ 12, ρ 13, ρ 14, ρ 15, ρ 16, ρ 17, ρ 18, ρ 19, ρ 20, ρ 21, ρ 22, ρ 23, ρ 24, ρ 25, ρ 26, ρ 27] (γ 1) := hJ
  obtain ⟨r0, r1, r2, r3, r4, r5, r6, r7, r8, r9, r10, r11, r12, r13, r14, r15, r16, r17, r18, r19, r20, r21, r22, r23, r24, r25, r26, r27, r28, r29, r30, r31, r32, r33, r34, -⟩ := hr
  have r0 : (0 : Int) ≤ ρ 0 ∧ ρ 0 ≤ 2000 := r0
  have r1 : (0 : Int) ≤ ρ 1 ∧ ρ 1 ≤ 20 := r1
  have r2 : (0 : Int) ≤ ρ 2 ∧ ρ 2 ≤ 20 := r2
  have r3 : (0 : Int) ≤ ρ 3 ∧ ρ 3 ≤ 400 := r3
  have r4 : (0 : Int) ≤ ρ 4 ∧ ρ 4 ≤ 60 := r4
  have r5 : (0 : Int) ≤ ρ 5 ∧ ρ 5 ≤ 2000 := r5
  have r6 : (0 : Int) ≤ ρ 6 ∧ ρ 6 ≤ 50001 := r6
  have r7 : ((-2147483648) : Int) ≤ ρ 7 ∧ ρ 7 ≤ 2147483647 := r7
  have r8 : ((-2147483648) : Int) ≤ ρ 8 ∧ ρ 8 ≤ 2147483647 := r8
  have r9 : (0 : Int) ≤ ρ 9 ∧ ρ 9 ≤ 2000 := r9
  have r10 : ((-2147483648) : Int) ≤ ρ 10 ∧ ρ 10 ≤ 2147483647 := r10
  have r11 : (0 : Int) ≤ ρ 11 ∧ ρ 11 ≤ 2 := r11
  have r12 : ((-2147483648) : Int) ≤ ρ 12 ∧ ρ 12 ≤ 2147483647 := r12
  have r13 : (0 : Int) ≤ ρ 13 ∧ ρ 13 ≤ 2000 := r13
  have r14 : (0 : Int) ≤ ρ 14 ∧ ρ 14 ≤ 2000 := r14
  have r15 : ((-2147483648) : Int) ≤ ρ 15 ∧ ρ 15 ≤ 2147483647 := r15
  have r16 : (0 : Int) ≤ ρ 16 ∧ ρ 16 ≤ 20 := r16
  have r17 : ((-2147483648) : Int) ≤ ρ 17 ∧ ρ 17 ≤ 2147483647 := r17
  have r18 : (0 : Int) ≤ ρ 18 ∧ ρ 18 ≤ 20 := r18
  have r19 : (0 : Int) ≤ ρ 19 ∧ ρ 19 ≤ 2000 := r19
  have r20 : (0 : Int) ≤ ρ 20 ∧ ρ 20 ≤ 50000 := r20
  have r21 : (0 : Int) ≤ ρ 21 ∧ ρ 21 ≤ 2000 := r21
  have r22 : ((-2147483648) : Int) ≤ ρ 22 ∧ ρ 22 ≤ 2147483647 := r22
  have r23 : (0 : Int) ≤ ρ 23 ∧ ρ 23 ≤ 2 := r23
  have r24 : ((-2147483648) : Int) ≤ ρ 24 ∧ ρ 24 ≤ 2147483647 := r24
  have r25 : (0 : Int) ≤ ρ 25 ∧ ρ 25 ≤ 2000 := r25
  have r26 : (0 : Int) ≤ ρ 26 ∧ ρ 26 ≤ 2000 := r26
  have r27 : ((-2147483648) : Int) ≤ ρ 27 ∧ ρ 27 ≤ 2147483647 := r27
  have r28 : (0 : Int) ≤ ρ 28 ∧ ρ 28 ≤ 2000 := r28
  have r29 : (50001 : Int) ≤ ρ 29 ∧ ρ 29 ≤ 50001 := r29
  have r30 : (0 : Int) ≤ ρ 30 ∧ ρ 30 ≤ 2000 := r30
  have r31 : (0 : Int) ≤ ρ 31 ∧ ρ 31 ≤ 2000 := r31
  have r32 : (0 : Int) ≤ ρ 32 ∧ ρ 32 ≤ 60 := r32
  have r33 : (0 : Int) ≤ ρ 33 ∧ ρ 33 ≤ 2000 := r33
  have r34 : ((-2147483648) : Int) ≤ ρ 34 ∧ ρ 34 ≤ 2147483647 := r34
  obtain ⟨f0, f1, f2, f3, f4, f5, f6, -⟩ := hf
  have f0 : (0 : Int) ≤ -ρ 33 + ρ 30 := f0
  have f1 : (0 : Int) ≤ ρ 30 + -ρ 28 := f1
  have f2 : (0 : Int) ≤ ρ 33 + -ρ 28 := f2
  have f3 : (0 : Int) ≤ -ρ 32 + ρ 4 + (-1) := f3
  have f4 : (0 : Int) ≤ ρ 28 + -ρ 19 := f4
  have f5 : (0 : Int) ≤ ρ 18 + -ρ 16 + (-1) := f5
  have f6 : (0 : Int) ≤ ρ 18 + -ρ 16 := f6
  obtain ⟨m0, m1, m2, m3, m4, m5, m6, m7, m8, m9, m10, m11, m12, m13, m14, m15, m16, m17, m18, m19, m20, m21, m22, m23, m24, m25, m26, m27, m28, m29, m30, m31, m32, m33, m34, -⟩ := hm
  have m0 : γ 0 2 0 3 = ρ 0 := m0
  have m1 : γ 0 1 0 7 = ρ 1 := m1
  have m2 : γ 0 1 0 8 = ρ 2 := m2
  have m3 : γ 0 1 0 9 = ρ 3 := m3
  have m4 : γ 0 1 0 10 = ρ 4 := m4
  have m5 : γ 0 4 0 7 = ρ 5 := m5
  have m6 : γ 0 6 0 0 = ρ 6 := m6
  have m7 : γ 0 0 0 8 = ρ 7 := m7
  have m8 : γ 0 0 0 9 = ρ 8 := m8
  have m9 : γ 0 5 0 3 = ρ 9 := m9
  have m10 : γ 0 6 0 8 = ρ 10 := m10
  have m11 : γ 0 6 0 9 = ρ 11 := m11
  have m12 : γ 0 6 0 10 = ρ 12 := m12
  have m13 : γ 0 6 0 11 = ρ 13 := m13
  have m14 : γ 0 6 0 12 = ρ 14 := m14
  have m15 : γ 0 6 0 13 = ρ 15 := m15
  have m16 : γ 1 1 0 8 = ρ 18 := m16
  have m17 : γ 1 4 0 7 = ρ 19 := m17
  have m18 : γ 1 6 0 0 = ρ 20 := m18
  have m19 : γ 1 5 0 3 = ρ 21 := m19
  have m20 : γ 1 6 0 8 = ρ 22 := m20
  have m21 : γ 1 6 0 9 = ρ 23 := m21
  have m22 : γ 1 6 0 10 = ρ 24 := m22
  have m23 : γ 1 6 0 11 = ρ 25 := m23
  have m24 : γ 1 6 0 12 = ρ 26 := m24
  have m25 : γ 1 6 0 13 = ρ 27 := m25
  have m26 : γ 2 4 0 7 = ρ 28 := m26
  have m27 : γ 3 6 0 0 = ρ 29 := m27
  have m28 : γ 3 4 0 7 = ρ 30 := m28
  have m29 : γ 3 5 0 3 = ρ 31 := m29
  have m30 : γ 3 6 0 8 = ρ 32 := m30
  have m31 : γ 3 6 0 9 = 1 := m31
  have m32 : γ 3 6 0 10 = 0 := m32
  have m33 : γ 3 6 0 11 = ρ 33 := m33
  have m34 : γ 3 6 0 13 = ρ 34 := m34
  obtain ⟨⟨⟨-, c1⟩, c2⟩, c3⟩ := hc
  have c1 : ∀ (G : Nat) (k j : Int), ¬ rMdP m145_ G j → γ 1 G k j = γ 0 G k j := c1
  have c2 : ∀ (G : Nat) (k j : Int), ¬ rMdP m134_ G j → γ 2 G k j = γ 1 G k j := c2
  have c3 : ∀ (G : Nat) (k j : Int), ¬ rMdP m142_ G j → γ 3 G k j = γ 2 G k j := c3
  obtain ⟨l0, l1, -⟩ := hl
  have l0 : sn235 [ρ 16, ρ 3, ρ 19] (γ 1) 0 0 (γ 2) := hS235 _ _ _ _ _ l0
  have l1 : sn263 [ρ 16, ρ 20, ρ 4, ρ 28, ρ 21, ρ 22, ρ 23, ρ 24, ρ 25, ρ 26, ρ 27] (γ 2) 4 0 (γ 3) := hS263 _ _ _ _ _ l1
  show sn265 [ρ 0, ρ 1, ρ 2, ρ 3, ρ 4, ρ 5, ρ 6, ρ 7, ρ 8, ρ 9, ρ 10, ρ 11, ρ 12, ρ 13, ρ 14, ρ 15] (γ 0) 4 0 (γ 3)
  have hD : en265 (γ 0) (0, [ρ 16, ρ 17], γ 1) = .inr (4, 0, γ 3) := by
    unfold en265
    refine (if_pos (show (0 : Nat) = 0 by decide)).trans ?_
    refine (zLet_eq (show _ = γ 1 from rfl)).trans ?_
    refine (zLet_eq (show _ = ρ 16 from rfl)).trans ?_
    refine (zLet_eq (show _ = ρ 17 from rfl)).trans ?_
    refine (zLet_eq m16).trans ?_
    refine (zLet_eq m17).trans ?_
    refine (zLet_eq m18).trans ?_
    refine (if_neg (show ¬ (ρ 16 ≥ ρ 18) by omega)).trans ?_
    refine (zLet_eq (show fn235 [ρ 16] (γ 1) = (0, 0, γ 2) from l0.symm)).trans ?_
    refine (zLet_eq (show _ = γ 2 from rfl)).trans ?_
    refine (if_pos (show (0 : Nat) = 0 by decide)).trans ?_
    refine (zLet_eq (show fn263 [ρ 16] (γ 2) = (4, 0, γ 3) from l1.symm)).trans ?_
    refine (zLet_eq (show _ = γ 3 from rfl)).trans ?_
    refine (if_neg (show ¬ (4 : Nat) = 0 by decide)).trans ?_
    refine (if_neg (show ¬ (4 : Nat) = 1 by decide)).trans ?_
    rfl
  exact zGoo_aend hJ hD
theorem vn265a0_6 {S : Nat → zSpc} (hS163 : ∀ x g o v gz, S 163 x g o v gz → sn163 x g o v gz) (hS223 : ∀ x g o v gz, S 223 x g o v gz → sn223 x g o v gz) (hS235 : ∀ x g o v gz, S 235 x g o v gz → sn235 x g o v gz) (hS236 : ∀ x g o v gz, S 236 x g o v gz → sn236 x g o v gz) (hS263 : ∀ x g o v gz, S 263 x g o v gz → sn263 x g o v gz) (hS264 : ∀ x g o v gz, S 264 x g o v gz → sn264 x g o v gz) {a : List Int} {g : rHp} : ∀ (ρ : Nat → Int) (γ : Nat → rHp), jn265 a g 0 (zAg (zNA a265_ 0) ρ) (γ 1) → zO 16 S a g q265a0_6 ρ γ → zGl (fun i vs g1 => jn265 a g i vs g1) (sn265 a g) q265a0_6 ρ γ := by
  intro ρ γ hJ h
  obtain ⟨ha, hg, hr, hf, hm, hc, hl⟩ := h
  have ha : a = [ρ 0, ρ 1, ρ 2, ρ 3, ρ 4, ρ 5, ρ 6, ρ 7, ρ 8, ρ 9, ρ 10, ρ 11, ρ 12, ρ 13, ρ 14, ρ 15] := ha
  subst ha
  subst hg
  have hJ : jn265 [ρ 0, ρ 1, ρ 2, ρ 3, ρ 4, ρ 5, ρ 6, ρ 7, ρ 8, ρ 9, ρ 10, ρ 11, ρ 12, ρ 13, ρ 14, ρ 15] (γ 0) 0 [ρ 0, ρ 1, ρ 2, ρ 3, ρ 4, ρ 5, ρ 6, ρ 7, ρ 8, ρ 9, ρ 10, ρ 11, ρ 12, ρ 13, ρ 14, ρ 15, ρ 16, ρ 17, ρ 18, ρ 19, ρ 20, ρ 21, ρ 22, ρ 23, ρ 24, ρ 25, ρ 26, ρ 27] (γ 1) := hJ
  obtain ⟨r0, r1, r2, r3, r4, r5, r6, r7, r8, r9, r10, r11, r12, r13, r14, r15, r16, r17, r18, r19, r20, r21, r22, r23, r24, r25, r26, r27, r28, -⟩ := hr
  have r0 : (0 : Int) ≤ ρ 0 ∧ ρ 0 ≤ 2000 := r0
  have r1 : (0 : Int) ≤ ρ 1 ∧ ρ 1 ≤ 20 := r1
  have r2 : (0 : Int) ≤ ρ 2 ∧ ρ 2 ≤ 20 := r2
  have r3 : (0 : Int) ≤ ρ 3 ∧ ρ 3 ≤ 400 := r3
  have r4 : (0 : Int) ≤ ρ 4 ∧ ρ 4 ≤ 60 := r4
  have r5 : (0 : Int) ≤ ρ 5 ∧ ρ 5 ≤ 2000 := r5
  have r6 : (0 : Int) ≤ ρ 6 ∧ ρ 6 ≤ 50001 := r6
  have r7 : ((-2147483648) : Int) ≤ ρ 7 ∧ ρ 7 ≤ 2147483647 := r7
  have r8 : ((-2147483648) : Int) ≤ ρ 8 ∧ ρ 8 ≤ 2147483647 := r8
  have r9 : (0 : Int) ≤ ρ 9 ∧ ρ 9 ≤ 2000 := r9
  have r10 : ((-2147483648) : Int) ≤ ρ 10 ∧ ρ 10 ≤ 2147483647 := r10
  have r11 : (0 : Int) ≤ ρ 11 ∧ ρ 11 ≤ 2 := r11
  have r12 : ((-2147483648) : Int) ≤ ρ 12 ∧ ρ 12 ≤ 2147483647 := r12
  have r13 : (0 : Int) ≤ ρ 13 ∧ ρ 13 ≤ 2000 := r13
  have r14 : (0 : Int) ≤ ρ 14 ∧ ρ 14 ≤ 2000 := r14
  have r15 : ((-2147483648) : Int) ≤ ρ 15 ∧ ρ 15 ≤ 2147483647 := r15
  have r16 : (0 : Int) ≤ ρ 16 ∧ ρ 16 ≤ 20 := r16
  have r17 : ((-2147483648) : Int) ≤ ρ 17 ∧ ρ 17 ≤ 2147483647 := r17
  have r18 : (0 : Int) ≤ ρ 18 ∧ ρ 18 ≤ 20 := r18
  have r19 : (0 : Int) ≤ ρ 19 ∧ ρ 19 ≤ 2000 := r19
  have r20 : (0 : Int) ≤ ρ 20 ∧ ρ 20 ≤ 50000 := r20
  have r21 : (0 : Int) ≤ ρ 21 ∧ ρ 21 ≤ 2000 := r21
  have r22 : ((-2147483648) : Int) ≤ ρ 22 ∧ ρ 22 ≤ 2147483647 := r22
  have r23 : (0 : Int) ≤ ρ 23 ∧ ρ 23 ≤ 2 := r23
  have r24 : ((-2147483648) : Int) ≤ ρ 24 ∧ ρ 24 ≤ 2147483647 := r24
  have r25 : (0 : Int) ≤ ρ 25 ∧ ρ 25 ≤ 2000 := r25
  have r26 : (0 : Int) ≤ ρ 26 ∧ ρ 26 ≤ 2000 := r26
  have r27 : ((-2147483648) : Int) ≤ ρ 27 ∧ ρ 27 ≤ 2147483647 := r27
  have r28 : (2000 : Int) ≤ ρ 28 ∧ ρ 28 ≤ 2000 := r28
  obtain ⟨f0, f1, -⟩ := hf
  have f0 : (0 : Int) ≤ ρ 18 + -ρ 16 + (-1) := f0
  have f1 : (0 : Int) ≤ ρ 18 + -ρ 16 := f1
  obtain ⟨m0, m1, m2, m3, m4, m5, m6, m7, m8, m9, m10, m11, m12, m13, m14, m15, m16, m17, m18, m19, m20, m21, m22, m23, m24, m25, m26, -⟩ := hm
  have m0 : γ 0 2 0 3 = ρ 0 := m0
  have m1 : γ 0 1 0 7 = ρ 1 := m1
  have m2 : γ 0 1 0 8 = ρ 2 := m2
  have m3 : γ 0 1 0 9 = ρ 3 := m3
  have m4 : γ 0 1 0 10 = ρ 4 := m4
  have m5 : γ 0 4 0 7 = ρ 5 := m5
  have m6 : γ 0 6 0 0 = ρ 6 := m6
  have m7 : γ 0 0 0 8 = ρ 7 := m7
  have m8 : γ 0 0 0 9 = ρ 8 := m8
  have m9 : γ 0 5 0 3 = ρ 9 := m9
  have m10 : γ 0 6 0 8 = ρ 10 := m10
  have m11 : γ 0 6 0 9 = ρ 11 := m11
  have m12 : γ 0 6 0 10 = ρ 12 := m12
  have m13 : γ 0 6 0 11 = ρ 13 := m13
  have m14 : γ 0 6 0 12 = ρ 14 := m14
  have m15 : γ 0 6 0 13 = ρ 15 := m15
  have m16 : γ 1 1 0 8 = ρ 18 := m16
  have m17 : γ 1 4 0 7 = ρ 19 := m17
  have m18 : γ 1 6 0 0 = ρ 20 := m18
  have m19 : γ 1 5 0 3 = ρ 21 := m19
  have m20 : γ 1 6 0 8 = ρ 22 := m20
  have m21 : γ 1 6 0 9 = ρ 23 := m21
  have m22 : γ 1 6 0 10 = ρ 24 := m22
  have m23 : γ 1 6 0 11 = ρ 25 := m23
  have m24 : γ 1 6 0 12 = ρ 26 := m24
  have m25 : γ 1 6 0 13 = ρ 27 := m25
  have m26 : γ 2 4 0 7 = ρ 28 := m26
  obtain ⟨⟨-, c1⟩, c2⟩ := hc
  have c1 : ∀ (G : Nat) (k j : Int), ¬ rMdP m145_ G j → γ 1 G k j = γ 0 G k j := c1
  have c2 : ∀ (G : Nat) (k j : Int), ¬ rMdP m134_ G j → γ 2 G k j = γ 1 G k j := c2
  obtain ⟨l0, -⟩ := hl
  have l0 : sn235 [ρ 16, ρ 3, ρ 19] (γ 1) 1 0 (γ 2) := hS235 _ _ _ _ _ l0
  show sn265 [ρ 0, ρ 1, ρ 2, ρ 3, ρ 4, ρ 5, ρ 6, ρ 7, ρ 8, ρ 9, ρ 10, ρ 11, ρ 12, ρ 13, ρ 14, ρ 15] (γ 0) 1 0 (γ 2)
  have hD : en265 (γ 0) (0, [ρ 16, ρ 17], γ 1) = .inr (1, 0, γ 2) := by
    unfold en265
    refine (if_pos (show (0 : Nat) = 0 by decide)).trans ?_
    refine (zLet_eq (show _ = γ 1 from rfl)).trans ?_
    refine (zLet_eq (show _ = ρ 16 from rfl)).trans ?_
    refine (zLet_eq (show _ = ρ 17 from rfl)).trans ?_
    refine (zLet_eq m16).trans ?_
    refine (zLet_eq m17).trans ?_
    refine (zLet_eq m18).trans ?_
    refine (if_neg (show ¬ (ρ 16 ≥ ρ 18) by omega)).trans ?_
    refine (zLet_eq (show fn235 [ρ 16] (γ 1) = (1, 0, γ 2) from l0.symm)).trans ?_
    refine (zLet_eq (show _ = γ 2 from rfl)).trans ?_
    refine (if_neg (show ¬ (1 : Nat) = 0 by decide)).trans ?_
    rfl
  exact zGoo_aend hJ hD
theorem yn265 {S : Nat → zSpc} (hS163 : ∀ x g o v gz, S 163 x g o v gz → sn163 x g o v gz) (hS223 : ∀ x g o v gz, S 223 x g o v gz → sn223 x g o v gz) (hS235 : ∀ x g o v gz, S 235 x g o v gz → sn235 x g o v gz) (hS236 : ∀ x g o v gz, S 236 x g o v gz → sn236 x g o v gz) (hS263 : ∀ x g o v gz, S 263 x g o v gz → sn263 x g o v gz) (hS264 : ∀ x g o v gz, S 264 x g o v gz → sn264 x g o v gz) : ∀ x g o v gz, zSem uW uT w265_.2.2.2.1 w265_.2.2.1.1.length S q265 (fun i => q265a.getD i []) (zNA a265_) x g o v gz → sn265 x g o v gz := by
  intro a g o v gz h
  exact zSem_all (l0 := q265) (las := q265a) (S := S) (J := (fun i vs g1 => jn265 a g i vs g1)) (P := sn265 a g) (fun _ => (show zAll _ [q265_0, q265_1] from (zAll_c (vn265_0 hS163 hS223 hS235 hS236 hS263 hS264) (zAll_c (vn265_1 hS163 hS223 hS235 hS236 hS263 hS264) zAll_n)))) (fun _ => (show zAllI _ 0 [q265a0] from ⟨(show zAll _ [q265a0_0, q265a0_1, q265a0_2, q265a0_3, q265a0_4, q265a0_5, q265a0_6] from (zAll_c (vn265a0_0 hS163 hS223 hS235 hS236 hS263 hS264) (zAll_c (vn265a0_1 hS163 hS223 hS235 hS236 hS263 hS264) (zAll_c (vn265a0_2 hS163 hS223 hS235 hS236 hS263 hS264) (zAll_c (vn265a0_3 hS163 hS223 hS235 hS236 hS263 hS264) (zAll_c (vn265a0_4 hS163 hS223 hS235 hS236 hS263 hS264) (zAll_c (vn265a0_5 hS163 hS223 hS235 hS236 hS263 hS264) (zAll_c (vn265a0_6 hS163 hS223 hS235 hS236 hS263 hS264) zAll_n)))))))), trivial⟩)) h
