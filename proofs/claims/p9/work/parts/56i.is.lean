/-! ===== the runs are the functions ===== -/
theorem vn43_0 {S : Nat → zSpc} (hS6 : ∀ x g o v gz, S 6 x g o v gz → sn6 x g o v gz) (hS7 : ∀ x g o v gz, S 7 x g o v gz → sn7 x g o v gz) (hS8 : ∀ x g o v gz, S 8 x g o v gz → sn8 x g o v gz) (hS42 : ∀ x g o v gz, S 42 x g o v gz → sn42 x g o v gz) {a : List Int} {g : rHp} : ∀ (ρ : Nat → Int) (γ : Nat → rHp), zO 15 S a g q43_0 ρ γ → zGl (fun i vs g1 => jn43 a g i vs g1) (sn43 a g) q43_0 ρ γ := by
  intro ρ γ h
  obtain ⟨ha, hg, hr, hf, hm, hc, hl⟩ := h
  have ha : a = [ρ 0, ρ 1, ρ 2, ρ 3, ρ 4, ρ 5, ρ 6, ρ 7, ρ 8, ρ 9, ρ 10, ρ 11, ρ 12, ρ 13, ρ 14] := ha
  subst ha
  subst hg
  show jn43 [ρ 0, ρ 1, ρ 2, ρ 3, ρ 4, ρ 5, ρ 6, ρ 7, ρ 8, ρ 9, ρ 10, ρ 11, ρ 12, ρ 13, ρ 14] (γ 0) 0 [ρ 0, ρ 1, ρ 2, ρ 3, ρ 4, ρ 5, ρ 6, ρ 7, ρ 8, ρ 9, ρ 10, ρ 11, ρ 12, ρ 13, ρ 14, 1, ρ 0, ρ 2, ρ 3, ρ 4, ρ 5, ρ 11, ρ 12, ρ 13, ρ 14, ρ 9] (γ 0)
  have hD : dn43 [] (γ 0) = .inl (0, [1], γ 0) := by
    unfold dn43
    rfl
  exact zGoo_to hD
theorem vn43a0_0 {S : Nat → zSpc} (hS6 : ∀ x g o v gz, S 6 x g o v gz → sn6 x g o v gz) (hS7 : ∀ x g o v gz, S 7 x g o v gz → sn7 x g o v gz) (hS8 : ∀ x g o v gz, S 8 x g o v gz → sn8 x g o v gz) (hS42 : ∀ x g o v gz, S 42 x g o v gz → sn42 x g o v gz) {a : List Int} {g : rHp} : ∀ (ρ : Nat → Int) (γ : Nat → rHp), jn43 a g 0 (zAg (zNA a43_ 0) ρ) (γ 1) → zO 15 S a g q43a0_0 ρ γ → zGl (fun i vs g1 => jn43 a g i vs g1) (sn43 a g) q43a0_0 ρ γ := by
  intro ρ γ hJ h
  obtain ⟨ha, hg, hr, hf, hm, hc, hl⟩ := h
  have ha : a = [ρ 0, ρ 1, ρ 2, ρ 3, ρ 4, ρ 5, ρ 6, ρ 7, ρ 8, ρ 9, ρ 10, ρ 11, ρ 12, ρ 13, ρ 14] := ha
  subst ha
  subst hg
  have hJ : jn43 [ρ 0, ρ 1, ρ 2, ρ 3, ρ 4, ρ 5, ρ 6, ρ 7, ρ 8, ρ 9, ρ 10, ρ 11, ρ 12, ρ 13, ρ 14] (γ 0) 0 [ρ 0, ρ 1, ρ 2, ρ 3, ρ 4, ρ 5, ρ 6, ρ 7, ρ 8, ρ 9, ρ 10, ρ 11, ρ 12, ρ 13, ρ 14, ρ 15, ρ 16, ρ 17, ρ 18, ρ 19, ρ 20, ρ 21, ρ 22, ρ 23, ρ 24, ρ 25] (γ 1) := hJ
  obtain ⟨-, -, -, -, -, -, -, -, -, -, -, -, -, -, -, r15, -⟩ := hr
  have r15 : (0 : Int) ≤ ρ 15 ∧ ρ 15 ≤ 0 := r15
  have w_0 : ρ 15 = 0 := by omega
  obtain ⟨-, m1, -, -, -, -, -, -, m8, -, -, -, -, -, -, -, -, -, -, -, -, -, -, -, -, m25, -⟩ := hm
  have m1 : γ 0 15 0 34 = ρ 1 := m1
  have m8 : γ 0 15 0 44 = ρ 8 := m8
  have m25 : γ 1 73 0 (ρ 8) = ρ 25 := m25
  show sn43 [ρ 0, ρ 1, ρ 2, ρ 3, ρ 4, ρ 5, ρ 6, ρ 7, ρ 8, ρ 9, ρ 10, ρ 11, ρ 12, ρ 13, ρ 14] (γ 0) 0 1 (γ 1)
  have hD : en43 (γ 0) (0, [ρ 15], γ 1) = .inr (0, 1, γ 1) := by
    unfold en43
    refine (if_pos (show (0 : Nat) = 0 by decide)).trans ?_
    refine (zLet_eq (show _ = γ 1 from rfl)).trans ?_
    refine (zLet_eq (show _ = ρ 15 from rfl)).trans ?_
    refine (zLet_eq m1).trans ?_
    refine (zLet_eq m8).trans ?_
    refine (zLet_eq m25).trans ?_
    refine (if_pos w_0).trans ?_
    rfl
  exact zGoo_aend hJ hD
theorem vn43a0_1 {S : Nat → zSpc} (hS6 : ∀ x g o v gz, S 6 x g o v gz → sn6 x g o v gz) (hS7 : ∀ x g o v gz, S 7 x g o v gz → sn7 x g o v gz) (hS8 : ∀ x g o v gz, S 8 x g o v gz → sn8 x g o v gz) (hS42 : ∀ x g o v gz, S 42 x g o v gz → sn42 x g o v gz) {a : List Int} {g : rHp} : ∀ (ρ : Nat → Int) (γ : Nat → rHp), jn43 a g 0 (zAg (zNA a43_ 0) ρ) (γ 1) → zO 15 S a g q43a0_1 ρ γ → zGl (fun i vs g1 => jn43 a g i vs g1) (sn43 a g) q43a0_1 ρ γ := by
  intro ρ γ hJ h
  obtain ⟨ha, hg, hr, hf, hm, hc, hl⟩ := h
  have ha : a = [ρ 0, ρ 1, ρ 2, ρ 3, ρ 4, ρ 5, ρ 6, ρ 7, ρ 8, ρ 9, ρ 10, ρ 11, ρ 12, ρ 13, ρ 14] := ha
  subst ha
  subst hg
  have hJ : jn43 [ρ 0, ρ 1, ρ 2, ρ 3, ρ 4, ρ 5, ρ 6, ρ 7, ρ 8, ρ 9, ρ 10, ρ 11, ρ 12, ρ 13, ρ 14] (γ 0) 0 [ρ 0, ρ 1, ρ 2, ρ 3, ρ 4, ρ 5, ρ 6, ρ 7, ρ 8, ρ 9, ρ 10, ρ 11, ρ 12, ρ 13, ρ 14, ρ 15, ρ 16, ρ 17, ρ 18, ρ 19, ρ 20, ρ 21, ρ 22, ρ 23, ρ 24, ρ 25] (γ 1) := hJ
  obtain ⟨-, -, -, -, -, -, -, -, -, -, -, -, -, -, -, r15, -, -, -, -, -, -, -, -, -, r25, -⟩ := hr
  have r15 : (1 : Int) ≤ ρ 15 ∧ ρ 15 ≤ 1 := r15
  have r25 : (0 : Int) ≤ ρ 25 ∧ ρ 25 ≤ 7 := r25
  obtain ⟨w_0, w_1⟩ : (¬ (ρ 15 = 0)) ∧ (ρ 25 ≠ 8) := ⟨by omega, by omega⟩
  obtain ⟨-, m1, -, -, -, -, -, -, m8, -, -, -, -, -, -, -, -, -, -, -, -, -, -, -, -, m25, m26, -⟩ := hm
  have m1 : γ 0 15 0 34 = ρ 1 := m1
  have m8 : γ 0 15 0 44 = ρ 8 := m8
  have m25 : γ 1 73 0 (ρ 8) = ρ 25 := m25
  have m26 : γ 2 15 0 35 = ρ 26 := m26
  obtain ⟨l0, l1, -⟩ := hl
  have l0 : sn7 [ρ 16, ρ 1] (γ 1) 0 0 (γ 2) := hS7 _ _ _ _ _ l0
  have l1 : sn42 [ρ 26, ρ 1, ρ 17, ρ 18, ρ 19, ρ 20, ρ 6, ρ 7, ρ 8, ρ 25, ρ 27, ρ 28, ρ 29, ρ 10, ρ 21, ρ 22, ρ 23, ρ 24] (γ 2) 0 0 (γ 3) := hS42 _ _ _ _ _ l1
  show sn43 [ρ 0, ρ 1, ρ 2, ρ 3, ρ 4, ρ 5, ρ 6, ρ 7, ρ 8, ρ 9, ρ 10, ρ 11, ρ 12, ρ 13, ρ 14] (γ 0) 0 0 (γ 3)
  have hD : en43 (γ 0) (0, [ρ 15], γ 1) = .inr (0, 0, γ 3) := by
    unfold en43
    refine (if_pos (show (0 : Nat) = 0 by decide)).trans ?_
    refine (zLet_eq (show _ = γ 1 from rfl)).trans ?_
    refine (zLet_eq (show _ = ρ 15 from rfl)).trans ?_
    refine (zLet_eq m1).trans ?_
    refine (zLet_eq m8).trans ?_
    refine (zLet_eq m25).trans ?_
    refine (if_neg w_0).trans ?_
    refine (zLet_eq (show fn7 [] (γ 1) = (0, 0, γ 2) from l0.symm)).trans ?_
    refine (zLet_eq (show _ = γ 2 from rfl)).trans ?_
    refine (zLet_eq m26).trans ?_
    refine (if_pos w_1).trans ?_
    refine (zLet_eq (show fn42 [] (γ 2) = (0, 0, γ 3) from l1.symm)).trans ?_
    refine (zLet_eq (show _ = γ 3 from rfl)).trans ?_
    refine (if_neg zQ0_).trans ?_
    rfl
  exact zGoo_aend hJ hD
theorem vn43a0_2 {S : Nat → zSpc} (hS6 : ∀ x g o v gz, S 6 x g o v gz → sn6 x g o v gz) (hS7 : ∀ x g o v gz, S 7 x g o v gz → sn7 x g o v gz) (hS8 : ∀ x g o v gz, S 8 x g o v gz → sn8 x g o v gz) (hS42 : ∀ x g o v gz, S 42 x g o v gz → sn42 x g o v gz) {a : List Int} {g : rHp} : ∀ (ρ : Nat → Int) (γ : Nat → rHp), jn43 a g 0 (zAg (zNA a43_ 0) ρ) (γ 1) → zO 15 S a g q43a0_2 ρ γ → zGl (fun i vs g1 => jn43 a g i vs g1) (sn43 a g) q43a0_2 ρ γ := by
  intro ρ γ hJ h
  obtain ⟨ha, hg, hr, hf, hm, hc, hl⟩ := h
  have ha : a = [ρ 0, ρ 1, ρ 2, ρ 3, ρ 4, ρ 5, ρ 6, ρ 7, ρ 8, ρ 9, ρ 10, ρ 11, ρ 12, ρ 13, ρ 14] := ha
  subst ha
  subst hg
  have hJ : jn43 [ρ 0, ρ 1, ρ 2, ρ 3, ρ 4, ρ 5, ρ 6, ρ 7, ρ 8, ρ 9, ρ 10, ρ 11, ρ 12, ρ 13, ρ 14] (γ 0) 0 [ρ 0, ρ 1, ρ 2, ρ 3, ρ 4, ρ 5, ρ 6, ρ 7, ρ 8, ρ 9, ρ 10, ρ 11, ρ 12, ρ 13, ρ 14, ρ 15, ρ 16, ρ 17, ρ 18, ρ 19, ρ 20, ρ 21, ρ 22, ρ 23, ρ 24, ρ 25] (γ 1) := hJ
  obtain ⟨r0, r1, r2, r3, r4, r5, r6, r7, r8, r9, r10, r11, r12, r13, r14, r15, r16, r17, r18, r19, r20, r21, r22, r23, r24, r25, r26, r27, r28, r29, r30, r31, r32, r33, r34, r35, r36, r37, r38, r39, r40, r41, r42, r43, -⟩ := hr
  have r0 : (0 : Int) ≤ ρ 0 ∧ ρ 0 ≤ 2000 := r0
  have r1 : (0 : Int) ≤ ρ 1 ∧ ρ 1 ≤ 2000 := r1
  have r2 : (0 : Int) ≤ ρ 2 ∧ ρ 2 ≤ 12288 := r2
  have r3 : (0 : Int) ≤ ρ 3 ∧ ρ 3 ≤ 12288 := r3
  have r4 : (0 : Int) ≤ ρ 4 ∧ ρ 4 ≤ 64 := r4
  have r5 : (0 : Int) ≤ ρ 5 ∧ ρ 5 ≤ 20 := r5
  have r6 : (0 : Int) ≤ ρ 6 ∧ ρ 6 ≤ 60 := r6
  have r7 : (0 : Int) ≤ ρ 7 ∧ ρ 7 ≤ 60 := r7
  have r8 : (0 : Int) ≤ ρ 8 ∧ ρ 8 ≤ 61 := r8
  have r9 : (0 : Int) ≤ ρ 9 ∧ ρ 9 ≤ 8 := r9
  have r10 : (0 : Int) ≤ ρ 10 ∧ ρ 10 ≤ 2000 := r10
  have r11 : (0 : Int) ≤ ρ 11 ∧ ρ 11 ≤ 2000 := r11
  have r12 : (0 : Int) ≤ ρ 12 ∧ ρ 12 ≤ 2000 := r12
  have r13 : (0 : Int) ≤ ρ 13 ∧ ρ 13 ≤ 3 := r13
  have r14 : ((-2147483648) : Int) ≤ ρ 14 ∧ ρ 14 ≤ 2147483647 := r14
  have r15 : (1 : Int) ≤ ρ 15 ∧ ρ 15 ≤ 1 := r15
  have r16 : (0 : Int) ≤ ρ 16 ∧ ρ 16 ≤ 2000 := r16
  have r17 : (0 : Int) ≤ ρ 17 ∧ ρ 17 ≤ 12288 := r17
  have r18 : (0 : Int) ≤ ρ 18 ∧ ρ 18 ≤ 12288 := r18
  have r19 : (0 : Int) ≤ ρ 19 ∧ ρ 19 ≤ 43 := r19
  have r20 : (0 : Int) ≤ ρ 20 ∧ ρ 20 ≤ 20 := r20
  have r21 : (0 : Int) ≤ ρ 21 ∧ ρ 21 ≤ 2000 := r21
  have r22 : (0 : Int) ≤ ρ 22 ∧ ρ 22 ≤ 2000 := r22
  have r23 : (0 : Int) ≤ ρ 23 ∧ ρ 23 ≤ 3 := r23
  have r24 : ((-2147483648) : Int) ≤ ρ 24 ∧ ρ 24 ≤ 2147483647 := r24
  have r25 : (0 : Int) ≤ ρ 25 ∧ ρ 25 ≤ 7 := r25
  have r26 : (0 : Int) ≤ ρ 26 ∧ ρ 26 ≤ 2000 := r26
  have r27 : (0 : Int) ≤ ρ 27 ∧ ρ 27 ≤ 7 := r27
  have r28 : ((-2147483648) : Int) ≤ ρ 28 ∧ ρ 28 ≤ 1099511640064 := r28
  have r29 : (0 : Int) ≤ ρ 29 ∧ ρ 29 ≤ 19 := r29
  have r30 : (2 : Int) ≤ ρ 30 ∧ ρ 30 ≤ 2000 := r30
  have r31 : (0 : Int) ≤ ρ 31 ∧ ρ 31 ≤ 12288 := r31
  have r32 : (0 : Int) ≤ ρ 32 ∧ ρ 32 ≤ 12288 := r32
  have r33 : (0 : Int) ≤ ρ 33 ∧ ρ 33 ≤ 39 := r33
  have r34 : (1 : Int) ≤ ρ 34 ∧ ρ 34 ≤ 20 := r34
  have r35 : (0 : Int) ≤ ρ 35 ∧ ρ 35 ≤ 1 := r35
  have r36 : ((-2147483648) : Int) ≤ ρ 36 ∧ ρ 36 ≤ 1099511640064 := r36
  have r37 : (0 : Int) ≤ ρ 37 ∧ ρ 37 ≤ 19 := r37
  have r38 : (0 : Int) ≤ ρ 38 ∧ ρ 38 ≤ 2000 := r38
  have r39 : (0 : Int) ≤ ρ 39 ∧ ρ 39 ≤ 2000 := r39
  have r40 : (0 : Int) ≤ ρ 40 ∧ ρ 40 ≤ 3 := r40
  have r41 : ((-2147483648) : Int) ≤ ρ 41 ∧ ρ 41 ≤ 2147483647 := r41
  have r42 : (0 : Int) ≤ ρ 42 ∧ ρ 42 ≤ 2000 := r42
  have r43 : ((-128) : Int) ≤ ρ 43 ∧ ρ 43 ≤ 127 := r43
  obtain ⟨f0, f1, f2, f3, f4, f5, f6, f7, f8, f9, f10, f11, f12, f13, f14, f15, f16, f17, f18, f19, f20, f21, f22, f23, f24, f25, f26, f27, f28, f29, f30, f31, f32, f33, f34, f35, f36, f37, -⟩ := hf
  have f0 : (0 : Int) ≤ -ρ 42 + ρ 1 + (-1) := f0
  have f1 : (0 : Int) ≤ -ρ 30 + ρ 1 := f1
  have f2 : (0 : Int) ≤ ρ 42 + -ρ 30 := f2
  have f3 : (0 : Int) ≤ -ρ 42 + ρ 1 := f3
  have f4 : (0 : Int) ≤ ρ 26 + (-ρ 17 + -ρ 1) + 12288 := f4
  have f5 : (0 : Int) ≤ ρ 26 + (-ρ 18 + -ρ 1) + 12288 := f5
  have f6 : (0 : Int) ≤ -ρ 26 + ρ 1 := f6
  have f7 : (0 : Int) ≤ 4 * ρ 25 + -ρ 19 + 6 := f7
  have f8 : (0 : Int) ≤ ρ 8 + (-ρ 7 + -ρ 6) := f8
  have f9 : (0 : Int) ≤ -ρ 8 + (ρ 7 + ρ 6) := f9
  have f10 : (0 : Int) ≤ ρ 30 + -ρ 26 + (-1) := f10
  have f11 : (0 : Int) ≤ ρ 31 + -ρ 17 := f11
  have f12 : (0 : Int) ≤ ρ 32 + -ρ 18 := f12
  have f13 : (0 : Int) ≤ ρ 33 + -ρ 19 := f13
  have f14 : (0 : Int) ≤ -ρ 37 + ρ 34 + (-1) := f14
  have f15 : (0 : Int) ≤ ρ 34 + -ρ 20 := f15
  have f16 : (0 : Int) ≤ -ρ 35 + ρ 1 + (-1) := f16
  have f17 : (0 : Int) ≤ -ρ 26 + ρ 1 + (-1) := f17
  have f18 : (0 : Int) ≤ -ρ 37 + ρ 20 := f18
  have f19 : (0 : Int) ≤ -ρ 31 + (ρ 30 + (-ρ 26 + ρ 17)) := f19
  have f20 : (0 : Int) ≤ -ρ 32 + (ρ 30 + (-ρ 26 + ρ 18)) := f20
  have f21 : (0 : Int) ≤ -ρ 33 + 4 * ρ 25 + 10 := f21
  have f22 : (0 : Int) ≤ -ρ 16 + ρ 1 := f22
  have f23 : (0 : Int) ≤ ρ 26 + -ρ 16 := f23
  have f24 : (0 : Int) ≤ ρ 20 + -ρ 5 := f24
  have f25 : (0 : Int) ≤ -ρ 18 + (ρ 16 + -ρ 1) + 12288 := f25
  have f26 : (0 : Int) ≤ -ρ 17 + (ρ 16 + -ρ 1) + 12288 := f26
  have f27 : (0 : Int) ≤ -ρ 18 + (ρ 16 + (ρ 3 + -ρ 0)) := f27
  have f28 : (0 : Int) ≤ -ρ 17 + (ρ 16 + (ρ 2 + -ρ 0)) := f28
  have f29 : (0 : Int) ≤ ρ 25 + -ρ 9 := f29
  have f30 : (0 : Int) ≤ ρ 19 + -ρ 4 := f30
  have f31 : (0 : Int) ≤ ρ 18 + -ρ 3 := f31
  have f32 : (0 : Int) ≤ ρ 17 + -ρ 2 := f32
  have f33 : (0 : Int) ≤ ρ 16 + -ρ 0 := f33
  have f34 : (0 : Int) ≤ 4 * ρ 9 + -ρ 4 + 6 := f34
  have f35 : (0 : Int) ≤ ρ 1 + -ρ 0 := f35
  have f36 : (0 : Int) ≤ -ρ 3 + (-ρ 1 + ρ 0) + 12288 := f36
  have f37 : (0 : Int) ≤ -ρ 2 + (-ρ 1 + ρ 0) + 12288 := f37
  obtain ⟨m0, m1, m2, m3, m4, m5, m6, m7, m8, m9, m10, m11, m12, m13, m14, m15, m16, m17, m18, m19, m20, m21, m22, m23, m24, m25, m26, m27, m28, m29, m30, m31, m32, m33, m34, m35, m36, m37, m38, m39, m40, m41, m42, m43, -⟩ := hm
  have m0 : γ 0 15 0 35 = ρ 0 := m0
  have m1 : γ 0 15 0 34 = ρ 1 := m1
  have m2 : γ 0 15 0 8 = ρ 2 := m2
  have m3 : γ 0 15 0 9 = ρ 3 := m3
  have m4 : γ 0 15 0 58 = ρ 4 := m4
  have m5 : γ 0 15 0 14 = ρ 5 := m5
  have m6 : γ 0 15 0 32 = ρ 6 := m6
  have m7 : γ 0 15 0 33 = ρ 7 := m7
  have m8 : γ 0 15 0 44 = ρ 8 := m8
  have m9 : γ 0 73 0 (ρ 8) = ρ 9 := m9
  have m10 : γ 0 15 0 36 = ρ 10 := m10
  have m11 : γ 0 15 0 37 = ρ 11 := m11
  have m12 : γ 0 15 0 38 = ρ 12 := m12
  have m13 : γ 0 15 0 40 = ρ 13 := m13
  have m14 : γ 0 15 0 45 = ρ 14 := m14
  have m15 : γ 1 15 0 35 = ρ 16 := m15
  have m16 : γ 1 15 0 8 = ρ 17 := m16
  have m17 : γ 1 15 0 9 = ρ 18 := m17
  have m18 : γ 1 15 0 58 = ρ 19 := m18
  have m19 : γ 1 15 0 14 = ρ 20 := m19
  have m20 : γ 1 15 0 36 = ρ 10 := m20
  have m21 : γ 1 15 0 37 = ρ 21 := m21
  have m22 : γ 1 15 0 38 = ρ 22 := m22
  have m23 : γ 1 15 0 40 = ρ 23 := m23
  have m24 : γ 1 15 0 45 = ρ 24 := m24
  have m25 : γ 1 73 0 (ρ 8) = ρ 25 := m25
  have m26 : γ 2 15 0 35 = ρ 26 := m26
  have m27 : γ 1 77 0 (ρ 25 + 8 * ρ 8) = ρ 27 := m27
  have m28 : γ 1 81 0 (4 * ρ 25 + 32 * ρ 8) = ρ 28 := m28
  have m29 : γ 1 78 0 (ρ 25 + 8 * ρ 8) = ρ 29 := m29
  have m30 : γ 3 15 0 35 = ρ 30 := m30
  have m31 : γ 3 15 0 8 = ρ 31 := m31
  have m32 : γ 3 15 0 9 = ρ 32 := m32
  have m33 : γ 3 15 0 58 = ρ 33 := m33
  have m34 : γ 3 15 0 14 = ρ 34 := m34
  have m35 : γ 3 77 0 (ρ 25 + 8 * ρ 8) = ρ 35 := m35
  have m36 : γ 3 81 0 (4 * ρ 25 + 32 * ρ 8) = ρ 36 := m36
  have m37 : γ 3 78 0 (ρ 25 + 8 * ρ 8) = ρ 37 := m37
  have m38 : γ 3 15 0 36 = ρ 10 := m38
  have m39 : γ 3 15 0 37 = ρ 38 := m39
  have m40 : γ 3 15 0 38 = ρ 39 := m40
  have m41 : γ 3 15 0 40 = ρ 40 := m41
  have m42 : γ 3 15 0 45 = ρ 41 := m42
  have m43 : γ 5 15 0 35 = ρ 42 := m43
  obtain ⟨⟨⟨⟨⟨⟨-, c1⟩, c2⟩, c3⟩, c4⟩, c5⟩, c6⟩ := hc
  have c1 : ∀ (G : Nat) (k j : Int), ¬ rMdP m27_ G j → γ 1 G k j = γ 0 G k j := c1
  have c2 : ∀ (G : Nat) (k j : Int), ¬ rMdP m6_ G j → γ 2 G k j = γ 1 G k j := c2
  have c3 : ∀ (G : Nat) (k j : Int), ¬ rMdP m25_ G j → γ 3 G k j = γ 2 G k j := c3
  have c4 : γ 4 = rUp (γ 3) 73 0 (ρ 8) (ρ 25 + 1) := c4
  have c5 : ∀ (G : Nat) (k j : Int), ¬ rMdP m6_ G j → γ 5 G k j = γ 4 G k j := c5
  have c6 : ∀ (G : Nat) (k j : Int), ¬ rMdP m0_ G j → γ 6 G k j = γ 5 G k j := c6
  obtain ⟨l0, l1, l2, l3, l4, -⟩ := hl
  have l0 : sn7 [ρ 16, ρ 1] (γ 1) 0 0 (γ 2) := hS7 _ _ _ _ _ l0
  have l1 : sn42 [ρ 26, ρ 1, ρ 17, ρ 18, ρ 19, ρ 20, ρ 6, ρ 7, ρ 8, ρ 25, ρ 27, ρ 28, ρ 29, ρ 10, ρ 21, ρ 22, ρ 23, ρ 24] (γ 2) 0 1 (γ 3) := hS42 _ _ _ _ _ l1
  have l2 : sn7 [ρ 30, ρ 1] (γ 4) 0 0 (γ 5) := hS7 _ _ _ _ _ l2
  have l3 : sn6 [ρ 42, ρ 1] (γ 5) 0 (ρ 43) (γ 6) := hS6 _ _ _ _ _ l3
  have l4 : ρ 43 ≠ 44 := l4
  show jn43 [ρ 0, ρ 1, ρ 2, ρ 3, ρ 4, ρ 5, ρ 6, ρ 7, ρ 8, ρ 9, ρ 10, ρ 11, ρ 12, ρ 13, ρ 14] (γ 0) 0 [ρ 0, ρ 1, ρ 2, ρ 3, ρ 4, ρ 5, ρ 6, ρ 7, ρ 8, ρ 9, ρ 10, ρ 11, ρ 12, ρ 13, ρ 14, 0, ρ 42, ρ 31, ρ 32, ρ 33, ρ 34, ρ 38, ρ 39, ρ 40, ρ 41, ρ 25 + 1] (γ 6)
  have hD : en43 (γ 0) (0, [ρ 15], γ 1) = .inl (0, [0], γ 6) := by
    unfold en43
    refine (if_pos (show (0 : Nat) = 0 by decide)).trans ?_
    refine (zLet_eq (show _ = γ 1 from rfl)).trans ?_
    refine (zLet_eq (show _ = ρ 15 from rfl)).trans ?_
    refine (zLet_eq m1).trans ?_
    refine (zLet_eq m8).trans ?_
    refine (zLet_eq m25).trans ?_
    refine (if_neg (show ¬ (ρ 15 = 0) by omega)).trans ?_
    refine (zLet_eq (show fn7 [] (γ 1) = (0, 0, γ 2) from l0.symm)).trans ?_
    refine (zLet_eq (show _ = γ 2 from rfl)).trans ?_
    refine (zLet_eq m26).trans ?_
    refine (if_pos (show ρ 25 ≠ 8 by omega)).trans ?_
    refine (zLet_eq (show fn42 [] (γ 2) = (0, 1, γ 3) from l1.symm)).trans ?_
    refine (zLet_eq (show _ = γ 3 from rfl)).trans ?_
    refine (if_pos (show (1 : Int) ≤ 1 by omega)).trans ?_
    refine (if_neg (show ¬ (2 ≤ γ 3 77 0 (ρ 25 + 8 * ρ 8)) by omega)).trans ?_
    refine (zLet_eq c4.symm).trans ?_
    refine (zLet_eq (show fn7 [] (γ 4) = (0, 0, γ 5) from l2.symm)).trans ?_
    refine (zLet_eq (show _ = γ 5 from rfl)).trans ?_
    refine (zLet_eq m43).trans ?_
    refine (zLet_eq (show fn6 [ρ 42] (γ 5) = (0, ρ 43, γ 6) from l3.symm)).trans ?_
    refine (zLet_eq (show _ = γ 6 from rfl)).trans ?_
    refine (if_pos (show 0 ≤ -ρ 42 + ρ 1 + (-1) by omega)).trans ?_
    refine (zLet_eq (show _ = ρ 43 from rfl)).trans ?_
    refine (if_pos (show ρ 43 ≠ 44 by omega)).trans ?_
    rfl
  exact zGoo_ato hJ hD
theorem vn43a0_3 {S : Nat → zSpc} (hS6 : ∀ x g o v gz, S 6 x g o v gz → sn6 x g o v gz) (hS7 : ∀ x g o v gz, S 7 x g o v gz → sn7 x g o v gz) (hS8 : ∀ x g o v gz, S 8 x g o v gz → sn8 x g o v gz) (hS42 : ∀ x g o v gz, S 42 x g o v gz → sn42 x g o v gz) {a : List Int} {g : rHp} : ∀ (ρ : Nat → Int) (γ : Nat → rHp), jn43 a g 0 (zAg (zNA a43_ 0) ρ) (γ 1) → zO 15 S a g q43a0_3 ρ γ → zGl (fun i vs g1 => jn43 a g i vs g1) (sn43 a g) q43a0_3 ρ γ := by
  intro ρ γ hJ h
  obtain ⟨ha, hg, hr, hf, hm, hc, hl⟩ := h
  have ha : a = [ρ 0, ρ 1, ρ 2, ρ 3, ρ 4, ρ 5, ρ 6, ρ 7, ρ 8, ρ 9, ρ 10, ρ 11, ρ 12, ρ 13, ρ 14] := ha
  subst ha
  subst hg
  have hJ : jn43 [ρ 0, ρ 1, ρ 2, ρ 3, ρ 4, ρ 5, ρ 6, ρ 7, ρ 8, ρ 9, ρ 10, ρ 11, ρ 12, ρ 13, ρ 14] (γ 0) 0 [ρ 0, ρ 1, ρ 2, ρ 3, ρ 4, ρ 5, ρ 6, ρ 7, ρ 8, ρ 9, ρ 10, ρ 11, ρ 12, ρ 13, ρ 14, ρ 15, ρ 16, ρ 17, ρ 18, ρ 19, ρ 20, ρ 21, ρ 22, ρ 23, ρ 24, ρ 25] (γ 1) := hJ
  obtain ⟨r0, r1, r2, r3, r4, r5, r6, r7, r8, r9, r10, r11, r12, r13, r14, r15, r16, r17, r18, r19, r20, r21, r22, r23, r24, r25, r26, r27, r28, r29, r30, r31, r32, r33, r34, r35, r36, r37, r38, r39, r40, r41, r42, r43, -⟩ := hr
  have r0 : (0 : Int) ≤ ρ 0 ∧ ρ 0 ≤ 2000 := r0
  have r1 : (0 : Int) ≤ ρ 1 ∧ ρ 1 ≤ 2000 := r1
  have r2 : (0 : Int) ≤ ρ 2 ∧ ρ 2 ≤ 12288 := r2
  have r3 : (0 : Int) ≤ ρ 3 ∧ ρ 3 ≤ 12288 := r3
  have r4 : (0 : Int) ≤ ρ 4 ∧ ρ 4 ≤ 64 := r4
  have r5 : (0 : Int) ≤ ρ 5 ∧ ρ 5 ≤ 20 := r5
  have r6 : (0 : Int) ≤ ρ 6 ∧ ρ 6 ≤ 60 := r6
  have r7 : (0 : Int) ≤ ρ 7 ∧ ρ 7 ≤ 60 := r7
  have r8 : (0 : Int) ≤ ρ 8 ∧ ρ 8 ≤ 61 := r8
  have r9 : (0 : Int) ≤ ρ 9 ∧ ρ 9 ≤ 8 := r9
  have r10 : (0 : Int) ≤ ρ 10 ∧ ρ 10 ≤ 2000 := r10
  have r11 : (0 : Int) ≤ ρ 11 ∧ ρ 11 ≤ 2000 := r11
  have r12 : (0 : Int) ≤ ρ 12 ∧ ρ 12 ≤ 2000 := r12
  have r13 : (0 : Int) ≤ ρ 13 ∧ ρ 13 ≤ 3 := r13
  have r14 : ((-2147483648) : Int) ≤ ρ 14 ∧ ρ 14 ≤ 2147483647 := r14
  have r15 : (1 : Int) ≤ ρ 15 ∧ ρ 15 ≤ 1 := r15
  have r16 : (0 : Int) ≤ ρ 16 ∧ ρ 16 ≤ 2000 := r16
  have r17 : (0 : Int) ≤ ρ 17 ∧ ρ 17 ≤ 12288 := r17
  have r18 : (0 : Int) ≤ ρ 18 ∧ ρ 18 ≤ 12288 := r18
  have r19 : (0 : Int) ≤ ρ 19 ∧ ρ 19 ≤ 43 := r19
  have r20 : (0 : Int) ≤ ρ 20 ∧ ρ 20 ≤ 20 := r20
  have r21 : (0 : Int) ≤ ρ 21 ∧ ρ 21 ≤ 2000 := r21
  have r22 : (0 : Int) ≤ ρ 22 ∧ ρ 22 ≤ 2000 := r22
  have r23 : (0 : Int) ≤ ρ 23 ∧ ρ 23 ≤ 3 := r23
  have r24 : ((-2147483648) : Int) ≤ ρ 24 ∧ ρ 24 ≤ 2147483647 := r24
  have r25 : (0 : Int) ≤ ρ 25 ∧ ρ 25 ≤ 7 := r25
  have r26 : (0 : Int) ≤ ρ 26 ∧ ρ 26 ≤ 2000 := r26
  have r27 : (0 : Int) ≤ ρ 27 ∧ ρ 27 ≤ 7 := r27
  have r28 : ((-2147483648) : Int) ≤ ρ 28 ∧ ρ 28 ≤ 1099511640064 := r28
  have r29 : (0 : Int) ≤ ρ 29 ∧ ρ 29 ≤ 19 := r29
  have r30 : (2 : Int) ≤ ρ 30 ∧ ρ 30 ≤ 2000 := r30
  have r31 : (0 : Int) ≤ ρ 31 ∧ ρ 31 ≤ 12288 := r31
  have r32 : (0 : Int) ≤ ρ 32 ∧ ρ 32 ≤ 12288 := r32
  have r33 : (0 : Int) ≤ ρ 33 ∧ ρ 33 ≤ 39 := r33
  have r34 : (1 : Int) ≤ ρ 34 ∧ ρ 34 ≤ 20 := r34
  have r35 : (0 : Int) ≤ ρ 35 ∧ ρ 35 ≤ 1 := r35
  have r36 : ((-2147483648) : Int) ≤ ρ 36 ∧ ρ 36 ≤ 1099511640064 := r36
  have r37 : (0 : Int) ≤ ρ 37 ∧ ρ 37 ≤ 19 := r37
  have r38 : (0 : Int) ≤ ρ 38 ∧ ρ 38 ≤ 2000 := r38
  have r39 : (0 : Int) ≤ ρ 39 ∧ ρ 39 ≤ 2000 := r39
  have r40 : (0 : Int) ≤ ρ 40 ∧ ρ 40 ≤ 3 := r40
  have r41 : ((-2147483648) : Int) ≤ ρ 41 ∧ ρ 41 ≤ 2147483647 := r41
  have r42 : (0 : Int) ≤ ρ 42 ∧ ρ 42 ≤ 2000 := r42
  have r43 : (44 : Int) ≤ ρ 43 ∧ ρ 43 ≤ 44 := r43
  obtain ⟨f0, f1, f2, f3, f4, f5, f6, f7, f8, f9, f10, f11, f12, f13, f14, f15, f16, f17, f18, f19, f20, f21, f22, f23, f24, f25, f26, f27, f28, f29, f30, f31, f32, f33, f34, f35, f36, f37, -⟩ := hf
  have f0 : (0 : Int) ≤ -ρ 42 + ρ 1 + (-1) := f0
  have f1 : (0 : Int) ≤ -ρ 30 + ρ 1 := f1
  have f2 : (0 : Int) ≤ ρ 42 + -ρ 30 := f2
  have f3 : (0 : Int) ≤ -ρ 42 + ρ 1 := f3
  have f4 : (0 : Int) ≤ ρ 26 + (-ρ 17 + -ρ 1) + 12288 := f4
  have f5 : (0 : Int) ≤ ρ 26 + (-ρ 18 + -ρ 1) + 12288 := f5
  have f6 : (0 : Int) ≤ -ρ 26 + ρ 1 := f6
  have f7 : (0 : Int) ≤ 4 * ρ 25 + -ρ 19 + 6 := f7
  have f8 : (0 : Int) ≤ ρ 8 + (-ρ 7 + -ρ 6) := f8
  have f9 : (0 : Int) ≤ -ρ 8 + (ρ 7 + ρ 6) := f9
  have f10 : (0 : Int) ≤ ρ 30 + -ρ 26 + (-1) := f10
  have f11 : (0 : Int) ≤ ρ 31 + -ρ 17 := f11
  have f12 : (0 : Int) ≤ ρ 32 + -ρ 18 := f12
  have f13 : (0 : Int) ≤ ρ 33 + -ρ 19 := f13
  have f14 : (0 : Int) ≤ -ρ 37 + ρ 34 + (-1) := f14
  have f15 : (0 : Int) ≤ ρ 34 + -ρ 20 := f15
  have f16 : (0 : Int) ≤ -ρ 35 + ρ 1 + (-1) := f16
  have f17 : (0 : Int) ≤ -ρ 26 + ρ 1 + (-1) := f17
  have f18 : (0 : Int) ≤ -ρ 37 + ρ 20 := f18
  have f19 : (0 : Int) ≤ -ρ 31 + (ρ 30 + (-ρ 26 + ρ 17)) := f19
  have f20 : (0 : Int) ≤ -ρ 32 + (ρ 30 + (-ρ 26 + ρ 18)) := f20
  have f21 : (0 : Int) ≤ -ρ 33 + 4 * ρ 25 + 10 := f21
  have f22 : (0 : Int) ≤ -ρ 16 + ρ 1 := f22
  have f23 : (0 : Int) ≤ ρ 26 + -ρ 16 := f23
  have f24 : (0 : Int) ≤ ρ 20 + -ρ 5 := f24
  have f25 : (0 : Int) ≤ -ρ 18 + (ρ 16 + -ρ 1) + 12288 := f25
  have f26 : (0 : Int) ≤ -ρ 17 + (ρ 16 + -ρ 1) + 12288 := f26
  have f27 : (0 : Int) ≤ -ρ 18 + (ρ 16 + (ρ 3 + -ρ 0)) := f27
  have f28 : (0 : Int) ≤ -ρ 17 + (ρ 16 + (ρ 2 + -ρ 0)) := f28
  have f29 : (0 : Int) ≤ ρ 25 + -ρ 9 := f29
  have f30 : (0 : Int) ≤ ρ 19 + -ρ 4 := f30
  have f31 : (0 : Int) ≤ ρ 18 + -ρ 3 := f31
  have f32 : (0 : Int) ≤ ρ 17 + -ρ 2 := f32
  have f33 : (0 : Int) ≤ ρ 16 + -ρ 0 := f33
  have f34 : (0 : Int) ≤ 4 * ρ 9 + -ρ 4 + 6 := f34
  have f35 : (0 : Int) ≤ ρ 1 + -ρ 0 := f35
  have f36 : (0 : Int) ≤ -ρ 3 + (-ρ 1 + ρ 0) + 12288 := f36
  have f37 : (0 : Int) ≤ -ρ 2 + (-ρ 1 + ρ 0) + 12288 := f37
  obtain ⟨m0, m1, m2, m3, m4, m5, m6, m7, m8, m9, m10, m11, m12, m13, m14, m15, m16, m17, m18, m19, m20, m21, m22, m23, m24, m25, m26, m27, m28, m29, m30, m31, m32, m33, m34, m35, m36, m37, m38, m39, m40, m41, m42, m43, -⟩ := hm
  have m0 : γ 0 15 0 35 = ρ 0 := m0
  have m1 : γ 0 15 0 34 = ρ 1 := m1
  have m2 : γ 0 15 0 8 = ρ 2 := m2
  have m3 : γ 0 15 0 9 = ρ 3 := m3
  have m4 : γ 0 15 0 58 = ρ 4 := m4
  have m5 : γ 0 15 0 14 = ρ 5 := m5
  have m6 : γ 0 15 0 32 = ρ 6 := m6
  have m7 : γ 0 15 0 33 = ρ 7 := m7
  have m8 : γ 0 15 0 44 = ρ 8 := m8
  have m9 : γ 0 73 0 (ρ 8) = ρ 9 := m9
  have m10 : γ 0 15 0 36 = ρ 10 := m10
  have m11 : γ 0 15 0 37 = ρ 11 := m11
  have m12 : γ 0 15 0 38 = ρ 12 := m12
  have m13 : γ 0 15 0 40 = ρ 13 := m13
  have m14 : γ 0 15 0 45 = ρ 14 := m14
  have m15 : γ 1 15 0 35 = ρ 16 := m15
  have m16 : γ 1 15 0 8 = ρ 17 := m16
  have m17 : γ 1 15 0 9 = ρ 18 := m17
  have m18 : γ 1 15 0 58 = ρ 19 := m18
  have m19 : γ 1 15 0 14 = ρ 20 := m19
  have m20 : γ 1 15 0 36 = ρ 10 := m20
  have m21 : γ 1 15 0 37 = ρ 21 := m21
  have m22 : γ 1 15 0 38 = ρ 22 := m22
  have m23 : γ 1 15 0 40 = ρ 23 := m23
  have m24 : γ 1 15 0 45 = ρ 24 := m24
  have m25 : γ 1 73 0 (ρ 8) = ρ 25 := m25
  have m26 : γ 2 15 0 35 = ρ 26 := m26
  have m27 : γ 1 77 0 (ρ 25 + 8 * ρ 8) = ρ 27 := m27
  have m28 : γ 1 81 0 (4 * ρ 25 + 32 * ρ 8) = ρ 28 := m28
  have m29 : γ 1 78 0 (ρ 25 + 8 * ρ 8) = ρ 29 := m29
  have m30 : γ 3 15 0 35 = ρ 30 := m30
  have m31 : γ 3 15 0 8 = ρ 31 := m31
  have m32 : γ 3 15 0 9 = ρ 32 := m32
  have m33 : γ 3 15 0 58 = ρ 33 := m33
  have m34 : γ 3 15 0 14 = ρ 34 := m34
  have m35 : γ 3 77 0 (ρ 25 + 8 * ρ 8) = ρ 35 := m35
  have m36 : γ 3 81 0 (4 * ρ 25 + 32 * ρ 8) = ρ 36 := m36
  have m37 : γ 3 78 0 (ρ 25 + 8 * ρ 8) = ρ 37 := m37
  have m38 : γ 3 15 0 36 = ρ 10 := m38
  have m39 : γ 3 15 0 37 = ρ 38 := m39
  have m40 : γ 3 15 0 38 = ρ 39 := m40
  have m41 : γ 3 15 0 40 = ρ 40 := m41
  have m42 : γ 3 15 0 45 = ρ 41 := m42
  have m43 : γ 5 15 0 35 = ρ 42 := m43
  obtain ⟨⟨⟨⟨⟨⟨⟨-, c1⟩, c2⟩, c3⟩, c4⟩, c5⟩, c6⟩, c7⟩ := hc
  have c1 : ∀ (G : Nat) (k j : Int), ¬ rMdP m27_ G j → γ 1 G k j = γ 0 G k j := c1
  have c2 : ∀ (G : Nat) (k j : Int), ¬ rMdP m6_ G j → γ 2 G k j = γ 1 G k j := c2
  have c3 : ∀ (G : Nat) (k j : Int), ¬ rMdP m25_ G j → γ 3 G k j = γ 2 G k j := c3
  have c4 : γ 4 = rUp (γ 3) 73 0 (ρ 8) (ρ 25 + 1) := c4
  have c5 : ∀ (G : Nat) (k j : Int), ¬ rMdP m6_ G j → γ 5 G k j = γ 4 G k j := c5
  have c6 : ∀ (G : Nat) (k j : Int), ¬ rMdP m0_ G j → γ 6 G k j = γ 5 G k j := c6
  have c7 : γ 7 = rUp (γ 6) 15 0 35 (ρ 42 + 1) := c7
  obtain ⟨l0, l1, l2, l3, -⟩ := hl
  have l0 : sn7 [ρ 16, ρ 1] (γ 1) 0 0 (γ 2) := hS7 _ _ _ _ _ l0
  have l1 : sn42 [ρ 26, ρ 1, ρ 17, ρ 18, ρ 19, ρ 20, ρ 6, ρ 7, ρ 8, ρ 25, ρ 27, ρ 28, ρ 29, ρ 10, ρ 21, ρ 22, ρ 23, ρ 24] (γ 2) 0 1 (γ 3) := hS42 _ _ _ _ _ l1
  have l2 : sn7 [ρ 30, ρ 1] (γ 4) 0 0 (γ 5) := hS7 _ _ _ _ _ l2
  have l3 : sn6 [ρ 42, ρ 1] (γ 5) 0 (ρ 43) (γ 6) := hS6 _ _ _ _ _ l3
  show jn43 [ρ 0, ρ 1, ρ 2, ρ 3, ρ 4, ρ 5, ρ 6, ρ 7, ρ 8, ρ 9, ρ 10, ρ 11, ρ 12, ρ 13, ρ 14] (γ 0) 0 [ρ 0, ρ 1, ρ 2, ρ 3, ρ 4, ρ 5, ρ 6, ρ 7, ρ 8, ρ 9, ρ 10, ρ 11, ρ 12, ρ 13, ρ 14, 1, ρ 42 + 1, ρ 31, ρ 32, ρ 33, ρ 34, ρ 38, ρ 39, ρ 40, ρ 41, ρ 25 + 1] (γ 7)
  have hD : en43 (γ 0) (0, [ρ 15], γ 1) = .inl (0, [1], γ 7) := by
    unfold en43
    refine (if_pos (show (0 : Nat) = 0 by decide)).trans ?_
    refine (zLet_eq (show _ = γ 1 from rfl)).trans ?_
    refine (zLet_eq (show _ = ρ 15 from rfl)).trans ?_
    refine (zLet_eq m1).trans ?_
    refine (zLet_eq m8).trans ?_
    refine (zLet_eq m25).trans ?_
    refine (if_neg (show ¬ (ρ 15 = 0) by omega)).trans ?_
    refine (zLet_eq (show fn7 [] (γ 1) = (0, 0, γ 2) from l0.symm)).trans ?_
    refine (zLet_eq (show _ = γ 2 from rfl)).trans ?_
    refine (zLet_eq m26).trans ?_
    refine (if_pos (show ρ 25 ≠ 8 by omega)).trans ?_
    refine (zLet_eq (show fn42 [] (γ 2) = (0, 1, γ 3) from l1.symm)).trans ?_
    refine (zLet_eq (show _ = γ 3 from rfl)).trans ?_
    refine (if_pos (show (1 : Int) ≤ 1 by omega)).trans ?_
    refine (if_neg (show ¬ (2 ≤ γ 3 77 0 (ρ 25 + 8 * ρ 8)) by omega)).trans ?_
    refine (zLet_eq c4.symm).trans ?_
    refine (zLet_eq (show fn7 [] (γ 4) = (0, 0, γ 5) from l2.symm)).trans ?_
    refine (zLet_eq (show _ = γ 5 from rfl)).trans ?_
    refine (zLet_eq m43).trans ?_
    refine (zLet_eq (show fn6 [ρ 42] (γ 5) = (0, ρ 43, γ 6) from l3.symm)).trans ?_
    refine (zLet_eq (show _ = γ 6 from rfl)).trans ?_
    refine (if_pos (show 0 ≤ -ρ 42 + ρ 1 + (-1) by omega)).trans ?_
    refine (zLet_eq (show _ = ρ 43 from rfl)).trans ?_
    refine (if_neg (show ¬ (ρ 43 ≠ 44) by omega)).trans ?_
    refine (zLet_eq c7.symm).trans ?_
    rfl
  exact zGoo_ato hJ hD
theorem vn43a0_4 {S : Nat → zSpc} (hS6 : ∀ x g o v gz, S 6 x g o v gz → sn6 x g o v gz) (hS7 : ∀ x g o v gz, S 7 x g o v gz → sn7 x g o v gz) (hS8 : ∀ x g o v gz, S 8 x g o v gz → sn8 x g o v gz) (hS42 : ∀ x g o v gz, S 42 x g o v gz → sn42 x g o v gz) {a : List Int} {g : rHp} : ∀ (ρ : Nat → Int) (γ : Nat → rHp), jn43 a g 0 (zAg (zNA a43_ 0) ρ) (γ 1) → zO 15 S a g q43a0_4 ρ γ → zGl (fun i vs g1 => jn43 a g i vs g1) (sn43 a g) q43a0_4 ρ γ := by
  intro ρ γ hJ h
  obtain ⟨ha, hg, hr, hf, hm, hc, hl⟩ := h
  have ha : a = [ρ 0, ρ 1, ρ 2, ρ 3, ρ 4, ρ 5, ρ 6, ρ 7, ρ 8, ρ 9, ρ 10, ρ 11, ρ 12, ρ 13, ρ 14] := ha
  subst ha
  subst hg
  have hJ : jn43 [ρ 0, ρ 1, ρ 2, ρ 3, ρ 4, ρ 5, ρ 6, ρ 7, ρ 8, ρ 9, ρ 10, ρ 11, ρ 12, ρ 13, ρ 14] (γ 0) 0 [ρ 0, ρ 1, ρ 2, ρ 3, ρ 4, ρ 5, ρ 6, ρ 7, ρ 8, ρ 9, ρ 10, ρ 11, ρ 12, ρ 13, ρ 14, ρ 15, ρ 16, ρ 17, ρ 18, ρ 19, ρ 20, ρ 21, ρ 22, ρ 23, ρ 24, ρ 25] (γ 1) := hJ
  obtain ⟨r0, r1, r2, r3, r4, r5, r6, r7, r8, r9, r10, r11, r12, r13, r14, r15, r16, r17, r18, r19, r20, r21, r22, r23, r24, r25, r26, r27, r28, r29, r30, r31, r32, r33, r34, r35, r36, r37, r38, r39, r40, r41, r42, -⟩ := hr
  have r0 : (0 : Int) ≤ ρ 0 ∧ ρ 0 ≤ 2000 := r0
  have r1 : (0 : Int) ≤ ρ 1 ∧ ρ 1 ≤ 2000 := r1
  have r2 : (0 : Int) ≤ ρ 2 ∧ ρ 2 ≤ 12288 := r2
  have r3 : (0 : Int) ≤ ρ 3 ∧ ρ 3 ≤ 12288 := r3
  have r4 : (0 : Int) ≤ ρ 4 ∧ ρ 4 ≤ 64 := r4
  have r5 : (0 : Int) ≤ ρ 5 ∧ ρ 5 ≤ 20 := r5
  have r6 : (0 : Int) ≤ ρ 6 ∧ ρ 6 ≤ 60 := r6
  have r7 : (0 : Int) ≤ ρ 7 ∧ ρ 7 ≤ 60 := r7
  have r8 : (0 : Int) ≤ ρ 8 ∧ ρ 8 ≤ 61 := r8
  have r9 : (0 : Int) ≤ ρ 9 ∧ ρ 9 ≤ 8 := r9
  have r10 : (0 : Int) ≤ ρ 10 ∧ ρ 10 ≤ 2000 := r10
  have r11 : (0 : Int) ≤ ρ 11 ∧ ρ 11 ≤ 2000 := r11
  have r12 : (0 : Int) ≤ ρ 12 ∧ ρ 12 ≤ 2000 := r12
  have r13 : (0 : Int) ≤ ρ 13 ∧ ρ 13 ≤ 3 := r13
  have r14 : ((-2147483648) : Int) ≤ ρ 14 ∧ ρ 14 ≤ 2147483647 := r14
  have r15 : (1 : Int) ≤ ρ 15 ∧ ρ 15 ≤ 1 := r15
  have r16 : (0 : Int) ≤ ρ 16 ∧ ρ 16 ≤ 2000 := r16
  have r17 : (0 : Int) ≤ ρ 17 ∧ ρ 17 ≤ 12288 := r17
  have r18 : (0 : Int) ≤ ρ 18 ∧ ρ 18 ≤ 12288 := r18
  have r19 : (0 : Int) ≤ ρ 19 ∧ ρ 19 ≤ 43 := r19
  have r20 : (0 : Int) ≤ ρ 20 ∧ ρ 20 ≤ 20 := r20
  have r21 : (0 : Int) ≤ ρ 21 ∧ ρ 21 ≤ 2000 := r21
  have r22 : (0 : Int) ≤ ρ 22 ∧ ρ 22 ≤ 2000 := r22
  have r23 : (0 : Int) ≤ ρ 23 ∧ ρ 23 ≤ 3 := r23
  have r24 : ((-2147483648) : Int) ≤ ρ 24 ∧ ρ 24 ≤ 2147483647 := r24
  have r25 : (0 : Int) ≤ ρ 25 ∧ ρ 25 ≤ 7 := r25
  have r26 : (0 : Int) ≤ ρ 26 ∧ ρ 26 ≤ 2000 := r26
  have r27 : (0 : Int) ≤ ρ 27 ∧ ρ 27 ≤ 7 := r27
  have r28 : ((-2147483648) : Int) ≤ ρ 28 ∧ ρ 28 ≤ 1099511640064 := r28
  have r29 : (0 : Int) ≤ ρ 29 ∧ ρ 29 ≤ 19 := r29
  have r30 : (2 : Int) ≤ ρ 30 ∧ ρ 30 ≤ 2000 := r30
  have r31 : (0 : Int) ≤ ρ 31 ∧ ρ 31 ≤ 12288 := r31
  have r32 : (0 : Int) ≤ ρ 32 ∧ ρ 32 ≤ 12288 := r32
  have r33 : (0 : Int) ≤ ρ 33 ∧ ρ 33 ≤ 39 := r33
  have r34 : (1 : Int) ≤ ρ 34 ∧ ρ 34 ≤ 20 := r34
  have r35 : (0 : Int) ≤ ρ 35 ∧ ρ 35 ≤ 1 := r35
  have r36 : ((-2147483648) : Int) ≤ ρ 36 ∧ ρ 36 ≤ 1099511640064 := r36
  have r37 : (0 : Int) ≤ ρ 37 ∧ ρ 37 ≤ 19 := r37
  have r38 : (0 : Int) ≤ ρ 38 ∧ ρ 38 ≤ 2000 := r38
  have r39 : (0 : Int) ≤ ρ 39 ∧ ρ 39 ≤ 2000 := r39
  have r40 : (0 : Int) ≤ ρ 40 ∧ ρ 40 ≤ 3 := r40
  have r41 : ((-2147483648) : Int) ≤ ρ 41 ∧ ρ 41 ≤ 2147483647 := r41
  have r42 : (0 : Int) ≤ ρ 42 ∧ ρ 42 ≤ 2000 := r42
  obtain ⟨f0, f1, f2, f3, f4, f5, f6, f7, f8, f9, f10, f11, f12, f13, f14, f15, f16, f17, f18, f19, f20, f21, f22, f23, f24, f25, f26, f27, f28, f29, f30, f31, f32, f33, f34, f35, f36, f37, -⟩ := hf
  have f0 : (0 : Int) ≤ ρ 42 + -ρ 1 := f0
  have f1 : (0 : Int) ≤ -ρ 30 + ρ 1 := f1
  have f2 : (0 : Int) ≤ ρ 42 + -ρ 30 := f2
  have f3 : (0 : Int) ≤ -ρ 42 + ρ 1 := f3
  have f4 : (0 : Int) ≤ ρ 26 + (-ρ 17 + -ρ 1) + 12288 := f4
  have f5 : (0 : Int) ≤ ρ 26 + (-ρ 18 + -ρ 1) + 12288 := f5
  have f6 : (0 : Int) ≤ -ρ 26 + ρ 1 := f6
  have f7 : (0 : Int) ≤ 4 * ρ 25 + -ρ 19 + 6 := f7
  have f8 : (0 : Int) ≤ ρ 8 + (-ρ 7 + -ρ 6) := f8
  have f9 : (0 : Int) ≤ -ρ 8 + (ρ 7 + ρ 6) := f9
  have f10 : (0 : Int) ≤ ρ 30 + -ρ 26 + (-1) := f10
  have f11 : (0 : Int) ≤ ρ 31 + -ρ 17 := f11
  have f12 : (0 : Int) ≤ ρ 32 + -ρ 18 := f12
  have f13 : (0 : Int) ≤ ρ 33 + -ρ 19 := f13
  have f14 : (0 : Int) ≤ -ρ 37 + ρ 34 + (-1) := f14
  have f15 : (0 : Int) ≤ ρ 34 + -ρ 20 := f15
  have f16 : (0 : Int) ≤ -ρ 35 + ρ 1 + (-1) := f16
  have f17 : (0 : Int) ≤ -ρ 26 + ρ 1 + (-1) := f17
  have f18 : (0 : Int) ≤ -ρ 37 + ρ 20 := f18
  have f19 : (0 : Int) ≤ -ρ 31 + (ρ 30 + (-ρ 26 + ρ 17)) := f19
  have f20 : (0 : Int) ≤ -ρ 32 + (ρ 30 + (-ρ 26 + ρ 18)) := f20
  have f21 : (0 : Int) ≤ -ρ 33 + 4 * ρ 25 + 10 := f21
  have f22 : (0 : Int) ≤ -ρ 16 + ρ 1 := f22
  have f23 : (0 : Int) ≤ ρ 26 + -ρ 16 := f23
  have f24 : (0 : Int) ≤ ρ 20 + -ρ 5 := f24
  have f25 : (0 : Int) ≤ -ρ 18 + (ρ 16 + -ρ 1) + 12288 := f25
  have f26 : (0 : Int) ≤ -ρ 17 + (ρ 16 + -ρ 1) + 12288 := f26
  have f27 : (0 : Int) ≤ -ρ 18 + (ρ 16 + (ρ 3 + -ρ 0)) := f27
  have f28 : (0 : Int) ≤ -ρ 17 + (ρ 16 + (ρ 2 + -ρ 0)) := f28
  have f29 : (0 : Int) ≤ ρ 25 + -ρ 9 := f29
  have f30 : (0 : Int) ≤ ρ 19 + -ρ 4 := f30
  have f31 : (0 : Int) ≤ ρ 18 + -ρ 3 := f31
  have f32 : (0 : Int) ≤ ρ 17 + -ρ 2 := f32
  have f33 : (0 : Int) ≤ ρ 16 + -ρ 0 := f33
  have f34 : (0 : Int) ≤ 4 * ρ 9 + -ρ 4 + 6 := f34
  have f35 : (0 : Int) ≤ ρ 1 + -ρ 0 := f35
  have f36 : (0 : Int) ≤ -ρ 3 + (-ρ 1 + ρ 0) + 12288 := f36
  have f37 : (0 : Int) ≤ -ρ 2 + (-ρ 1 + ρ 0) + 12288 := f37
  obtain ⟨m0, m1, m2, m3, m4, m5, m6, m7, m8, m9, m10, m11, m12, m13, m14, m15, m16, m17, m18, m19, m20, m21, m22, m23, m24, m25, m26, m27, m28, m29, m30, m31, m32, m33, m34, m35, m36, m37, m38, m39, m40, m41, m42, m43, -⟩ := hm
  have m0 : γ 0 15 0 35 = ρ 0 := m0
  have m1 : γ 0 15 0 34 = ρ 1 := m1
  have m2 : γ 0 15 0 8 = ρ 2 := m2
  have m3 : γ 0 15 0 9 = ρ 3 := m3
  have m4 : γ 0 15 0 58 = ρ 4 := m4
  have m5 : γ 0 15 0 14 = ρ 5 := m5
  have m6 : γ 0 15 0 32 = ρ 6 := m6
  have m7 : γ 0 15 0 33 = ρ 7 := m7
  have m8 : γ 0 15 0 44 = ρ 8 := m8
  have m9 : γ 0 73 0 (ρ 8) = ρ 9 := m9
  have m10 : γ 0 15 0 36 = ρ 10 := m10
  have m11 : γ 0 15 0 37 = ρ 11 := m11
  have m12 : γ 0 15 0 38 = ρ 12 := m12
  have m13 : γ 0 15 0 40 = ρ 13 := m13
  have m14 : γ 0 15 0 45 = ρ 14 := m14
  have m15 : γ 1 15 0 35 = ρ 16 := m15
  have m16 : γ 1 15 0 8 = ρ 17 := m16
  have m17 : γ 1 15 0 9 = ρ 18 := m17
  have m18 : γ 1 15 0 58 = ρ 19 := m18
  have m19 : γ 1 15 0 14 = ρ 20 := m19
  have m20 : γ 1 15 0 36 = ρ 10 := m20
  have m21 : γ 1 15 0 37 = ρ 21 := m21
  have m22 : γ 1 15 0 38 = ρ 22 := m22
  have m23 : γ 1 15 0 40 = ρ 23 := m23
  have m24 : γ 1 15 0 45 = ρ 24 := m24
  have m25 : γ 1 73 0 (ρ 8) = ρ 25 := m25
  have m26 : γ 2 15 0 35 = ρ 26 := m26
  have m27 : γ 1 77 0 (ρ 25 + 8 * ρ 8) = ρ 27 := m27
  have m28 : γ 1 81 0 (4 * ρ 25 + 32 * ρ 8) = ρ 28 := m28
  have m29 : γ 1 78 0 (ρ 25 + 8 * ρ 8) = ρ 29 := m29
  have m30 : γ 3 15 0 35 = ρ 30 := m30
  have m31 : γ 3 15 0 8 = ρ 31 := m31
  have m32 : γ 3 15 0 9 = ρ 32 := m32
  have m33 : γ 3 15 0 58 = ρ 33 := m33
  have m34 : γ 3 15 0 14 = ρ 34 := m34
  have m35 : γ 3 77 0 (ρ 25 + 8 * ρ 8) = ρ 35 := m35
  have m36 : γ 3 81 0 (4 * ρ 25 + 32 * ρ 8) = ρ 36 := m36
  have m37 : γ 3 78 0 (ρ 25 + 8 * ρ 8) = ρ 37 := m37
  have m38 : γ 3 15 0 36 = ρ 10 := m38
  have m39 : γ 3 15 0 37 = ρ 38 := m39
  have m40 : γ 3 15 0 38 = ρ 39 := m40
  have m41 : γ 3 15 0 40 = ρ 40 := m41
  have m42 : γ 3 15 0 45 = ρ 41 := m42
  have m43 : γ 5 15 0 35 = ρ 42 := m43
  obtain ⟨⟨⟨⟨⟨⟨-, c1⟩, c2⟩, c3⟩, c4⟩, c5⟩, c6⟩ := hc
  have c1 : ∀ (G : Nat) (k j : Int), ¬ rMdP m27_ G j → γ 1 G k j = γ 0 G k j := c1
  have c2 : ∀ (G : Nat) (k j : Int), ¬ rMdP m6_ G j → γ 2 G k j = γ 1 G k j := c2
  have c3 : ∀ (G : Nat) (k j : Int), ¬ rMdP m25_ G j → γ 3 G k j = γ 2 G k j := c3
  have c4 : γ 4 = rUp (γ 3) 73 0 (ρ 8) (ρ 25 + 1) := c4
  have c5 : ∀ (G : Nat) (k j : Int), ¬ rMdP m6_ G j → γ 5 G k j = γ 4 G k j := c5
  have c6 : ∀ (G : Nat) (k j : Int), ¬ rMdP m0_ G j → γ 6 G k j = γ 5 G k j := c6
  obtain ⟨l0, l1, l2, l3, -⟩ := hl
  have l0 : sn7 [ρ 16, ρ 1] (γ 1) 0 0 (γ 2) := hS7 _ _ _ _ _ l0
  have l1 : sn42 [ρ 26, ρ 1, ρ 17, ρ 18, ρ 19, ρ 20, ρ 6, ρ 7, ρ 8, ρ 25, ρ 27, ρ 28, ρ 29, ρ 10, ρ 21, ρ 22, ρ 23, ρ 24] (γ 2) 0 1 (γ 3) := hS42 _ _ _ _ _ l1
  have l2 : sn7 [ρ 30, ρ 1] (γ 4) 0 0 (γ 5) := hS7 _ _ _ _ _ l2
  have l3 : sn6 [ρ 42, ρ 1] (γ 5) 0 (-1) (γ 6) := hS6 _ _ _ _ _ l3
  show jn43 [ρ 0, ρ 1, ρ 2, ρ 3, ρ 4, ρ 5, ρ 6, ρ 7, ρ 8, ρ 9, ρ 10, ρ 11, ρ 12, ρ 13, ρ 14] (γ 0) 0 [ρ 0, ρ 1, ρ 2, ρ 3, ρ 4, ρ 5, ρ 6, ρ 7, ρ 8, ρ 9, ρ 10, ρ 11, ρ 12, ρ 13, ρ 14, 0, ρ 42, ρ 31, ρ 32, ρ 33, ρ 34, ρ 38, ρ 39, ρ 40, ρ 41, ρ 25 + 1] (γ 6)
  have hD : en43 (γ 0) (0, [ρ 15], γ 1) = .inl (0, [0], γ 6) := by
    unfold en43
    refine (if_pos (show (0 : Nat) = 0 by decide)).trans ?_
    refine (zLet_eq (show _ = γ 1 from rfl)).trans ?_
    refine (zLet_eq (show _ = ρ 15 from rfl)).trans ?_
    refine (zLet_eq m1).trans ?_
    refine (zLet_eq m8).trans ?_
    refine (zLet_eq m25).trans ?_
    refine (if_neg (show ¬ (ρ 15 = 0) by omega)).trans ?_
    refine (zLet_eq (show fn7 [] (γ 1) = (0, 0, γ 2) from l0.symm)).trans ?_
    refine (zLet_eq (show _ = γ 2 from rfl)).trans ?_
    refine (zLet_eq m26).trans ?_
    refine (if_pos (show ρ 25 ≠ 8 by omega)).trans ?_
    refine (zLet_eq (show fn42 [] (γ 2) = (0, 1, γ 3) from l1.symm)).trans ?_
    refine (zLet_eq (show _ = γ 3 from rfl)).trans ?_
    refine (if_pos (show (1 : Int) ≤ 1 by omega)).trans ?_
    refine (if_neg (show ¬ (2 ≤ γ 3 77 0 (ρ 25 + 8 * ρ 8)) by omega)).trans ?_
    refine (zLet_eq c4.symm).trans ?_
    refine (zLet_eq (show fn7 [] (γ 4) = (0, 0, γ 5) from l2.symm)).trans ?_
    refine (zLet_eq (show _ = γ 5 from rfl)).trans ?_
    refine (zLet_eq m43).trans ?_
    refine (zLet_eq (show fn6 [ρ 42] (γ 5) = (0, (-1), γ 6) from l3.symm)).trans ?_
    refine (zLet_eq (show _ = γ 6 from rfl)).trans ?_
    refine (if_neg (show ¬ (0 ≤ -ρ 42 + ρ 1 + (-1)) by omega)).trans ?_
    rfl
  exact zGoo_ato hJ hD
theorem vn43a0_5 {S : Nat → zSpc} (hS6 : ∀ x g o v gz, S 6 x g o v gz → sn6 x g o v gz) (hS7 : ∀ x g o v gz, S 7 x g o v gz → sn7 x g o v gz) (hS8 : ∀ x g o v gz, S 8 x g o v gz → sn8 x g o v gz) (hS42 : ∀ x g o v gz, S 42 x g o v gz → sn42 x g o v gz) {a : List Int} {g : rHp} : ∀ (ρ : Nat → Int) (γ : Nat → rHp), jn43 a g 0 (zAg (zNA a43_ 0) ρ) (γ 1) → zO 15 S a g q43a0_5 ρ γ → zGl (fun i vs g1 => jn43 a g i vs g1) (sn43 a g) q43a0_5 ρ γ := by
  intro ρ γ hJ h
  obtain ⟨ha, hg, hr, hf, hm, hc, hl⟩ := h
  have ha : a = [ρ 0, ρ 1, ρ 2, ρ 3, ρ 4, ρ 5, ρ 6, ρ 7, ρ 8, ρ 9, ρ 10, ρ 11, ρ 12, ρ 13, ρ 14] := ha
  subst ha
  subst hg
  have hJ : jn43 [ρ 0, ρ 1, ρ 2, ρ 3, ρ 4, ρ 5, ρ 6, ρ 7, ρ 8, ρ 9, ρ 10, ρ 11, ρ 12, ρ 13, ρ 14] (γ 0) 0 [ρ 0, ρ 1, ρ 2, ρ 3, ρ 4, ρ 5, ρ 6, ρ 7, ρ 8, ρ 9, ρ 10, ρ 11, ρ 12, ρ 13, ρ 14, ρ 15, ρ 16, ρ 17, ρ 18, ρ 19, ρ 20, ρ 21, ρ 22, ρ 23, ρ 24, ρ 25] (γ 1) := hJ
  obtain ⟨r0, r1, r2, r3, r4, r5, r6, r7, r8, r9, r10, r11, r12, r13, r14, r15, r16, r17, r18, r19, r20, r21, r22, r23, r24, r25, r26, r27, r28, r29, r30, r31, r32, r33, r34, r35, r36, r37, r38, r39, -⟩ := hr
  have r0 : (0 : Int) ≤ ρ 0 ∧ ρ 0 ≤ 2000 := r0
  have r1 : (0 : Int) ≤ ρ 1 ∧ ρ 1 ≤ 2000 := r1
  have r2 : (0 : Int) ≤ ρ 2 ∧ ρ 2 ≤ 12288 := r2
  have r3 : (0 : Int) ≤ ρ 3 ∧ ρ 3 ≤ 12288 := r3
  have r4 : (0 : Int) ≤ ρ 4 ∧ ρ 4 ≤ 64 := r4
  have r5 : (0 : Int) ≤ ρ 5 ∧ ρ 5 ≤ 20 := r5
  have r6 : (0 : Int) ≤ ρ 6 ∧ ρ 6 ≤ 60 := r6
  have r7 : (0 : Int) ≤ ρ 7 ∧ ρ 7 ≤ 60 := r7
  have r8 : (0 : Int) ≤ ρ 8 ∧ ρ 8 ≤ 61 := r8
  have r9 : (0 : Int) ≤ ρ 9 ∧ ρ 9 ≤ 8 := r9
  have r10 : (0 : Int) ≤ ρ 10 ∧ ρ 10 ≤ 2000 := r10
  have r11 : (0 : Int) ≤ ρ 11 ∧ ρ 11 ≤ 2000 := r11
  have r12 : (0 : Int) ≤ ρ 12 ∧ ρ 12 ≤ 2000 := r12
  have r13 : (0 : Int) ≤ ρ 13 ∧ ρ 13 ≤ 3 := r13
  have r14 : ((-2147483648) : Int) ≤ ρ 14 ∧ ρ 14 ≤ 2147483647 := r14
  have r15 : (1 : Int) ≤ ρ 15 ∧ ρ 15 ≤ 1 := r15
  have r16 : (0 : Int) ≤ ρ 16 ∧ ρ 16 ≤ 2000 := r16
  have r17 : (0 : Int) ≤ ρ 17 ∧ ρ 17 ≤ 12288 := r17
  have r18 : (0 : Int) ≤ ρ 18 ∧ ρ 18 ≤ 12288 := r18
  have r19 : (0 : Int) ≤ ρ 19 ∧ ρ 19 ≤ 43 := r19
  have r20 : (0 : Int) ≤ ρ 20 ∧ ρ 20 ≤ 20 := r20
  have r21 : (0 : Int) ≤ ρ 21 ∧ ρ 21 ≤ 2000 := r21
  have r22 : (0 : Int) ≤ ρ 22 ∧ ρ 22 ≤ 2000 := r22
  have r23 : (0 : Int) ≤ ρ 23 ∧ ρ 23 ≤ 3 := r23
  have r24 : ((-2147483648) : Int) ≤ ρ 24 ∧ ρ 24 ≤ 2147483647 := r24
  have r25 : (0 : Int) ≤ ρ 25 ∧ ρ 25 ≤ 7 := r25
  have r26 : (0 : Int) ≤ ρ 26 ∧ ρ 26 ≤ 2000 := r26
  have r27 : (0 : Int) ≤ ρ 27 ∧ ρ 27 ≤ 7 := r27
  have r28 : ((-2147483648) : Int) ≤ ρ 28 ∧ ρ 28 ≤ 1099511640064 := r28
  have r29 : (0 : Int) ≤ ρ 29 ∧ ρ 29 ≤ 19 := r29
  have r30 : (2 : Int) ≤ ρ 30 ∧ ρ 30 ≤ 2000 := r30
  have r31 : (0 : Int) ≤ ρ 31 ∧ ρ 31 ≤ 12288 := r31
  have r32 : (0 : Int) ≤ ρ 32 ∧ ρ 32 ≤ 12288 := r32
  have r33 : (2 : Int) ≤ ρ 33 ∧ ρ 33 ≤ 4 := r33
  have r34 : ((-2147483648) : Int) ≤ ρ 34 ∧ ρ 34 ≤ 1099511640064 := r34
  have r35 : (0 : Int) ≤ ρ 35 ∧ ρ 35 ≤ 2000 := r35
  have r36 : (0 : Int) ≤ ρ 36 ∧ ρ 36 ≤ 2000 := r36
  have r37 : (0 : Int) ≤ ρ 37 ∧ ρ 37 ≤ 2 := r37
  have r38 : (0 : Int) ≤ ρ 38 ∧ ρ 38 ≤ 2000 := r38
  have r39 : ((-128) : Int) ≤ ρ 39 ∧ ρ 39 ≤ 127 := r39
  obtain ⟨f0, f1, f2, f3, f4, f5, f6, f7, f8, f9, f10, f11, f12, f13, f14, f15, f16, f17, f18, f19, f20, f21, f22, f23, f24, f25, f26, f27, f28, f29, f30, f31, f32, -⟩ := hf
  have f0 : (0 : Int) ≤ -ρ 38 + ρ 1 + (-1) := f0
  have f1 : (0 : Int) ≤ -ρ 30 + ρ 1 := f1
  have f2 : (0 : Int) ≤ ρ 38 + -ρ 30 := f2
  have f3 : (0 : Int) ≤ -ρ 38 + ρ 1 := f3
  have f4 : (0 : Int) ≤ ρ 26 + (-ρ 17 + -ρ 1) + 12288 := f4
  have f5 : (0 : Int) ≤ ρ 26 + (-ρ 18 + -ρ 1) + 12288 := f5
  have f6 : (0 : Int) ≤ -ρ 26 + ρ 1 := f6
  have f7 : (0 : Int) ≤ 4 * ρ 25 + -ρ 19 + 6 := f7
  have f8 : (0 : Int) ≤ ρ 8 + (-ρ 7 + -ρ 6) := f8
  have f9 : (0 : Int) ≤ -ρ 8 + (ρ 7 + ρ 6) := f9
  have f10 : (0 : Int) ≤ ρ 30 + -ρ 26 + (-1) := f10
  have f11 : (0 : Int) ≤ ρ 31 + -ρ 17 := f11
  have f12 : (0 : Int) ≤ ρ 32 + -ρ 18 := f12
  have f13 : (0 : Int) ≤ -ρ 37 + ρ 1 := f13
  have f14 : (0 : Int) ≤ -ρ 26 + ρ 1 + (-1) := f14
  have f15 : (0 : Int) ≤ -ρ 31 + (ρ 30 + (-ρ 26 + ρ 17)) := f15
  have f16 : (0 : Int) ≤ -ρ 32 + (ρ 30 + (-ρ 26 + ρ 18)) := f16
  have f17 : (0 : Int) ≤ -ρ 16 + ρ 1 := f17
  have f18 : (0 : Int) ≤ ρ 26 + -ρ 16 := f18
  have f19 : (0 : Int) ≤ ρ 20 + -ρ 5 := f19
  have f20 : (0 : Int) ≤ -ρ 18 + (ρ 16 + -ρ 1) + 12288 := f20
  have f21 : (0 : Int) ≤ -ρ 17 + (ρ 16 + -ρ 1) + 12288 := f21
  have f22 : (0 : Int) ≤ -ρ 18 + (ρ 16 + (ρ 3 + -ρ 0)) := f22
  have f23 : (0 : Int) ≤ -ρ 17 + (ρ 16 + (ρ 2 + -ρ 0)) := f23
  have f24 : (0 : Int) ≤ ρ 25 + -ρ 9 := f24
  have f25 : (0 : Int) ≤ ρ 19 + -ρ 4 := f25
  have f26 : (0 : Int) ≤ ρ 18 + -ρ 3 := f26
  have f27 : (0 : Int) ≤ ρ 17 + -ρ 2 := f27
  have f28 : (0 : Int) ≤ ρ 16 + -ρ 0 := f28
  have f29 : (0 : Int) ≤ 4 * ρ 9 + -ρ 4 + 6 := f29
  have f30 : (0 : Int) ≤ ρ 1 + -ρ 0 := f30
  have f31 : (0 : Int) ≤ -ρ 3 + (-ρ 1 + ρ 0) + 12288 := f31
  have f32 : (0 : Int) ≤ -ρ 2 + (-ρ 1 + ρ 0) + 12288 := f32
  obtain ⟨m0, m1, m2, m3, m4, m5, m6, m7, m8, m9, m10, m11, m12, m13, m14, m15, m16, m17, m18, m19, m20, m21, m22, m23, m24, m25, m26, m27, m28, m29, m30, m31, m32, m33, m34, m35, m36, m37, m38, m39, m40, m41, m42, m43, -⟩ := hm
  have m0 : γ 0 15 0 35 = ρ 0 := m0
  have m1 : γ 0 15 0 34 = ρ 1 := m1
  have m2 : γ 0 15 0 8 = ρ 2 := m2
  have m3 : γ 0 15 0 9 = ρ 3 := m3
  have m4 : γ 0 15 0 58 = ρ 4 := m4
  have m5 : γ 0 15 0 14 = ρ 5 := m5
  have m6 : γ 0 15 0 32 = ρ 6 := m6
  have m7 : γ 0 15 0 33 = ρ 7 := m7
  have m8 : γ 0 15 0 44 = ρ 8 := m8
  have m9 : γ 0 73 0 (ρ 8) = ρ 9 := m9
  have m10 : γ 0 15 0 36 = ρ 10 := m10
  have m11 : γ 0 15 0 37 = ρ 11 := m11
  have m12 : γ 0 15 0 38 = ρ 12 := m12
  have m13 : γ 0 15 0 40 = ρ 13 := m13
  have m14 : γ 0 15 0 45 = ρ 14 := m14
  have m15 : γ 1 15 0 35 = ρ 16 := m15
  have m16 : γ 1 15 0 8 = ρ 17 := m16
  have m17 : γ 1 15 0 9 = ρ 18 := m17
  have m18 : γ 1 15 0 58 = ρ 19 := m18
  have m19 : γ 1 15 0 14 = ρ 20 := m19
  have m20 : γ 1 15 0 36 = ρ 10 := m20
  have m21 : γ 1 15 0 37 = ρ 21 := m21
  have m22 : γ 1 15 0 38 = ρ 22 := m22
  have m23 : γ 1 15 0 40 = ρ 23 := m23
  have m24 : γ 1 15 0 45 = ρ 24 := m24
  have m25 : γ 1 73 0 (ρ 8) = ρ 25 := m25
  have m26 : γ 2 15 0 35 = ρ 26 := m26
  have m27 : γ 1 77 0 (ρ 25 + 8 * ρ 8) = ρ 27 := m27
  have m28 : γ 1 81 0 (4 * ρ 25 + 32 * ρ 8) = ρ 28 := m28
  have m29 : γ 1 78 0 (ρ 25 + 8 * ρ 8) = ρ 29 := m29
  have m30 : γ 3 15 0 35 = ρ 30 := m30
  have m31 : γ 3 15 0 8 = ρ 31 := m31
  have m32 : γ 3 15 0 9 = ρ 32 := m32
  have m33 : γ 3 15 0 58 = ρ 19 := m33
  have m34 : γ 3 15 0 14 = ρ 20 := m34
  have m35 : γ 3 77 0 (ρ 25 + 8 * ρ 8) = ρ 33 := m35
  have m36 : γ 3 81 0 (4 * ρ 25 + 32 * ρ 8) = ρ 34 := m36
  have m37 : γ 3 78 0 (ρ 25 + 8 * ρ 8) = ρ 29 := m37
  have m38 : γ 3 15 0 36 = ρ 10 := m38
  have m39 : γ 3 15 0 37 = ρ 35 := m39
  have m40 : γ 3 15 0 38 = ρ 36 := m40
  have m41 : γ 3 15 0 40 = ρ 37 := m41
  have m42 : γ 3 15 0 45 = ρ 24 := m42
  have m43 : γ 5 15 0 35 = ρ 38 := m43
  obtain ⟨⟨⟨⟨⟨⟨-, c1⟩, c2⟩, c3⟩, c4⟩, c5⟩, c6⟩ := hc
  have c1 : ∀ (G : Nat) (k j : Int), ¬ rMdP m27_ G j → γ 1 G k j = γ 0 G k j := c1
  have c2 : ∀ (G : Nat) (k j : Int), ¬ rMdP m6_ G j → γ 2 G k j = γ 1 G k j := c2
  have c3 : ∀ (G : Nat) (k j : Int), ¬ rMdP m25_ G j → γ 3 G k j = γ 2 G k j := c3
  have c4 : γ 4 = rUp (γ 3) 73 0 (ρ 8) (ρ 25 + 1) := c4
  have c5 : ∀ (G : Nat) (k j : Int), ¬ rMdP m6_ G j → γ 5 G k j = γ 4 G k j := c5
  have c6 : ∀ (G : Nat) (k j : Int), ¬ rMdP m0_ G j → γ 6 G k j = γ 5 G k j := c6
  obtain ⟨l0, l1, l2, l3, l4, -⟩ := hl
  have l0 : sn7 [ρ 16, ρ 1] (γ 1) 0 0 (γ 2) := hS7 _ _ _ _ _ l0
  have l1 : sn42 [ρ 26, ρ 1, ρ 17, ρ 18, ρ 19, ρ 20, ρ 6, ρ 7, ρ 8, ρ 25, ρ 27, ρ 28, ρ 29, ρ 10, ρ 21, ρ 22, ρ 23, ρ 24] (γ 2) 0 1 (γ 3) := hS42 _ _ _ _ _ l1
  have l2 : sn7 [ρ 30, ρ 1] (γ 4) 0 0 (γ 5) := hS7 _ _ _ _ _ l2
  have l3 : sn6 [ρ 38, ρ 1] (γ 5) 0 (ρ 39) (γ 6) := hS6 _ _ _ _ _ l3
  have l4 : ρ 39 ≠ 44 := l4
  show jn43 [ρ 0, ρ 1, ρ 2, ρ 3, ρ 4, ρ 5, ρ 6, ρ 7, ρ 8, ρ 9, ρ 10, ρ 11, ρ 12, ρ 13, ρ 14] (γ 0) 0 [ρ 0, ρ 1, ρ 2, ρ 3, ρ 4, ρ 5, ρ 6, ρ 7, ρ 8, ρ 9, ρ 10, ρ 11, ρ 12, ρ 13, ρ 14, 0, ρ 38, ρ 31, ρ 32, ρ 19, ρ 20, ρ 35, ρ 36, ρ 37, ρ 24, ρ 25 + 1] (γ 6)
  have hD : en43 (γ 0) (0, [ρ 15], γ 1) = .inl (0, [0], γ 6) := by
    unfold en43
    refine (if_pos (show (0 : Nat) = 0 by decide)).trans ?_
    refine (zLet_eq (show _ = γ 1 from rfl)).trans ?_
    refine (zLet_eq (show _ = ρ 15 from rfl)).trans ?_
    refine (zLet_eq m1).trans ?_
    refine (zLet_eq m8).trans ?_
    refine (zLet_eq m25).trans ?_
    refine (if_neg (show ¬ (ρ 15 = 0) by omega)).trans ?_
    refine (zLet_eq (show fn7 [] (γ 1) = (0, 0, γ 2) from l0.symm)).trans ?_
    refine (zLet_eq (show _ = γ 2 from rfl)).trans ?_
    refine (zLet_eq m26).trans ?_
    refine (if_pos (show ρ 25 ≠ 8 by omega)).trans ?_
    refine (zLet_eq (show fn42 [] (γ 2) = (0, 1, γ 3) from l1.symm)).trans ?_
    refine (zLet_eq (show _ = γ 3 from rfl)).trans ?_
    refine (if_pos (show (1 : Int) ≤ 1 by omega)).trans ?_
    refine (if_pos (show 2 ≤ γ 3 77 0 (ρ 25 + 8 * ρ 8) by omega)).trans ?_
    refine (if_neg (show ¬ (5 ≤ γ 3 77 0 (ρ 25 + 8 * ρ 8)) by omega)).trans ?_
    refine (zLet_eq c4.symm).trans ?_
    refine (zLet_eq (show fn7 [] (γ 4) = (0, 0, γ 5) from l2.symm)).trans ?_
    refine (zLet_eq (show _ = γ 5 from rfl)).trans ?_
    refine (zLet_eq m43).trans ?_
    refine (zLet_eq (show fn6 [ρ 38] (γ 5) = (0, ρ 39, γ 6) from l3.symm)).trans ?_
    refine (zLet_eq (show _ = γ 6 from rfl)).trans ?_
    refine (if_pos (show 0 ≤ -ρ 38 + ρ 1 + (-1) by omega)).trans ?_
    refine (zLet_eq (show _ = ρ 39 from rfl)).trans ?_
    refine (if_pos (show ρ 39 ≠ 44 by omega)).trans ?_
    rfl
  exact zGoo_ato hJ hD
theorem vn43a0_6 {S : Nat → zSpc} (hS6 : ∀ x g o v gz, S 6 x g o v gz → sn6 x g o v gz) (hS7 : ∀ x g o v gz, S 7 x g o v gz → sn7 x g o v gz) (hS8 : ∀ x g o v gz, S 8 x g o v gz → sn8 x g o v gz) (hS42 : ∀ x g o v gz, S 42 x g o v gz → sn42 x g o v gz) {a : List Int} {g : rHp} : ∀ (ρ : Nat → Int) (γ : Nat → rHp), jn43 a g 0 (zAg (zNA a43_ 0) ρ) (γ 1) → zO 15 S a g q43a0_6 ρ γ → zGl (fun i vs g1 => jn43 a g i vs g1) (sn43 a g) q43a0_6 ρ γ := by
  intro ρ γ hJ h
  obtain ⟨ha, hg, hr, hf, hm, hc, hl⟩ := h
  have ha : a = [ρ 0, ρ 1, ρ 2, ρ 3, ρ 4, ρ 5, ρ 6, ρ 7, ρ 8, ρ 9, ρ 10, ρ 11, ρ 12, ρ 13, ρ 14] := ha
  subst ha
  subst hg
  have hJ : jn43 [ρ 0, ρ 1, ρ 2, ρ 3, ρ 4, ρ 5, ρ 6, ρ 7, ρ 8, ρ 9, ρ 10, ρ 11, ρ 12, ρ 13, ρ 14] (γ 0) 0 [ρ 0, ρ 1, ρ 2, ρ 3, ρ 4, ρ 5, ρ 6, ρ 7, ρ 8, ρ 9, ρ 10, ρ 11, ρ 12, ρ 13, ρ 14, ρ 15, ρ 16, ρ 17, ρ 18, ρ 19, ρ 20, ρ 21, ρ 22, ρ 23, ρ 24, ρ 25] (γ 1) := hJ
  obtain ⟨r0, r1, r2, r3, r4, r5, r6, r7, r8, r9, r10, r11, r12, r13, r14, r15, r16, r17, r18, r19, r20, r21, r22, r23, r24, r25, r26, r27, r28, r29, r30, r31, r32, r33, r34, r35, r36, r37, r38, r39, -⟩ := hr
  have r0 : (0 : Int) ≤ ρ 0 ∧ ρ 0 ≤ 2000 := r0
  have r1 : (0 : Int) ≤ ρ 1 ∧ ρ 1 ≤ 2000 := r1
  have r2 : (0 : Int) ≤ ρ 2 ∧ ρ 2 ≤ 12288 := r2
  have r3 : (0 : Int) ≤ ρ 3 ∧ ρ 3 ≤ 12288 := r3
  have r4 : (0 : Int) ≤ ρ 4 ∧ ρ 4 ≤ 64 := r4
  have r5 : (0 : Int) ≤ ρ 5 ∧ ρ 5 ≤ 20 := r5
  have r6 : (0 : Int) ≤ ρ 6 ∧ ρ 6 ≤ 60 := r6
  have r7 : (0 : Int) ≤ ρ 7 ∧ ρ 7 ≤ 60 := r7
  have r8 : (0 : Int) ≤ ρ 8 ∧ ρ 8 ≤ 61 := r8
  have r9 : (0 : Int) ≤ ρ 9 ∧ ρ 9 ≤ 8 := r9
  have r10 : (0 : Int) ≤ ρ 10 ∧ ρ 10 ≤ 2000 := r10
  have r11 : (0 : Int) ≤ ρ 11 ∧ ρ 11 ≤ 2000 := r11
  have r12 : (0 : Int) ≤ ρ 12 ∧ ρ 12 ≤ 2000 := r12
  have r13 : (0 : Int) ≤ ρ 13 ∧ ρ 13 ≤ 3 := r13
  have r14 : ((-2147483648) : Int) ≤ ρ 14 ∧ ρ 14 ≤ 2147483647 := r14
  have r15 : (1 : Int) ≤ ρ 15 ∧ ρ 15 ≤ 1 := r15
  have r16 : (0 : Int) ≤ ρ 16 ∧ ρ 16 ≤ 2000 := r16
  have r17 : (0 : Int) ≤ ρ 17 ∧ ρ 17 ≤ 12288 := r17
  have r18 : (0 : Int) ≤ ρ 18 ∧ ρ 18 ≤ 12288 := r18
  have r19 : (0 : Int) ≤ ρ 19 ∧ ρ 19 ≤ 43 := r19
  have r20 : (0 : Int) ≤ ρ 20 ∧ ρ 20 ≤ 20 := r20
  have r21 : (0 : Int) ≤ ρ 21 ∧ ρ 21 ≤ 2000 := r21
  have r22 : (0 : Int) ≤ ρ 22 ∧ ρ 22 ≤ 2000 := r22
  have r23 : (0 : Int) ≤ ρ 23 ∧ ρ 23 ≤ 3 := r23
  have r24 : ((-2147483648) : Int) ≤ ρ 24 ∧ ρ 24 ≤ 2147483647 := r24
  have r25 : (0 : Int) ≤ ρ 25 ∧ ρ 25 ≤ 7 := r25
  have r26 : (0 : Int) ≤ ρ 26 ∧ ρ 26 ≤ 2000 := r26
  have r27 : (0 : Int) ≤ ρ 27 ∧ ρ 27 ≤ 7 := r27
  have r28 : ((-2147483648) : Int) ≤ ρ 28 ∧ ρ 28 ≤ 1099511640064 := r28
  have r29 : (0 : Int) ≤ ρ 29 ∧ ρ 29 ≤ 19 := r29
  have r30 : (2 : Int) ≤ ρ 30 ∧ ρ 30 ≤ 2000 := r30
  have r31 : (0 : Int) ≤ ρ 31 ∧ ρ 31 ≤ 12288 := r31
  have r32 : (0 : Int) ≤ ρ 32 ∧ ρ 32 ≤ 12288 := r32
  have r33 : (2 : Int) ≤ ρ 33 ∧ ρ 33 ≤ 4 := r33
  have r34 : ((-2147483648) : Int) ≤ ρ 34 ∧ ρ 34 ≤ 1099511640064 := r34
  have r35 : (0 : Int) ≤ ρ 35 ∧ ρ 35 ≤ 2000 := r35
  have r36 : (0 : Int) ≤ ρ 36 ∧ ρ 36 ≤ 2000 := r36
  have r37 : (0 : Int) ≤ ρ 37 ∧ ρ 37 ≤ 2 := r37
  have r38 : (0 : Int) ≤ ρ 38 ∧ ρ 38 ≤ 2000 := r38
  have r39 : (44 : Int) ≤ ρ 39 ∧ ρ 39 ≤ 44 := r39
  obtain ⟨f0, f1, f2, f3, f4, f5, f6, f7, f8, f9, f10, f11, f12, f13, f14, f15, f16, f17, f18, f19, f20, f21, f22, f23, f24, f25, f26, f27, f28, f29, f30, f31, f32, -⟩ := hf
  have f0 : (0 : Int) ≤ -ρ 38 + ρ 1 + (-1) := f0
  have f1 : (0 : Int) ≤ -ρ 30 + ρ 1 := f1
  have f2 : (0 : Int) ≤ ρ 38 + -ρ 30 := f2
  have f3 : (0 : Int) ≤ -ρ 38 + ρ 1 := f3
  have f4 : (0 : Int) ≤ ρ 26 + (-ρ 17 + -ρ 1) + 12288 := f4
  have f5 : (0 : Int) ≤ ρ 26 + (-ρ 18 + -ρ 1) + 12288 := f5
  have f6 : (0 : Int) ≤ -ρ 26 + ρ 1 := f6
  have f7 : (0 : Int) ≤ 4 * ρ 25 + -ρ 19 + 6 := f7
  have f8 : (0 : Int) ≤ ρ 8 + (-ρ 7 + -ρ 6) := f8
  have f9 : (0 : Int) ≤ -ρ 8 + (ρ 7 + ρ 6) := f9
  have f10 : (0 : Int) ≤ ρ 30 + -ρ 26 + (-1) := f10
  have f11 : (0 : Int) ≤ ρ 31 + -ρ 17 := f11
  have f12 : (0 : Int) ≤ ρ 32 + -ρ 18 := f12
  have f13 : (0 : Int) ≤ -ρ 37 + ρ 1 := f13
  have f14 : (0 : Int) ≤ -ρ 26 + ρ 1 + (-1) := f14
  have f15 : (0 : Int) ≤ -ρ 31 + (ρ 30 + (-ρ 26 + ρ 17)) := f15
  have f16 : (0 : Int) ≤ -ρ 32 + (ρ 30 + (-ρ 26 + ρ 18)) := f16
  have f17 : (0 : Int) ≤ -ρ 16 + ρ 1 := f17
  have f18 : (0 : Int) ≤ ρ 26 + -ρ 16 := f18
  have f19 : (0 : Int) ≤ ρ 20 + -ρ 5 := f19
  have f20 : (0 : Int) ≤ -ρ 18 + (ρ 16 + -ρ 1) + 12288 := f20
  have f21 : (0 : Int) ≤ -ρ 17 + (ρ 16 + -ρ 1) + 12288 := f21
  have f22 : (0 : Int) ≤ -ρ 18 + (ρ 16 + (ρ 3 + -ρ 0)) := f22
  have f23 : (0 : Int) ≤ -ρ 17 + (ρ 16 + (ρ 2 + -ρ 0)) := f23
  have f24 : (0 : Int) ≤ ρ 25 + -ρ 9 := f24
  have f25 : (0 : Int) ≤ ρ 19 + -ρ 4 := f25
  have f26 : (0 : Int) ≤ ρ 18 + -ρ 3 := f26
  have f27 : (0 : Int) ≤ ρ 17 + -ρ 2 := f27
  have f28 : (0 : Int) ≤ ρ 16 + -ρ 0 := f28
  have f29 : (0 : Int) ≤ 4 * ρ 9 + -ρ 4 + 6 := f29
  have f30 : (0 : Int) ≤ ρ 1 + -ρ 0 := f30
  have f31 : (0 : Int) ≤ -ρ 3 + (-ρ 1 + ρ 0) + 12288 := f31
  have f32 : (0 : Int) ≤ -ρ 2 + (-ρ 1 + ρ 0) + 12288 := f32
  obtain ⟨m0, m1, m2, m3, m4, m5, m6, m7, m8, m9, m10, m11, m12, m13, m14, m15, m16, m17, m18, m19, m20, m21, m22, m23, m24, m25, m26, m27, m28, m29, m30, m31, m32, m33, m34, m35, m36, m37, m38, m39, m40, m41, m42, m43, -⟩ := hm
  have m0 : γ 0 15 0 35 = ρ 0 := m0
  have m1 : γ 0 15 0 34 = ρ 1 := m1
  have m2 : γ 0 15 0 8 = ρ 2 := m2
  have m3 : γ 0 15 0 9 = ρ 3 := m3
  have m4 : γ 0 15 0 58 = ρ 4 := m4
  have m5 : γ 0 15 0 14 = ρ 5 := m5
  have m6 : γ 0 15 0 32 = ρ 6 := m6
  have m7 : γ 0 15 0 33 = ρ 7 := m7
  have m8 : γ 0 15 0 44 = ρ 8 := m8
  have m9 : γ 0 73 0 (ρ 8) = ρ 9 := m9
  have m10 : γ 0 15 0 36 = ρ 10 := m10
  have m11 : γ 0 15 0 37 = ρ 11 := m11
  have m12 : γ 0 15 0 38 = ρ 12 := m12
  have m13 : γ 0 15 0 40 = ρ 13 := m13
  have m14 : γ 0 15 0 45 = ρ 14 := m14
  have m15 : γ 1 15 0 35 = ρ 16 := m15
  have m16 : γ 1 15 0 8 = ρ 17 := m16
  have m17 : γ 1 15 0 9 = ρ 18 := m17
  have m18 : γ 1 15 0 58 = ρ 19 := m18
  have m19 : γ 1 15 0 14 = ρ 20 := m19
  have m20 : γ 1 15 0 36 = ρ 10 := m20
  have m21 : γ 1 15 0 37 = ρ 21 := m21
  have m22 : γ 1 15 0 38 = ρ 22 := m22
  have m23 : γ 1 15 0 40 = ρ 23 := m23
  have m24 : γ 1 15 0 45 = ρ 24 := m24
  have m25 : γ 1 73 0 (ρ 8) = ρ 25 := m25
  have m26 : γ 2 15 0 35 = ρ 26 := m26
  have m27 : γ 1 77 0 (ρ 25 + 8 * ρ 8) = ρ 27 := m27
  have m28 : γ 1 81 0 (4 * ρ 25 + 32 * ρ 8) = ρ 28 := m28
  have m29 : γ 1 78 0 (ρ 25 + 8 * ρ 8) = ρ 29 := m29
  have m30 : γ 3 15 0 35 = ρ 30 := m30
  have m31 : γ 3 15 0 8 = ρ 31 := m31
  have m32 : γ 3 15 0 9 = ρ 32 := m32
  have m33 : γ 3 15 0 58 = ρ 19 := m33
  have m34 : γ 3 15 0 14 = ρ 20 := m34
  have m35 : γ 3 77 0 (ρ 25 + 8 * ρ 8) = ρ 33 := m35
  have m36 : γ 3 81 0 (4 * ρ 25 + 32 * ρ 8) = ρ 34 := m36
  have m37 : γ 3 78 0 (ρ 25 + 8 * ρ 8) = ρ 29 := m37
  have m38 : γ 3 15 0 36 = ρ 10 := m38
  have m39 : γ 3 15 0 37 = ρ 35 := m39
  have m40 : γ 3 15 0 38 = ρ 36 := m40
  have m41 : γ 3 15 0 40 = ρ 37 := m41
  have m42 : γ 3 15 0 45 = ρ 24 := m42
  have m43 : γ 5 15 0 35 = ρ 38 := m43
  obtain ⟨⟨⟨⟨⟨⟨⟨-, c1⟩, c2⟩, c3⟩, c4⟩, c5⟩, c6⟩, c7⟩ := hc
  have c1 : ∀ (G : Nat) (k j : Int), ¬ rMdP m27_ G j → γ 1 G k j = γ 0 G k j := c1
  have c2 : ∀ (G : Nat) (k j : Int), ¬ rMdP m6_ G j → γ 2 G k j = γ 1 G k j := c2
  have c3 : ∀ (G : Nat) (k j : Int), ¬ rMdP m25_ G j → γ 3 G k j = γ 2 G k j := c3
  have c4 : γ 4 = rUp (γ 3) 73 0 (ρ 8) (ρ 25 + 1) := c4
  have c5 : ∀ (G : Nat) (k j : Int), ¬ rMdP m6_ G j → γ 5 G k j = γ 4 G k j := c5
  have c6 : ∀ (G : Nat) (k j : Int), ¬ rMdP m0_ G j → γ 6 G k j = γ 5 G k j := c6
  have c7 : γ 7 = rUp (γ 6) 15 0 35 (ρ 38 + 1) := c7
  obtain ⟨l0, l1, l2, l3, -⟩ := hl
  have l0 : sn7 [ρ 16, ρ 1] (γ 1) 0 0 (γ 2) := hS7 _ _ _ _ _ l0
  have l1 : sn42 [ρ 26, ρ 1, ρ 17, ρ 18, ρ 19, ρ 20, ρ 6, ρ 7, ρ 8, ρ 25, ρ 27, ρ 28, ρ 29, ρ 10, ρ 21, ρ 22, ρ 23, ρ 24] (γ 2) 0 1 (γ 3) := hS42 _ _ _ _ _ l1
  have l2 : sn7 [ρ 30, ρ 1] (γ 4) 0 0 (γ 5) := hS7 _ _ _ _ _ l2
  have l3 : sn6 [ρ 38, ρ 1] (γ 5) 0 (ρ 39) (γ 6) := hS6 _ _ _ _ _ l3
  show jn43 [ρ 0, ρ 1, ρ 2, ρ 3, ρ 4, ρ 5, ρ 6, ρ 7, ρ 8, ρ 9, ρ 10, ρ 11, ρ 12, ρ 13, ρ 14] (γ 0) 0 [ρ 0, ρ 1, ρ 2, ρ 3, ρ 4, ρ 5, ρ 6, ρ 7, ρ 8, ρ 9, ρ 10, ρ 11, ρ 12, ρ 13, ρ 14, 1, ρ 38 + 1, ρ 31, ρ 32, ρ 19, ρ 20, ρ 35, ρ 36, ρ 37, ρ 24, ρ 25 + 1] (γ 7)
  have hD : en43 (γ 0) (0, [ρ 15], γ 1) = .inl (0, [1], γ 7) := by
    unfold en43
    refine (if_pos (show (0 : Nat) = 0 by decide)).trans ?_
    refine (zLet_eq (show _ = γ 1 from rfl)).trans ?_
    refine (zLet_eq (show _ = ρ 15 from rfl)).trans ?_
    refine (zLet_eq m1).trans ?_
    refine (zLet_eq m8).trans ?_
    refine (zLet_eq m25).trans ?_
    refine (if_neg (show ¬ (ρ 15 = 0) by omega)).trans ?_
    refine (zLet_eq (show fn7 [] (γ 1) = (0, 0, γ 2) from l0.symm)).trans ?_
    refine (zLet_eq (show _ = γ 2 from rfl)).trans ?_
    refine (zLet_eq m26).trans ?_
    refine (if_pos (show ρ 25 ≠ 8 by omega)).trans ?_
    refine (zLet_eq (show fn42 [] (γ 2) = (0, 1, γ 3) from l1.symm)).trans ?_
    refine (zLet_eq (show _ = γ 3 from rfl)).trans ?_
    refine (if_pos (show (1 : Int) ≤ 1 by omega)).trans ?_
    refine (if_pos (show 2 ≤ γ 3 77 0 (ρ 25 + 8 * ρ 8) by omega)).trans ?_
    refine (if_neg (show ¬ (5 ≤ γ 3 77 0 (ρ 25 + 8 * ρ 8)) by omega)).trans ?_
    refine (zLet_eq c4.symm).trans ?_
    refine (zLet_eq (show fn7 [] (γ 4) = (0, 0, γ 5) from l2.symm)).trans ?_
    refine (zLet_eq (show _ = γ 5 from rfl)).trans ?_
    refine (zLet_eq m43).trans ?_
    refine (zLet_eq (show fn6 [ρ 38] (γ 5) = (0, ρ 39, γ 6) from l3.symm)).trans ?_
    refine (zLet_eq (show _ = γ 6 from rfl)).trans ?_
    refine (if_pos (show 0 ≤ -ρ 38 + ρ 1 + (-1) by omega)).trans ?_
    refine (zLet_eq (show _ = ρ 39 from rfl)).trans ?_
    refine (if_neg (show ¬ (ρ 39 ≠ 44) by omega)).trans ?_
    refine (zLet_eq c7.symm).trans ?_
    rfl
  exact zGoo_ato hJ hD
theorem vn43a0_7 {S : Nat → zSpc} (hS6 : ∀ x g o v gz, S 6 x g o v gz → sn6 x g o v gz) (hS7 : ∀ x g o v gz, S 7 x g o v gz → sn7 x g o v gz) (hS8 : ∀ x g o v gz, S 8 x g o v gz → sn8 x g o v gz) (hS42 : ∀ x g o v gz, S 42 x g o v gz → sn42 x g o v gz) {a : List Int} {g : rHp} : ∀ (ρ : Nat → Int) (γ : Nat → rHp), jn43 a g 0 (zAg (zNA a43_ 0) ρ) (γ 1) → zO 15 S a g q43a0_7 ρ γ → zGl (fun i vs g1 => jn43 a g i vs g1) (sn43 a g) q43a0_7 ρ γ := by
  intro ρ γ hJ h
  obtain ⟨ha, hg, hr, hf, hm, hc, hl⟩ := h
  have ha : a = [ρ 0, ρ 1, ρ 2, ρ 3, ρ 4, ρ 5, ρ 6, ρ 7, ρ 8, ρ 9, ρ 10, ρ 11, ρ 12, ρ 13, ρ 14] := ha
  subst ha
  subst hg
  have hJ : jn43 [ρ 0, ρ 1, ρ 2, ρ 3, ρ 4, ρ 5, ρ 6, ρ 7, ρ 8, ρ 9, ρ 10, ρ 11, ρ 12, ρ 13, ρ 14] (γ 0) 0 [ρ 0, ρ 1, ρ 2, ρ 3, ρ 4, ρ 5, ρ 6, ρ 7, ρ 8, ρ 9, ρ 10, ρ 11, ρ 12, ρ 13, ρ 14, ρ 15, ρ 16, ρ 17, ρ 18, ρ 19, ρ 20, ρ 21, ρ 22, ρ 23, ρ 24, ρ 25] (γ 1) := hJ
  obtain ⟨r0, r1, r2, r3, r4, r5, r6, r7, r8, r9, r10, r11, r12, r13, r14, r15, r16, r17, r18, r19, r20, r21, r22, r23, r24, r25, r26, r27, r28, r29, r30, r31, r32, r33, r34, r35, r36, r37, r38, -⟩ := hr
  have r0 : (0 : Int) ≤ ρ 0 ∧ ρ 0 ≤ 2000 := r0
  have r1 : (0 : Int) ≤ ρ 1 ∧ ρ 1 ≤ 2000 := r1
  have r2 : (0 : Int) ≤ ρ 2 ∧ ρ 2 ≤ 12288 := r2
  have r3 : (0 : Int) ≤ ρ 3 ∧ ρ 3 ≤ 12288 := r3
  have r4 : (0 : Int) ≤ ρ 4 ∧ ρ 4 ≤ 64 := r4
  have r5 : (0 : Int) ≤ ρ 5 ∧ ρ 5 ≤ 20 := r5
  have r6 : (0 : Int) ≤ ρ 6 ∧ ρ 6 ≤ 60 := r6
  have r7 : (0 : Int) ≤ ρ 7 ∧ ρ 7 ≤ 60 := r7
  have r8 : (0 : Int) ≤ ρ 8 ∧ ρ 8 ≤ 61 := r8
  have r9 : (0 : Int) ≤ ρ 9 ∧ ρ 9 ≤ 8 := r9
  have r10 : (0 : Int) ≤ ρ 10 ∧ ρ 10 ≤ 2000 := r10
  have r11 : (0 : Int) ≤ ρ 11 ∧ ρ 11 ≤ 2000 := r11
  have r12 : (0 : Int) ≤ ρ 12 ∧ ρ 12 ≤ 2000 := r12
  have r13 : (0 : Int) ≤ ρ 13 ∧ ρ 13 ≤ 3 := r13
  have r14 : ((-2147483648) : Int) ≤ ρ 14 ∧ ρ 14 ≤ 2147483647 := r14
  have r15 : (1 : Int) ≤ ρ 15 ∧ ρ 15 ≤ 1 := r15
  have r16 : (0 : Int) ≤ ρ 16 ∧ ρ 16 ≤ 2000 := r16
  have r17 : (0 : Int) ≤ ρ 17 ∧ ρ 17 ≤ 12288 := r17
  have r18 : (0 : Int) ≤ ρ 18 ∧ ρ 18 ≤ 12288 := r18
  have r19 : (0 : Int) ≤ ρ 19 ∧ ρ 19 ≤ 43 := r19
  have r20 : (0 : Int) ≤ ρ 20 ∧ ρ 20 ≤ 20 := r20
  have r21 : (0 : Int) ≤ ρ 21 ∧ ρ 21 ≤ 2000 := r21
  have r22 : (0 : Int) ≤ ρ 22 ∧ ρ 22 ≤ 2000 := r22
  have r23 : (0 : Int) ≤ ρ 23 ∧ ρ 23 ≤ 3 := r23
  have r24 : ((-2147483648) : Int) ≤ ρ 24 ∧ ρ 24 ≤ 2147483647 := r24
  have r25 : (0 : Int) ≤ ρ 25 ∧ ρ 25 ≤ 7 := r25
  have r26 : (0 : Int) ≤ ρ 26 ∧ ρ 26 ≤ 2000 := r26
  have r27 : (0 : Int) ≤ ρ 27 ∧ ρ 27 ≤ 7 := r27
  have r28 : ((-2147483648) : Int) ≤ ρ 28 ∧ ρ 28 ≤ 1099511640064 := r28
  have r29 : (0 : Int) ≤ ρ 29 ∧ ρ 29 ≤ 19 := r29
  have r30 : (2 : Int) ≤ ρ 30 ∧ ρ 30 ≤ 2000 := r30
  have r31 : (0 : Int) ≤ ρ 31 ∧ ρ 31 ≤ 12288 := r31
  have r32 : (0 : Int) ≤ ρ 32 ∧ ρ 32 ≤ 12288 := r32
  have r33 : (2 : Int) ≤ ρ 33 ∧ ρ 33 ≤ 4 := r33
  have r34 : ((-2147483648) : Int) ≤ ρ 34 ∧ ρ 34 ≤ 1099511640064 := r34
  have r35 : (0 : Int) ≤ ρ 35 ∧ ρ 35 ≤ 2000 := r35
  have r36 : (0 : Int) ≤ ρ 36 ∧ ρ 36 ≤ 2000 := r36
  have r37 : (0 : Int) ≤ ρ 37 ∧ ρ 37 ≤ 2 := r37
  have r38 : (0 : Int) ≤ ρ 38 ∧ ρ 38 ≤ 2000 := r38
  obtain ⟨f0, f1, f2, f3, f4, f5, f6, f7, f8, f9, f10, f11, f12, f13, f14, f15, f16, f17, f18, f19, f20, f21, f22, f23, f24, f25, f26, f27, f28, f29, f30, f31, f32, -⟩ := hf
  have f0 : (0 : Int) ≤ ρ 38 + -ρ 1 := f0
  have f1 : (0 : Int) ≤ -ρ 30 + ρ 1 := f1
  have f2 : (0 : Int) ≤ ρ 38 + -ρ 30 := f2
  have f3 : (0 : Int) ≤ -ρ 38 + ρ 1 := f3
  have f4 : (0 : Int) ≤ ρ 26 + (-ρ 17 + -ρ 1) + 12288 := f4
  have f5 : (0 : Int) ≤ ρ 26 + (-ρ 18 + -ρ 1) + 12288 := f5
  have f6 : (0 : Int) ≤ -ρ 26 + ρ 1 := f6
  have f7 : (0 : Int) ≤ 4 * ρ 25 + -ρ 19 + 6 := f7
  have f8 : (0 : Int) ≤ ρ 8 + (-ρ 7 + -ρ 6) := f8
  have f9 : (0 : Int) ≤ -ρ 8 + (ρ 7 + ρ 6) := f9
  have f10 : (0 : Int) ≤ ρ 30 + -ρ 26 + (-1) := f10
  have f11 : (0 : Int) ≤ ρ 31 + -ρ 17 := f11
  have f12 : (0 : Int) ≤ ρ 32 + -ρ 18 := f12
  have f13 : (0 : Int) ≤ -ρ 37 + ρ 1 := f13
  have f14 : (0 : Int) ≤ -ρ 26 + ρ 1 + (-1) := f14
  have f15 : (0 : Int) ≤ -ρ 31 + (ρ 30 + (-ρ 26 + ρ 17)) := f15
  have f16 : (0 : Int) ≤ -ρ 32 + (ρ 30 + (-ρ 26 + ρ 18)) := f16
  have f17 : (0 : Int) ≤ -ρ 16 + ρ 1 := f17
  have f18 : (0 : Int) ≤ ρ 26 + -ρ 16 := f18
  have f19 : (0 : Int) ≤ ρ 20 + -ρ 5 := f19
  have f20 : (0 : Int) ≤ -ρ 18 + (ρ 16 + -ρ 1) + 12288 := f20
  have f21 : (0 : Int) ≤ -ρ 17 + (ρ 16 + -ρ 1) + 12288 := f21
  have f22 : (0 : Int) ≤ -ρ 18 + (ρ 16 + (ρ 3 + -ρ 0)) := f22
  have f23 : (0 : Int) ≤ -ρ 17 + (ρ 16 + (ρ 2 + -ρ 0)) := f23
  have f24 : (0 : Int) ≤ ρ 25 + -ρ 9 := f24
  have f25 : (0 : Int) ≤ ρ 19 + -ρ 4 := f25
  have f26 : (0 : Int) ≤ ρ 18 + -ρ 3 := f26
  have f27 : (0 : Int) ≤ ρ 17 + -ρ 2 := f27
  have f28 : (0 : Int) ≤ ρ 16 + -ρ 0 := f28
  have f29 : (0 : Int) ≤ 4 * ρ 9 + -ρ 4 + 6 := f29
  have f30 : (0 : Int) ≤ ρ 1 + -ρ 0 := f30
  have f31 : (0 : Int) ≤ -ρ 3 + (-ρ 1 + ρ 0) + 12288 := f31
  have f32 : (0 : Int) ≤ -ρ 2 + (-ρ 1 + ρ 0) + 12288 := f32
  obtain ⟨m0, m1, m2, m3, m4, m5, m6, m7, m8, m9, m10, m11, m12, m13, m14, m15, m16, m17, m18, m19, m20, m21, m22, m23, m24, m25, m26, m27, m28, m29, m30, m31, m32, m33, m34, m35, m36, m37, m38, m39, m40, m41, m42, m43, -⟩ := hm
  have m0 : γ 0 15 0 35 = ρ 0 := m0
  have m1 : γ 0 15 0 34 = ρ 1 := m1
  have m2 : γ 0 15 0 8 = ρ 2 := m2
  have m3 : γ 0 15 0 9 = ρ 3 := m3
  have m4 : γ 0 15 0 58 = ρ 4 := m4
  have m5 : γ 0 15 0 14 = ρ 5 := m5
  have m6 : γ 0 15 0 32 = ρ 6 := m6
  have m7 : γ 0 15 0 33 = ρ 7 := m7
  have m8 : γ 0 15 0 44 = ρ 8 := m8
  have m9 : γ 0 73 0 (ρ 8) = ρ 9 := m9
  have m10 : γ 0 15 0 36 = ρ 10 := m10
  have m11 : γ 0 15 0 37 = ρ 11 := m11
  have m12 : γ 0 15 0 38 = ρ 12 := m12
  have m13 : γ 0 15 0 40 = ρ 13 := m13
  have m14 : γ 0 15 0 45 = ρ 14 := m14
  have m15 : γ 1 15 0 35 = ρ 16 := m15
  have m16 : γ 1 15 0 8 = ρ 17 := m16
  have m17 : γ 1 15 0 9 = ρ 18 := m17
  have m18 : γ 1 15 0 58 = ρ 19 := m18
  have m19 : γ 1 15 0 14 = ρ 20 := m19
  have m20 : γ 1 15 0 36 = ρ 10 := m20
  have m21 : γ 1 15 0 37 = ρ 21 := m21
  have m22 : γ 1 15 0 38 = ρ 22 := m22
  have m23 : γ 1 15 0 40 = ρ 23 := m23
  have m24 : γ 1 15 0 45 = ρ 24 := m24
  have m25 : γ 1 73 0 (ρ 8) = ρ 25 := m25
  have m26 : γ 2 15 0 35 = ρ 26 := m26
  have m27 : γ 1 77 0 (ρ 25 + 8 * ρ 8) = ρ 27 := m27
  have m28 : γ 1 81 0 (4 * ρ 25 + 32 * ρ 8) = ρ 28 := m28
  have m29 : γ 1 78 0 (ρ 25 + 8 * ρ 8) = ρ 29 := m29
  have m30 : γ 3 15 0 35 = ρ 30 := m30
  have m31 : γ 3 15 0 8 = ρ 31 := m31
  have m32 : γ 3 15 0 9 = ρ 32 := m32
  have m33 : γ 3 15 0 58 = ρ 19 := m33
  have m34 : γ 3 15 0 14 = ρ 20 := m34
  have m35 : γ 3 77 0 (ρ 25 + 8 * ρ 8) = ρ 33 := m35
  have m36 : γ 3 81 0 (4 * ρ 25 + 32 * ρ 8) = ρ 34 := m36
  have m37 : γ 3 78 0 (ρ 25 + 8 * ρ 8) = ρ 29 := m37
  have m38 : γ 3 15 0 36 = ρ 10 := m38
  have m39 : γ 3 15 0 37 = ρ 35 := m39
  have m40 : γ 3 15 0 38 = ρ 36 := m40
  have m41 : γ 3 15 0 40 = ρ 37 := m41
  have m42 : γ 3 15 0 45 = ρ 24 := m42
  have m43 : γ 5 15 0 35 = ρ 38 := m43
  obtain ⟨⟨⟨⟨⟨⟨-, c1⟩, c2⟩, c3⟩, c4⟩, c5⟩, c6⟩ := hc
  have c1 : ∀ (G : Nat) (k j : Int), ¬ rMdP m27_ G j → γ 1 G k j = γ 0 G k j := c1
  have c2 : ∀ (G : Nat) (k j : Int), ¬ rMdP m6_ G j → γ 2 G k j = γ 1 G k j := c2
  have c3 : ∀ (G : Nat) (k j : Int), ¬ rMdP m25_ G j → γ 3 G k j = γ 2 G k j := c3
  have c4 : γ 4 = rUp (γ 3) 73 0 (ρ 8) (ρ 25 + 1) := c4
  have c5 : ∀ (G : Nat) (k j : Int), ¬ rMdP m6_ G j → γ 5 G k j = γ 4 G k j := c5
  have c6 : ∀ (G : Nat) (k j : Int), ¬ rMdP m0_ G j → γ 6 G k j = γ 5 G k j := c6
  obtain ⟨l0, l1, l2, l3, -⟩ := hl
  have l0 : sn7 [ρ 16, ρ 1] (γ 1) 0 0 (γ 2) := hS7 _ _ _ _ _ l0
  have l1 : sn42 [ρ 26, ρ 1, ρ 17, ρ 18, ρ 19, ρ 20, ρ 6, ρ 7, ρ 8, ρ 25, ρ 27, ρ 28, ρ 29, ρ 10, ρ 21, ρ 22, ρ 23, ρ 24] (γ 2) 0 1 (γ 3) := hS42 _ _ _ _ _ l1
  have l2 : sn7 [ρ 30, ρ 1] (γ 4) 0 0 (γ 5) := hS7 _ _ _ _ _ l2
  have l3 : sn6 [ρ 38, ρ 1] (γ 5) 0 (-1) (γ 6) := hS6 _ _ _ _ _ l3
  show jn43 [ρ 0, ρ 1, ρ 2, ρ 3, ρ 4, ρ 5, ρ 6, ρ 7, ρ 8, ρ 9, ρ 10, ρ 11, ρ 12, ρ 13, ρ 14] (γ 0) 0 [ρ 0, ρ 1, ρ 2, ρ 3, ρ 4, ρ 5, ρ 6, ρ 7, ρ 8, ρ 9, ρ 10, ρ 11, ρ 12, ρ 13, ρ 14, 0, ρ 38, ρ 31, ρ 32, ρ 19, ρ 20, ρ 35, ρ 36, ρ 37, ρ 24, ρ 25 + 1] (γ 6)
  have hD : en43 (γ 0) (0, [ρ 15], γ 1) = .inl (0, [0], γ 6) := by
    unfold en43
    refine (if_pos (show (0 : Nat) = 0 by decide)).trans ?_
    refine (zLet_eq (show _ = γ 1 from rfl)).trans ?_
    refine (zLet_eq (show _ = ρ 15 from rfl)).trans ?_
    refine (zLet_eq m1).trans ?_
    refine (zLet_eq m8).trans ?_
    refine (zLet_eq m25).trans ?_
    refine (if_neg (show ¬ (ρ 15 = 0) by omega)).trans ?_
    refine (zLet_eq (show fn7 [] (γ 1) = (0, 0, γ 2) from l0.symm)).trans ?_
    refine (zLet_eq (show _ = γ 2 from rfl)).trans ?_
    refine (zLet_eq m26).trans ?_
    refine (if_pos (show ρ 25 ≠ 8 by omega)).trans ?_
    refine (zLet_eq (show fn42 [] (γ 2) = (0, 1, γ 3) from l1.symm)).trans ?_
    refine (zLet_eq (show _ = γ 3 from rfl)).trans ?_
    refine (if_pos (show (1 : Int) ≤ 1 by omega)).trans ?_
    refine (if_pos (show 2 ≤ γ 3 77 0 (ρ 25 + 8 * ρ 8) by omega)).trans ?_
    refine (if_neg (show ¬ (5 ≤ γ 3 77 0 (ρ 25 + 8 * ρ 8)) by omega)).trans ?_
    refine (zLet_eq c4.symm).trans ?_
    refine (zLet_eq (show fn7 [] (γ 4) = (0, 0, γ 5) from l2.symm)).trans ?_
    refine (zLet_eq (show _ = γ 5 from rfl)).trans ?_
    refine (zLet_eq m43).trans ?_
    refine (zLet_eq (show fn6 [ρ 38] (γ 5) = (0, (-1), γ 6) from l3.symm)).trans ?_
    refine (zLet_eq (show _ = γ 6 from rfl)).trans ?_
    refine (if_neg (show ¬ (0 ≤ -ρ 38 + ρ 1 + (-1)) by omega)).trans ?_
    rfl
  exact zGoo_ato hJ hD
theorem vn43a0_8 {S : Nat → zSpc} (hS6 : ∀ x g o v gz, S 6 x g o v gz → sn6 x g o v gz) (hS7 : ∀ x g o v gz, S 7 x g o v gz → sn7 x g o v gz) (hS8 : ∀ x g o v gz, S 8 x g o v gz → sn8 x g o v gz) (hS42 : ∀ x g o v gz, S 42 x g o v gz → sn42 x g o v gz) {a : List Int} {g : rHp} : ∀ (ρ : Nat → Int) (γ : Nat → rHp), jn43 a g 0 (zAg (zNA a43_ 0) ρ) (γ 1) → zO 15 S a g q43a0_8 ρ γ → zGl (fun i vs g1 => jn43 a g i vs g1) (sn43 a g) q43a0_8 ρ γ := by
  intro ρ γ hJ h
  obtain ⟨ha, hg, hr, hf, hm, hc, hl⟩ := h
  have ha : a = [ρ 0, ρ 1, ρ 2, ρ 3, ρ 4, ρ 5, ρ 6, ρ 7, ρ 8, ρ 9, ρ 10, ρ 11, ρ 12, ρ 13, ρ 14] := ha
  subst ha
  subst hg
  have hJ : jn43 [ρ 0, ρ 1, ρ 2, ρ 3, ρ 4, ρ 5, ρ 6, ρ 7, ρ 8, ρ 9, ρ 10, ρ 11, ρ 12, ρ 13, ρ 14] (γ 0) 0 [ρ 0, ρ 1, ρ 2, ρ 3, ρ 4, ρ 5, ρ 6, ρ 7, ρ 8, ρ 9, ρ 10, ρ 11, ρ 12, ρ 13, ρ 14, ρ 15, ρ 16, ρ 17, ρ 18, ρ 19, ρ 20, ρ 21, ρ 22, ρ 23, ρ 24, ρ 25] (γ 1) := hJ
  obtain ⟨r0, r1, r2, r3, r4, r5, r6, r7, r8, r9, r10, r11, r12, r13, r14, r15, r16, r17, r18, r19, r20, r21, r22, r23, r24, r25, r26, r27, r28, r29, r30, r31, r32, r33, r34, r35, r36, r37, r38, r39, r40, -⟩ := hr
  have r0 : (0 : Int) ≤ ρ 0 ∧ ρ 0 ≤ 2000 := r0
  have r1 : (0 : Int) ≤ ρ 1 ∧ ρ 1 ≤ 2000 := r1
  have r2 : (0 : Int) ≤ ρ 2 ∧ ρ 2 ≤ 12288 := r2
  have r3 : (0 : Int) ≤ ρ 3 ∧ ρ 3 ≤ 12288 := r3
  have r4 : (0 : Int) ≤ ρ 4 ∧ ρ 4 ≤ 64 := r4
  have r5 : (0 : Int) ≤ ρ 5 ∧ ρ 5 ≤ 20 := r5
  have r6 : (0 : Int) ≤ ρ 6 ∧ ρ 6 ≤ 60 := r6
  have r7 : (0 : Int) ≤ ρ 7 ∧ ρ 7 ≤ 60 := r7
  have r8 : (0 : Int) ≤ ρ 8 ∧ ρ 8 ≤ 61 := r8
  have r9 : (0 : Int) ≤ ρ 9 ∧ ρ 9 ≤ 8 := r9
  have r10 : (0 : Int) ≤ ρ 10 ∧ ρ 10 ≤ 2000 := r10
  have r11 : (0 : Int) ≤ ρ 11 ∧ ρ 11 ≤ 2000 := r11
  have r12 : (0 : Int) ≤ ρ 12 ∧ ρ 12 ≤ 2000 := r12
  have r13 : (0 : Int) ≤ ρ 13 ∧ ρ 13 ≤ 3 := r13
  have r14 : ((-2147483648) : Int) ≤ ρ 14 ∧ ρ 14 ≤ 2147483647 := r14
  have r15 : (1 : Int) ≤ ρ 15 ∧ ρ 15 ≤ 1 := r15
  have r16 : (0 : Int) ≤ ρ 16 ∧ ρ 16 ≤ 2000 := r16
  have r17 : (0 : Int) ≤ ρ 17 ∧ ρ 17 ≤ 12288 := r17
  have r18 : (0 : Int) ≤ ρ 18 ∧ ρ 18 ≤ 12288 := r18
  have r19 : (0 : Int) ≤ ρ 19 ∧ ρ 19 ≤ 43 := r19
  have r20 : (0 : Int) ≤ ρ 20 ∧ ρ 20 ≤ 20 := r20
  have r21 : (0 : Int) ≤ ρ 21 ∧ ρ 21 ≤ 2000 := r21
  have r22 : (0 : Int) ≤ ρ 22 ∧ ρ 22 ≤ 2000 := r22
  have r23 : (0 : Int) ≤ ρ 23 ∧ ρ 23 ≤ 3 := r23
  have r24 : ((-2147483648) : Int) ≤ ρ 24 ∧ ρ 24 ≤ 2147483647 := r24
  have r25 : (0 : Int) ≤ ρ 25 ∧ ρ 25 ≤ 7 := r25
  have r26 : (0 : Int) ≤ ρ 26 ∧ ρ 26 ≤ 2000 := r26
  have r27 : (0 : Int) ≤ ρ 27 ∧ ρ 27 ≤ 7 := r27
  have r28 : ((-2147483648) : Int) ≤ ρ 28 ∧ ρ 28 ≤ 1099511640064 := r28
  have r29 : (0 : Int) ≤ ρ 29 ∧ ρ 29 ≤ 19 := r29
  have r30 : (5 : Int) ≤ ρ 30 ∧ ρ 30 ≤ 2000 := r30
  have r31 : (0 : Int) ≤ ρ 31 ∧ ρ 31 ≤ 12288 := r31
  have r32 : (0 : Int) ≤ ρ 32 ∧ ρ 32 ≤ 12288 := r32
  have r33 : (5 : Int) ≤ ρ 33 ∧ ρ 33 ≤ 7 := r33
  have r34 : (0 : Int) ≤ ρ 34 ∧ ρ 34 ≤ 7 := r34
  have r35 : (0 : Int) ≤ ρ 35 ∧ ρ 35 ≤ 2000 := r35
  have r36 : (0 : Int) ≤ ρ 36 ∧ ρ 36 ≤ 2000 := r36
  have r37 : (0 : Int) ≤ ρ 37 ∧ ρ 37 ≤ 2 := r37
  have r38 : ((-2147483648) : Int) ≤ ρ 38 ∧ ρ 38 ≤ 2147483647 := r38
  have r39 : (0 : Int) ≤ ρ 39 ∧ ρ 39 ≤ 2000 := r39
  have r40 : ((-128) : Int) ≤ ρ 40 ∧ ρ 40 ≤ 127 := r40
  obtain ⟨f0, f1, f2, f3, f4, f5, f6, f7, f8, f9, f10, f11, f12, f13, f14, f15, f16, f17, f18, f19, f20, f21, f22, f23, f24, f25, f26, f27, f28, f29, f30, f31, f32, f33, -⟩ := hf
  have f0 : (0 : Int) ≤ -ρ 39 + ρ 1 + (-1) := f0
  have f1 : (0 : Int) ≤ -ρ 30 + ρ 1 := f1
  have f2 : (0 : Int) ≤ ρ 39 + -ρ 30 := f2
  have f3 : (0 : Int) ≤ -ρ 39 + ρ 1 := f3
  have f4 : (0 : Int) ≤ ρ 26 + (-ρ 17 + -ρ 1) + 12288 := f4
  have f5 : (0 : Int) ≤ ρ 26 + (-ρ 18 + -ρ 1) + 12288 := f5
  have f6 : (0 : Int) ≤ -ρ 26 + ρ 1 := f6
  have f7 : (0 : Int) ≤ 4 * ρ 25 + -ρ 19 + 6 := f7
  have f8 : (0 : Int) ≤ ρ 8 + (-ρ 7 + -ρ 6) := f8
  have f9 : (0 : Int) ≤ -ρ 8 + (ρ 7 + ρ 6) := f9
  have f10 : (0 : Int) ≤ ρ 30 + -ρ 26 + (-1) := f10
  have f11 : (0 : Int) ≤ ρ 31 + -ρ 17 := f11
  have f12 : (0 : Int) ≤ ρ 32 + -ρ 18 := f12
  have f13 : (0 : Int) ≤ -ρ 37 + ρ 1 + (-1) := f13
  have f14 : (0 : Int) ≤ -ρ 26 + ρ 1 + (-1) := f14
  have f15 : (0 : Int) ≤ -ρ 23 + ρ 1 := f15
  have f16 : (0 : Int) ≤ -ρ 31 + (ρ 30 + (-ρ 26 + ρ 17)) := f16
  have f17 : (0 : Int) ≤ -ρ 32 + (ρ 30 + (-ρ 26 + ρ 18)) := f17
  have f18 : (0 : Int) ≤ -ρ 16 + ρ 1 := f18
  have f19 : (0 : Int) ≤ ρ 26 + -ρ 16 := f19
  have f20 : (0 : Int) ≤ ρ 20 + -ρ 5 := f20
  have f21 : (0 : Int) ≤ -ρ 18 + (ρ 16 + -ρ 1) + 12288 := f21
  have f22 : (0 : Int) ≤ -ρ 17 + (ρ 16 + -ρ 1) + 12288 := f22
  have f23 : (0 : Int) ≤ -ρ 18 + (ρ 16 + (ρ 3 + -ρ 0)) := f23
  have f24 : (0 : Int) ≤ -ρ 17 + (ρ 16 + (ρ 2 + -ρ 0)) := f24
  have f25 : (0 : Int) ≤ ρ 25 + -ρ 9 := f25
  have f26 : (0 : Int) ≤ ρ 19 + -ρ 4 := f26
  have f27 : (0 : Int) ≤ ρ 18 + -ρ 3 := f27
  have f28 : (0 : Int) ≤ ρ 17 + -ρ 2 := f28
  have f29 : (0 : Int) ≤ ρ 16 + -ρ 0 := f29
  have f30 : (0 : Int) ≤ 4 * ρ 9 + -ρ 4 + 6 := f30
  have f31 : (0 : Int) ≤ ρ 1 + -ρ 0 := f31
  have f32 : (0 : Int) ≤ -ρ 3 + (-ρ 1 + ρ 0) + 12288 := f32
  have f33 : (0 : Int) ≤ -ρ 2 + (-ρ 1 + ρ 0) + 12288 := f33
  obtain ⟨m0, m1, m2, m3, m4, m5, m6, m7, m8, m9, m10, m11, m12, m13, m14, m15, m16, m17, m18, m19, m20, m21, m22, m23, m24, m25, m26, m27, m28, m29, m30, m31, m32, m33, m34, m35, m36, m37, m38, m39, m40, m41, m42, m43, -⟩ := hm
  have m0 : γ 0 15 0 35 = ρ 0 := m0
  have m1 : γ 0 15 0 34 = ρ 1 := m1
  have m2 : γ 0 15 0 8 = ρ 2 := m2
  have m3 : γ 0 15 0 9 = ρ 3 := m3
  have m4 : γ 0 15 0 58 = ρ 4 := m4
  have m5 : γ 0 15 0 14 = ρ 5 := m5
  have m6 : γ 0 15 0 32 = ρ 6 := m6
  have m7 : γ 0 15 0 33 = ρ 7 := m7
  have m8 : γ 0 15 0 44 = ρ 8 := m8
  have m9 : γ 0 73 0 (ρ 8) = ρ 9 := m9
  have m10 : γ 0 15 0 36 = ρ 10 := m10
  have m11 : γ 0 15 0 37 = ρ 11 := m11
  have m12 : γ 0 15 0 38 = ρ 12 := m12
  have m13 : γ 0 15 0 40 = ρ 13 := m13
  have m14 : γ 0 15 0 45 = ρ 14 := m14
  have m15 : γ 1 15 0 35 = ρ 16 := m15
  have m16 : γ 1 15 0 8 = ρ 17 := m16
  have m17 : γ 1 15 0 9 = ρ 18 := m17
  have m18 : γ 1 15 0 58 = ρ 19 := m18
  have m19 : γ 1 15 0 14 = ρ 20 := m19
  have m20 : γ 1 15 0 36 = ρ 10 := m20
  have m21 : γ 1 15 0 37 = ρ 21 := m21
  have m22 : γ 1 15 0 38 = ρ 22 := m22
  have m23 : γ 1 15 0 40 = ρ 23 := m23
  have m24 : γ 1 15 0 45 = ρ 24 := m24
  have m25 : γ 1 73 0 (ρ 8) = ρ 25 := m25
  have m26 : γ 2 15 0 35 = ρ 26 := m26
  have m27 : γ 1 77 0 (ρ 25 + 8 * ρ 8) = ρ 27 := m27
  have m28 : γ 1 81 0 (4 * ρ 25 + 32 * ρ 8) = ρ 28 := m28
  have m29 : γ 1 78 0 (ρ 25 + 8 * ρ 8) = ρ 29 := m29
  have m30 : γ 3 15 0 35 = ρ 30 := m30
  have m31 : γ 3 15 0 8 = ρ 31 := m31
  have m32 : γ 3 15 0 9 = ρ 32 := m32
  have m33 : γ 3 15 0 58 = ρ 19 := m33
  have m34 : γ 3 15 0 14 = ρ 20 := m34
  have m35 : γ 3 77 0 (ρ 25 + 8 * ρ 8) = ρ 33 := m35
  have m36 : γ 3 81 0 (4 * ρ 25 + 32 * ρ 8) = ρ 34 := m36
  have m37 : γ 3 78 0 (ρ 25 + 8 * ρ 8) = ρ 29 := m37
  have m38 : γ 3 15 0 36 = ρ 10 := m38
  have m39 : γ 3 15 0 37 = ρ 35 := m39
  have m40 : γ 3 15 0 38 = ρ 36 := m40
  have m41 : γ 3 15 0 40 = ρ 37 := m41
  have m42 : γ 3 15 0 45 = ρ 38 := m42
  have m43 : γ 5 15 0 35 = ρ 39 := m43
  obtain ⟨⟨⟨⟨⟨⟨-, c1⟩, c2⟩, c3⟩, c4⟩, c5⟩, c6⟩ := hc
  have c1 : ∀ (G : Nat) (k j : Int), ¬ rMdP m27_ G j → γ 1 G k j = γ 0 G k j := c1
  have c2 : ∀ (G : Nat) (k j : Int), ¬ rMdP m6_ G j → γ 2 G k j = γ 1 G k j := c2
  have c3 : ∀ (G : Nat) (k j : Int), ¬ rMdP m25_ G j → γ 3 G k j = γ 2 G k j := c3
  have c4 : γ 4 = rUp (γ 3) 73 0 (ρ 8) (ρ 25 + 1) := c4
  have c5 : ∀ (G : Nat) (k j : Int), ¬ rMdP m6_ G j → γ 5 G k j = γ 4 G k j := c5
  have c6 : ∀ (G : Nat) (k j : Int), ¬ rMdP m0_ G j → γ 6 G k j = γ 5 G k j := c6
  obtain ⟨l0, l1, l2, l3, l4, -⟩ := hl
  have l0 : sn7 [ρ 16, ρ 1] (γ 1) 0 0 (γ 2) := hS7 _ _ _ _ _ l0
  have l1 : sn42 [ρ 26, ρ 1, ρ 17, ρ 18, ρ 19, ρ 20, ρ 6, ρ 7, ρ 8, ρ 25, ρ 27, ρ 28, ρ 29, ρ 10, ρ 21, ρ 22, ρ 23, ρ 24] (γ 2) 0 1 (γ 3) := hS42 _ _ _ _ _ l1
  have l2 : sn7 [ρ 30, ρ 1] (γ 4) 0 0 (γ 5) := hS7 _ _ _ _ _ l2
  have l3 : sn6 [ρ 39, ρ 1] (γ 5) 0 (ρ 40) (γ 6) := hS6 _ _ _ _ _ l3
  have l4 : ρ 40 ≠ 44 := l4
  show jn43 [ρ 0, ρ 1, ρ 2, ρ 3, ρ 4, ρ 5, ρ 6, ρ 7, ρ 8, ρ 9, ρ 10, ρ 11, ρ 12, ρ 13, ρ 14] (γ 0) 0 [ρ 0, ρ 1, ρ 2, ρ 3, ρ 4, ρ 5, ρ 6, ρ 7, ρ 8, ρ 9, ρ 10, ρ 11, ρ 12, ρ 13, ρ 14, 0, ρ 39, ρ 31, ρ 32, ρ 19, ρ 20, ρ 35, ρ 36, ρ 37, ρ 38, ρ 25 + 1] (γ 6)
  have hD : en43 (γ 0) (0, [ρ 15], γ 1) = .inl (0, [0], γ 6) := by
    unfold en43
    refine (if_pos (show (0 : Nat) = 0 by decide)).trans ?_
    refine (zLet_eq (show _ = γ 1 from rfl)).trans ?_
    refine (zLet_eq (show _ = ρ 15 from rfl)).trans ?_
    refine (zLet_eq m1).trans ?_
    refine (zLet_eq m8).trans ?_
    refine (zLet_eq m25).trans ?_
    refine (if_neg (show ¬ (ρ 15 = 0) by omega)).trans ?_
    refine (zLet_eq (show fn7 [] (γ 1) = (0, 0, γ 2) from l0.symm)).trans ?_
    refine (zLet_eq (show _ = γ 2 from rfl)).trans ?_
    refine (zLet_eq m26).trans ?_
    refine (if_pos (show ρ 25 ≠ 8 by omega)).trans ?_
    refine (zLet_eq (show fn42 [] (γ 2) = (0, 1, γ 3) from l1.symm)).trans ?_
    refine (zLet_eq (show _ = γ 3 from rfl)).trans ?_
    refine (if_pos (show (1 : Int) ≤ 1 by omega)).trans ?_
    refine (if_pos (show 2 ≤ γ 3 77 0 (ρ 25 + 8 * ρ 8) by omega)).trans ?_
    refine (if_pos (show 5 ≤ γ 3 77 0 (ρ 25 + 8 * ρ 8) by omega)).trans ?_
    refine (zLet_eq c4.symm).trans ?_
    refine (zLet_eq (show fn7 [] (γ 4) = (0, 0, γ 5) from l2.symm)).trans ?_
    refine (zLet_eq (show _ = γ 5 from rfl)).trans ?_
    refine (zLet_eq m43).trans ?_
    refine (zLet_eq (show fn6 [ρ 39] (γ 5) = (0, ρ 40, γ 6) from l3.symm)).trans ?_
    refine (zLet_eq (show _ = γ 6 from rfl)).trans ?_
    refine (if_pos (show 0 ≤ -ρ 39 + ρ 1 + (-1) by omega)).trans ?_
    refine (zLet_eq (show _ = ρ 40 from rfl)).trans ?_
    refine (if_pos (show ρ 40 ≠ 44 by omega)).trans ?_
    rfl
  exact zGoo_ato hJ hD
theorem vn43a0_9 {S : Nat → zSpc} (hS6 : ∀ x g o v gz, S 6 x g o v gz → sn6 x g o v gz) (hS7 : ∀ x g o v gz, S 7 x g o v gz → sn7 x g o v gz) (hS8 : ∀ x g o v gz, S 8 x g o v gz → sn8 x g o v gz) (hS42 : ∀ x g o v gz, S 42 x g o v gz → sn42 x g o v gz) {a : List Int} {g : rHp} : ∀ (ρ : Nat → Int) (γ : Nat → rHp), jn43 a g 0 (zAg (zNA a43_ 0) ρ) (γ 1) → zO 15 S a g q43a0_9 ρ γ → zGl (fun i vs g1 => jn43 a g i vs g1) (sn43 a g) q43a0_9 ρ γ := by
  intro ρ γ hJ h
  obtain ⟨ha, hg, hr, hf, hm, hc, hl⟩ := h
  have ha : a = [ρ 0, ρ 1, ρ 2, ρ 3, ρ 4, ρ 5, ρ 6, ρ 7, ρ 8, ρ 9, ρ 10, ρ 11, ρ 12, ρ 13, ρ 14] := ha
  subst ha
  subst hg
  have hJ : jn43 [ρ 0, ρ 1, ρ 2, ρ 3, ρ 4, ρ 5, ρ 6, ρ 7, ρ 8, ρ 9, ρ 10, ρ 11, ρ 12, ρ 13, ρ 14] (γ 0) 0 [ρ 0, ρ 1, ρ 2, ρ 3, ρ 4, ρ 5, ρ 6, ρ 7, ρ 8, ρ 9, ρ 10, ρ 11, ρ 12, ρ 13, ρ 14, ρ 15, ρ 16, ρ 17, ρ 18, ρ 19, ρ 20, ρ 21, ρ 22, ρ 23, ρ 24, ρ 25] (γ 1) := hJ
  obtain ⟨r0, r1, r2, r3, r4, r5, r6, r7, r8, r9, r10, r11, r12, r13, r14, r15, r16, r17, r18, r19, r20, r21, r22, r23, r24, r25, r26, r27, r28, r29, r30, r31, r32, r33, r34, r35, r36, r37, r38, r39, r40, -⟩ := hr
  have r0 : (0 : Int) ≤ ρ 0 ∧ ρ 0 ≤ 2000 := r0
  have r1 : (0 : Int) ≤ ρ 1 ∧ ρ 1 ≤ 2000 := r1
  have r2 : (0 : Int) ≤ ρ 2 ∧ ρ 2 ≤ 12288 := r2
  have r3 : (0 : Int) ≤ ρ 3 ∧ ρ 3 ≤ 12288 := r3
  have r4 : (0 : Int) ≤ ρ 4 ∧ ρ 4 ≤ 64 := r4
  have r5 : (0 : Int) ≤ ρ 5 ∧ ρ 5 ≤ 20 := r5
  have r6 : (0 : Int) ≤ ρ 6 ∧ ρ 6 ≤ 60 := r6
  have r7 : (0 : Int) ≤ ρ 7 ∧ ρ 7 ≤ 60 := r7
  have r8 : (0 : Int) ≤ ρ 8 ∧ ρ 8 ≤ 61 := r8
  have r9 : (0 : Int) ≤ ρ 9 ∧ ρ 9 ≤ 8 := r9
  have r10 : (0 : Int) ≤ ρ 10 ∧ ρ 10 ≤ 2000 := r10
  have r11 : (0 : Int) ≤ ρ 11 ∧ ρ 11 ≤ 2000 := r11
  have r12 : (0 : Int) ≤ ρ 12 ∧ ρ 12 ≤ 2000 := r12
  have r13 : (0 : Int) ≤ ρ 13 ∧ ρ 13 ≤ 3 := r13
  have r14 : ((-2147483648) : Int) ≤ ρ 14 ∧ ρ 14 ≤ 2147483647 := r14
  have r15 : (1 : Int) ≤ ρ 15 ∧ ρ 15 ≤ 1 := r15
  have r16 : (0 : Int) ≤ ρ 16 ∧ ρ 16 ≤ 2000 := r16
  have r17 : (0 : Int) ≤ ρ 17 ∧ ρ 17 ≤ 12288 := r17
  have r18 : (0 : Int) ≤ ρ 18 ∧ ρ 18 ≤ 12288 := r18
  have r19 : (0 : Int) ≤ ρ 19 ∧ ρ 19 ≤ 43 := r19
  have r20 : (0 : Int) ≤ ρ 20 ∧ ρ 20 ≤ 20 := r20
  have r21 : (0 : Int) ≤ ρ 21 ∧ ρ 21 ≤ 2000 := r21
  have r22 : (0 : Int) ≤ ρ 22 ∧ ρ 22 ≤ 2000 := r22
  have r23 : (0 : Int) ≤ ρ 23 ∧ ρ 23 ≤ 3 := r23
  have r24 : ((-2147483648) : Int) ≤ ρ 24 ∧ ρ 24 ≤ 2147483647 := r24
  have r25 : (0 : Int) ≤ ρ 25 ∧ ρ 25 ≤ 7 := r25
  have r26 : (0 : Int) ≤ ρ 26 ∧ ρ 26 ≤ 2000 := r26
  have r27 : (0 : Int) ≤ ρ 27 ∧ ρ 27 ≤ 7 := r27
  have r28 : ((-2147483648) : Int) ≤ ρ 28 ∧ ρ 28 ≤ 1099511640064 := r28
  have r29 : (0 : Int) ≤ ρ 29 ∧ ρ 29 ≤ 19 := r29
  have r30 : (5 : Int) ≤ ρ 30 ∧ ρ 30 ≤ 2000 := r30
  have r31 : (0 : Int) ≤ ρ 31 ∧ ρ 31 ≤ 12288 := r31
  have r32 : (0 : Int) ≤ ρ 32 ∧ ρ 32 ≤ 12288 := r32
  have r33 : (5 : Int) ≤ ρ 33 ∧ ρ 33 ≤ 7 := r33
  have r34 : (0 : Int) ≤ ρ 34 ∧ ρ 34 ≤ 7 := r34
  have r35 : (0 : Int) ≤ ρ 35 ∧ ρ 35 ≤ 2000 := r35
  have r36 : (0 : Int) ≤ ρ 36 ∧ ρ 36 ≤ 2000 := r36
  have r37 : (0 : Int) ≤ ρ 37 ∧ ρ 37 ≤ 2 := r37
  have r38 : ((-2147483648) : Int) ≤ ρ 38 ∧ ρ 38 ≤ 2147483647 := r38
  have r39 : (0 : Int) ≤ ρ 39 ∧ ρ 39 ≤ 2000 := r39
  have r40 : (44 : Int) ≤ ρ 40 ∧ ρ 40 ≤ 44 := r40
  obtain ⟨f0, f1, f2, f3, f4, f5, f6, f7, f8, f9, f10, f11, f12, f13, f14, f15, f16, f17, f18, f19, f20, f21, f22, f23, f24, f25, f26, f27, f28, f29, f30, f31, f32, f33, -⟩ := hf
  have f0 : (0 : Int) ≤ -ρ 39 + ρ 1 + (-1) := f0
  have f1 : (0 : Int) ≤ -ρ 30 + ρ 1 := f1
  have f2 : (0 : Int) ≤ ρ 39 + -ρ 30 := f2
  have f3 : (0 : Int) ≤ -ρ 39 + ρ 1 := f3
  have f4 : (0 : Int) ≤ ρ 26 + (-ρ 17 + -ρ 1) + 12288 := f4
  have f5 : (0 : Int) ≤ ρ 26 + (-ρ 18 + -ρ 1) + 12288 := f5
  have f6 : (0 : Int) ≤ -ρ 26 + ρ 1 := f6
  have f7 : (0 : Int) ≤ 4 * ρ 25 + -ρ 19 + 6 := f7
  have f8 : (0 : Int) ≤ ρ 8 + (-ρ 7 + -ρ 6) := f8
  have f9 : (0 : Int) ≤ -ρ 8 + (ρ 7 + ρ 6) := f9
  have f10 : (0 : Int) ≤ ρ 30 + -ρ 26 + (-1) := f10
  have f11 : (0 : Int) ≤ ρ 31 + -ρ 17 := f11
  have f12 : (0 : Int) ≤ ρ 32 + -ρ 18 := f12
  have f13 : (0 : Int) ≤ -ρ 37 + ρ 1 + (-1) := f13
  have f14 : (0 : Int) ≤ -ρ 26 + ρ 1 + (-1) := f14
  have f15 : (0 : Int) ≤ -ρ 23 + ρ 1 := f15
  have f16 : (0 : Int) ≤ -ρ 31 + (ρ 30 + (-ρ 26 + ρ 17)) := f16
  have f17 : (0 : Int) ≤ -ρ 32 + (ρ 30 + (-ρ 26 + ρ 18)) := f17
  have f18 : (0 : Int) ≤ -ρ 16 + ρ 1 := f18
  have f19 : (0 : Int) ≤ ρ 26 + -ρ 16 := f19
  have f20 : (0 : Int) ≤ ρ 20 + -ρ 5 := f20
  have f21 : (0 : Int) ≤ -ρ 18 + (ρ 16 + -ρ 1) + 12288 := f21
  have f22 : (0 : Int) ≤ -ρ 17 + (ρ 16 + -ρ 1) + 12288 := f22
  have f23 : (0 : Int) ≤ -ρ 18 + (ρ 16 + (ρ 3 + -ρ 0)) := f23
  have f24 : (0 : Int) ≤ -ρ 17 + (ρ 16 + (ρ 2 + -ρ 0)) := f24
  have f25 : (0 : Int) ≤ ρ 25 + -ρ 9 := f25
  have f26 : (0 : Int) ≤ ρ 19 + -ρ 4 := f26
  have f27 : (0 : Int) ≤ ρ 18 + -ρ 3 := f27
  have f28 : (0 : Int) ≤ ρ 17 + -ρ 2 := f28
  have f29 : (0 : Int) ≤ ρ 16 + -ρ 0 := f29
  have f30 : (0 : Int) ≤ 4 * ρ 9 + -ρ 4 + 6 := f30
  have f31 : (0 : Int) ≤ ρ 1 + -ρ 0 := f31
  have f32 : (0 : Int) ≤ -ρ 3 + (-ρ 1 + ρ 0) + 12288 := f32
  have f33 : (0 : Int) ≤ -ρ 2 + (-ρ 1 + ρ 0) + 12288 := f33
  obtain ⟨m0, m1, m2, m3, m4, m5, m6, m7, m8, m9, m10, m11, m12, m13, m14, m15, m16, m17, m18, m19, m20, m21, m22, m23, m24, m25, m26, m27, m28, m29, m30, m31, m32, m33, m34, m35, m36, m37, m38, m39, m40, m41, m42, m43, -⟩ := hm
  have m0 : γ 0 15 0 35 = ρ 0 := m0
  have m1 : γ 0 15 0 34 = ρ 1 := m1
  have m2 : γ 0 15 0 8 = ρ 2 := m2
  have m3 : γ 0 15 0 9 = ρ 3 := m3
  have m4 : γ 0 15 0 58 = ρ 4 := m4
  have m5 : γ 0 15 0 14 = ρ 5 := m5
  have m6 : γ 0 15 0 32 = ρ 6 := m6
  have m7 : γ 0 15 0 33 = ρ 7 := m7
  have m8 : γ 0 15 0 44 = ρ 8 := m8
  have m9 : γ 0 73 0 (ρ 8) = ρ 9 := m9
  have m10 : γ 0 15 0 36 = ρ 10 := m10
  have m11 : γ 0 15 0 37 = ρ 11 := m11
  have m12 : γ 0 15 0 38 = ρ 12 := m12
  have m13 : γ 0 15 0 40 = ρ 13 := m13
  have m14 : γ 0 15 0 45 = ρ 14 := m14
  have m15 : γ 1 15 0 35 = ρ 16 := m15
  have m16 : γ 1 15 0 8 = ρ 17 := m16
  have m17 : γ 1 15 0 9 = ρ 18 := m17
  have m18 : γ 1 15 0 58 = ρ 19 := m18
  have m19 : γ 1 15 0 14 = ρ 20 := m19
  have m20 : γ 1 15 0 36 = ρ 10 := m20
  have m21 : γ 1 15 0 37 = ρ 21 := m21
  have m22 : γ 1 15 0 38 = ρ 22 := m22
  have m23 : γ 1 15 0 40 = ρ 23 := m23
  have m24 : γ 1 15 0 45 = ρ 24 := m24
  have m25 : γ 1 73 0 (ρ 8) = ρ 25 := m25
  have m26 : γ 2 15 0 35 = ρ 26 := m26
  have m27 : γ 1 77 0 (ρ 25 + 8 * ρ 8) = ρ 27 := m27
  have m28 : γ 1 81 0 (4 * ρ 25 + 32 * ρ 8) = ρ 28 := m28
  have m29 : γ 1 78 0 (ρ 25 + 8 * ρ 8) = ρ 29 := m29
  have m30 : γ 3 15 0 35 = ρ 30 := m30
  have m31 : γ 3 15 0 8 = ρ 31 := m31
  have m32 : γ 3 15 0 9 = ρ 32 := m32
  have m33 : γ 3 15 0 58 = ρ 19 := m33
  have m34 : γ 3 15 0 14 = ρ 20 := m34
  have m35 : γ 3 77 0 (ρ 25 + 8 * ρ 8) = ρ 33 := m35
  have m36 : γ 3 81 0 (4 * ρ 25 + 32 * ρ 8) = ρ 34 := m36
  have m37 : γ 3 78 0 (ρ 25 + 8 * ρ 8) = ρ 29 := m37
  have m38 : γ 3 15 0 36 = ρ 10 := m38
  have m39 : γ 3 15 0 37 = ρ 35 := m39
  have m40 : γ 3 15 0 38 = ρ 36 := m40
  have m41 : γ 3 15 0 40 = ρ 37 := m41
  have m42 : γ 3 15 0 45 = ρ 38 := m42
  have m43 : γ 5 15 0 35 = ρ 39 := m43
  obtain ⟨⟨⟨⟨⟨⟨⟨-, c1⟩, c2⟩, c3⟩, c4⟩, c5⟩, c6⟩, c7⟩ := hc
  have c1 : ∀ (G : Nat) (k j : Int), ¬ rMdP m27_ G j → γ 1 G k j = γ 0 G k j := c1
  have c2 : ∀ (G : Nat) (k j : Int), ¬ rMdP m6_ G j → γ 2 G k j = γ 1 G k j := c2
  have c3 : ∀ (G : Nat) (k j : Int), ¬ rMdP m25_ G j → γ 3 G k j = γ 2 G k j := c3
  have c4 : γ 4 = rUp (γ 3) 73 0 (ρ 8) (ρ 25 + 1) := c4
  have c5 : ∀ (G : Nat) (k j : Int), ¬ rMdP m6_ G j → γ 5 G k j = γ 4 G k j := c5
  have c6 : ∀ (G : Nat) (k j : Int), ¬ rMdP m0_ G j → γ 6 G k j = γ 5 G k j := c6
  have c7 : γ 7 = rUp (γ 6) 15 0 35 (ρ 39 + 1) := c7
  obtain ⟨l0, l1, l2, l3, -⟩ := hl
  have l0 : sn7 [ρ 16, ρ 1] (γ 1) 0 0 (γ 2) := hS7 _ _ _ _ _ l0
  have l1 : sn42 [ρ 26, ρ 1, ρ 17, ρ 18, ρ 19, ρ 20, ρ 6, ρ 7, ρ 8, ρ 25, ρ 27, ρ 28, ρ 29, ρ 10, ρ 21, ρ 22, ρ 23, ρ 24] (γ 2) 0 1 (γ 3) := hS42 _ _ _ _ _ l1
  have l2 : sn7 [ρ 30, ρ 1] (γ 4) 0 0 (γ 5) := hS7 _ _ _ _ _ l2
  have l3 : sn6 [ρ 39, ρ 1] (γ 5) 0 (ρ 40) (γ 6) := hS6 _ _ _ _ _ l3
  show jn43 [ρ 0, ρ 1, ρ 2, ρ 3, ρ 4, ρ 5, ρ 6, ρ 7, ρ 8, ρ 9, ρ 10, ρ 11, ρ 12, ρ 13, ρ 14] (γ 0) 0 [ρ 0, ρ 1, ρ 2, ρ 3, ρ 4, ρ 5, ρ 6, ρ 7, ρ 8, ρ 9, ρ 10, ρ 11, ρ 12, ρ 13, ρ 14, 1, ρ 39 + 1, ρ 31, ρ 32, ρ 19, ρ 20, ρ 35, ρ 36, ρ 37, ρ 38, ρ 25 + 1] (γ 7)
  have hD : en43 (γ 0) (0, [ρ 15], γ 1) = .inl (0, [1], γ 7) := by
    unfold en43
    refine (if_pos (show (0 : Nat) = 0 by decide)).trans ?_
    refine (zLet_eq (show _ = γ 1 from rfl)).trans ?_
    refine (zLet_eq (show _ = ρ 15 from rfl)).trans ?_
    refine (zLet_eq m1).trans ?_
    refine (zLet_eq m8).trans ?_
    refine (zLet_eq m25).trans ?_
    refine (if_neg (show ¬ (ρ 15 = 0) by omega)).trans ?_
    refine (zLet_eq (show fn7 [] (γ 1) = (0, 0, γ 2) from l0.symm)).trans ?_
    refine (zLet_eq (show _ = γ 2 from rfl)).trans ?_
    refine (zLet_eq m26).trans ?_
    refine (if_pos (show ρ 25 ≠ 8 by omega)).trans ?_
    refine (zLet_eq (show fn42 [] (γ 2) = (0, 1, γ 3) from l1.symm)).trans ?_
    refine (zLet_eq (show _ = γ 3 from rfl)).trans ?_
    refine (if_pos (show (1 : Int) ≤ 1 by omega)).trans ?_
    refine (if_pos (show 2 ≤ γ 3 77 0 (ρ 25 + 8 * ρ 8) by omega)).trans ?_
    refine (if_pos (show 5 ≤ γ 3 77 0 (ρ 25 + 8 * ρ 8) by omega)).trans ?_
    refine (zLet_eq c4.symm).trans ?_
    refine (zLet_eq (show fn7 [] (γ 4) = (0, 0, γ 5) from l2.symm)).trans ?_
    refine (zLet_eq (show _ = γ 5 from rfl)).trans ?_
    refine (zLet_eq m43).trans ?_
    refine (zLet_eq (show fn6 [ρ 39] (γ 5) = (0, ρ 40, γ 6) from l3.symm)).trans ?_
    refine (zLet_eq (show _ = γ 6 from rfl)).trans ?_
    refine (if_pos (show 0 ≤ -ρ 39 + ρ 1 + (-1) by omega)).trans ?_
    refine (zLet_eq (show _ = ρ 40 from rfl)).trans ?_
    refine (if_neg (show ¬ (ρ 40 ≠ 44) by omega)).trans ?_
    refine (zLet_eq c7.symm).trans ?_
    rfl
  exact zGoo_ato hJ hD
theorem vn43a0_10 {S : Nat → zSpc} (hS6 : ∀ x g o v gz, S 6 x g o v gz → sn6 x g o v gz) (hS7 : ∀ x g o v gz, S 7 x g o v gz → sn7 x g o v gz) (hS8 : ∀ x g o v gz, S 8 x g o v gz → sn8 x g o v gz) (hS42 : ∀ x g o v gz, S 42 x g o v gz → sn42 x g o v gz) {a : List Int} {g : rHp} : ∀ (ρ : Nat → Int) (γ : Nat → rHp), jn43 a g 0 (zAg (zNA a43_ 0) ρ) (γ 1) → zO 15 S a g q43a0_10 ρ γ → zGl (fun i vs g1 => jn43 a g i vs g1) (sn43 a g) q43a0_10 ρ γ := by
  intro ρ γ hJ h
  obtain ⟨ha, hg, hr, hf, hm, hc, hl⟩ := h
  have ha : a = [ρ 0, ρ 1, ρ 2, ρ 3, ρ 4, ρ 5, ρ 6, ρ 7, ρ 8, ρ 9, ρ 10, ρ 11, ρ 12, ρ 13, ρ 14] := ha
  subst ha
  subst hg
  have hJ : jn43 [ρ 0, ρ 1, ρ 2, ρ 3, ρ 4, ρ 5, ρ 6, ρ 7, ρ 8, ρ 9, ρ 10, ρ 11, ρ 12, ρ 13, ρ 14] (γ 0) 0 [ρ 0, ρ 1, ρ 2, ρ 3, ρ 4, ρ 5, ρ 6, ρ 7, ρ 8, ρ 9, ρ 10, ρ 11, ρ 12, ρ 13, ρ 14, ρ 15, ρ 16, ρ 17, ρ 18, ρ 19, ρ 20, ρ 21, ρ 22, ρ 23, ρ 24, ρ 25] (γ 1) := hJ
  obtain ⟨r0, r1, r2, r3, r4, r5, r6, r7, r8, r9, r10, r11, r12, r13, r14, r15, r16, r17, r18, r19, r20, r21, r22, r23, r24, r25, r26, r27, r28, r29, r30, r31, r32, r33, r34, r35, r36, r37, r38, r39, -⟩ := hr
  have r0 : (0 : Int) ≤ ρ 0 ∧ ρ 0 ≤ 2000 := r0
  have r1 : (0 : Int) ≤ ρ 1 ∧ ρ 1 ≤ 2000 := r1
  have r2 : (0 : Int) ≤ ρ 2 ∧ ρ 2 ≤ 12288 := r2
  have r3 : (0 : Int) ≤ ρ 3 ∧ ρ 3 ≤ 12288 := r3
  have r4 : (0 : Int) ≤ ρ 4 ∧ ρ 4 ≤ 64 := r4
  have r5 : (0 : Int) ≤ ρ 5 ∧ ρ 5 ≤ 20 := r5
  have r6 : (0 : Int) ≤ ρ 6 ∧ ρ 6 ≤ 60 := r6
  have r7 : (0 : Int) ≤ ρ 7 ∧ ρ 7 ≤ 60 := r7
  have r8 : (0 : Int) ≤ ρ 8 ∧ ρ 8 ≤ 61 := r8
  have r9 : (0 : Int) ≤ ρ 9 ∧ ρ 9 ≤ 8 := r9
  have r10 : (0 : Int) ≤ ρ 10 ∧ ρ 10 ≤ 2000 := r10
  have r11 : (0 : Int) ≤ ρ 11 ∧ ρ 11 ≤ 2000 := r11
  have r12 : (0 : Int) ≤ ρ 12 ∧ ρ 12 ≤ 2000 := r12
  have r13 : (0 : Int) ≤ ρ 13 ∧ ρ 13 ≤ 3 := r13
  have r14 : ((-2147483648) : Int) ≤ ρ 14 ∧ ρ 14 ≤ 2147483647 := r14
  have r15 : (1 : Int) ≤ ρ 15 ∧ ρ 15 ≤ 1 := r15
  have r16 : (0 : Int) ≤ ρ 16 ∧ ρ 16 ≤ 2000 := r16
  have r17 : (0 : Int) ≤ ρ 17 ∧ ρ 17 ≤ 12288 := r17
  have r18 : (0 : Int) ≤ ρ 18 ∧ ρ 18 ≤ 12288 := r18
  have r19 : (0 : Int) ≤ ρ 19 ∧ ρ 19 ≤ 43 := r19
  have r20 : (0 : Int) ≤ ρ 20 ∧ ρ 20 ≤ 20 := r20
  have r21 : (0 : Int) ≤ ρ 21 ∧ ρ 21 ≤ 2000 := r21
  have r22 : (0 : Int) ≤ ρ 22 ∧ ρ 22 ≤ 2000 := r22
  have r23 : (0 : Int) ≤ ρ 23 ∧ ρ 23 ≤ 3 := r23
  have r24 : ((-2147483648) : Int) ≤ ρ 24 ∧ ρ 24 ≤ 2147483647 := r24
  have r25 : (0 : Int) ≤ ρ 25 ∧ ρ 25 ≤ 7 := r25
  have r26 : (0 : Int) ≤ ρ 26 ∧ ρ 26 ≤ 2000 := r26
  have r27 : (0 : Int) ≤ ρ 27 ∧ ρ 27 ≤ 7 := r27
  have r28 : ((-2147483648) : Int) ≤ ρ 28 ∧ ρ 28 ≤ 1099511640064 := r28
  have r29 : (0 : Int) ≤ ρ 29 ∧ ρ 29 ≤ 19 := r29
  have r30 : (5 : Int) ≤ ρ 30 ∧ ρ 30 ≤ 2000 := r30
  have r31 : (0 : Int) ≤ ρ 31 ∧ ρ 31 ≤ 12288 := r31
  have r32 : (0 : Int) ≤ ρ 32 ∧ ρ 32 ≤ 12288 := r32
  have r33 : (5 : Int) ≤ ρ 33 ∧ ρ 33 ≤ 7 := r33
  have r34 : (0 : Int) ≤ ρ 34 ∧ ρ 34 ≤ 7 := r34
  have r35 : (0 : Int) ≤ ρ 35 ∧ ρ 35 ≤ 2000 := r35
  have r36 : (0 : Int) ≤ ρ 36 ∧ ρ 36 ≤ 2000 := r36
  have r37 : (0 : Int) ≤ ρ 37 ∧ ρ 37 ≤ 2 := r37
  have r38 : ((-2147483648) : Int) ≤ ρ 38 ∧ ρ 38 ≤ 2147483647 := r38
  have r39 : (0 : Int) ≤ ρ 39 ∧ ρ 39 ≤ 2000 := r39
  obtain ⟨f0, f1, f2, f3, f4, f5, f6, f7, f8, f9, f10, f11, f12, f13, f14, f15, f16, f17, f18, f19, f20, f21, f22, f23, f24, f25, f26, f27, f28, f29, f30, f31, f32, f33, -⟩ := hf
  have f0 : (0 : Int) ≤ ρ 39 + -ρ 1 := f0
  have f1 : (0 : Int) ≤ -ρ 30 + ρ 1 := f1
  have f2 : (0 : Int) ≤ ρ 39 + -ρ 30 := f2
  have f3 : (0 : Int) ≤ -ρ 39 + ρ 1 := f3
  have f4 : (0 : Int) ≤ ρ 26 + (-ρ 17 + -ρ 1) + 12288 := f4
  have f5 : (0 : Int) ≤ ρ 26 + (-ρ 18 + -ρ 1) + 12288 := f5
  have f6 : (0 : Int) ≤ -ρ 26 + ρ 1 := f6
  have f7 : (0 : Int) ≤ 4 * ρ 25 + -ρ 19 + 6 := f7
  have f8 : (0 : Int) ≤ ρ 8 + (-ρ 7 + -ρ 6) := f8
  have f9 : (0 : Int) ≤ -ρ 8 + (ρ 7 + ρ 6) := f9
  have f10 : (0 : Int) ≤ ρ 30 + -ρ 26 + (-1) := f10
  have f11 : (0 : Int) ≤ ρ 31 + -ρ 17 := f11
  have f12 : (0 : Int) ≤ ρ 32 + -ρ 18 := f12
  have f13 : (0 : Int) ≤ -ρ 37 + ρ 1 + (-1) := f13
  have f14 : (0 : Int) ≤ -ρ 26 + ρ 1 + (-1) := f14
  have f15 : (0 : Int) ≤ -ρ 23 + ρ 1 := f15
  have f16 : (0 : Int) ≤ -ρ 31 + (ρ 30 + (-ρ 26 + ρ 17)) := f16
  have f17 : (0 : Int) ≤ -ρ 32 + (ρ 30 + (-ρ 26 + ρ 18)) := f17
  have f18 : (0 : Int) ≤ -ρ 16 + ρ 1 := f18
  have f19 : (0 : Int) ≤ ρ 26 + -ρ 16 := f19
  have f20 : (0 : Int) ≤ ρ 20 + -ρ 5 := f20
  have f21 : (0 : Int) ≤ -ρ 18 + (ρ 16 + -ρ 1) + 12288 := f21
  have f22 : (0 : Int) ≤ -ρ 17 + (ρ 16 + -ρ 1) + 12288 := f22
  have f23 : (0 : Int) ≤ -ρ 18 + (ρ 16 + (ρ 3 + -ρ 0)) := f23
  have f24 : (0 : Int) ≤ -ρ 17 + (ρ 16 + (ρ 2 + -ρ 0)) := f24
  have f25 : (0 : Int) ≤ ρ 25 + -ρ 9 := f25
  have f26 : (0 : Int) ≤ ρ 19 + -ρ 4 := f26
  have f27 : (0 : Int) ≤ ρ 18 + -ρ 3 := f27
  have f28 : (0 : Int) ≤ ρ 17 + -ρ 2 := f28
  have f29 : (0 : Int) ≤ ρ 16 + -ρ 0 := f29
  have f30 : (0 : Int) ≤ 4 * ρ 9 + -ρ 4 + 6 := f30
  have f31 : (0 : Int) ≤ ρ 1 + -ρ 0 := f31
  have f32 : (0 : Int) ≤ -ρ 3 + (-ρ 1 + ρ 0) + 12288 := f32
  have f33 : (0 : Int) ≤ -ρ 2 + (-ρ 1 + ρ 0) + 12288 := f33
  obtain ⟨m0, m1, m2, m3, m4, m5, m6, m7, m8, m9, m10, m11, m12, m13, m14, m15, m16, m17, m18, m19, m20, m21, m22, m23, m24, m25, m26, m27, m28, m29, m30, m31, m32, m33, m34, m35, m36, m37, m38, m39, m40, m41, m42, m43, -⟩ := hm
  have m0 : γ 0 15 0 35 = ρ 0 := m0
  have m1 : γ 0 15 0 34 = ρ 1 := m1
  have m2 : γ 0 15 0 8 = ρ 2 := m2
  have m3 : γ 0 15 0 9 = ρ 3 := m3
  have m4 : γ 0 15 0 58 = ρ 4 := m4
  have m5 : γ 0 15 0 14 = ρ 5 := m5
  have m6 : γ 0 15 0 32 = ρ 6 := m6
  have m7 : γ 0 15 0 33 = ρ 7 := m7
  have m8 : γ 0 15 0 44 = ρ 8 := m8
  have m9 : γ 0 73 0 (ρ 8) = ρ 9 := m9
  have m10 : γ 0 15 0 36 = ρ 10 := m10
  have m11 : γ 0 15 0 37 = ρ 11 := m11
  have m12 : γ 0 15 0 38 = ρ 12 := m12
  have m13 : γ 0 15 0 40 = ρ 13 := m13
  have m14 : γ 0 15 0 45 = ρ 14 := m14
  have m15 : γ 1 15 0 35 = ρ 16 := m15
  have m16 : γ 1 15 0 8 = ρ 17 := m16
  have m17 : γ 1 15 0 9 = ρ 18 := m17
  have m18 : γ 1 15 0 58 = ρ 19 := m18
  have m19 : γ 1 15 0 14 = ρ 20 := m19
  have m20 : γ 1 15 0 36 = ρ 10 := m20
  have m21 : γ 1 15 0 37 = ρ 21 := m21
  have m22 : γ 1 15 0 38 = ρ 22 := m22
  have m23 : γ 1 15 0 40 = ρ 23 := m23
  have m24 : γ 1 15 0 45 = ρ 24 := m24
  have m25 : γ 1 73 0 (ρ 8) = ρ 25 := m25
  have m26 : γ 2 15 0 35 = ρ 26 := m26
  have m27 : γ 1 77 0 (ρ 25 + 8 * ρ 8) = ρ 27 := m27
  have m28 : γ 1 81 0 (4 * ρ 25 + 32 * ρ 8) = ρ 28 := m28
  have m29 : γ 1 78 0 (ρ 25 + 8 * ρ 8) = ρ 29 := m29
  have m30 : γ 3 15 0 35 = ρ 30 := m30
  have m31 : γ 3 15 0 8 = ρ 31 := m31
  have m32 : γ 3 15 0 9 = ρ 32 := m32
  have m33 : γ 3 15 0 58 = ρ 19 := m33
  have m34 : γ 3 15 0 14 = ρ 20 := m34
  have m35 : γ 3 77 0 (ρ 25 + 8 * ρ 8) = ρ 33 := m35
  have m36 : γ 3 81 0 (4 * ρ 25 + 32 * ρ 8) = ρ 34 := m36
  have m37 : γ 3 78 0 (ρ 25 + 8 * ρ 8) = ρ 29 := m37
  have m38 : γ 3 15 0 36 = ρ 10 := m38
  have m39 : γ 3 15 0 37 = ρ 35 := m39
  have m40 : γ 3 15 0 38 = ρ 36 := m40
  have m41 : γ 3 15 0 40 = ρ 37 := m41
  have m42 : γ 3 15 0 45 = ρ 38 := m42
  have m43 : γ 5 15 0 35 = ρ 39 := m43
  obtain ⟨⟨⟨⟨⟨⟨-, c1⟩, c2⟩, c3⟩, c4⟩, c5⟩, c6⟩ := hc
  have c1 : ∀ (G : Nat) (k j : Int), ¬ rMdP m27_ G j → γ 1 G k j = γ 0 G k j := c1
  have c2 : ∀ (G : Nat) (k j : Int), ¬ rMdP m6_ G j → γ 2 G k j = γ 1 G k j := c2
  have c3 : ∀ (G : Nat) (k j : Int), ¬ rMdP m25_ G j → γ 3 G k j = γ 2 G k j := c3
  have c4 : γ 4 = rUp (γ 3) 73 0 (ρ 8) (ρ 25 + 1) := c4
  have c5 : ∀ (G : Nat) (k j : Int), ¬ rMdP m6_ G j → γ 5 G k j = γ 4 G k j := c5
  have c6 : ∀ (G : Nat) (k j : Int), ¬ rMdP m0_ G j → γ 6 G k j = γ 5 G k j := c6
  obtain ⟨l0, l1, l2, l3, -⟩ := hl
  have l0 : sn7 [ρ 16, ρ 1] (γ 1) 0 0 (γ 2) := hS7 _ _ _ _ _ l0
  have l1 : sn42 [ρ 26, ρ 1, ρ 17, ρ 18, ρ 19, ρ 20, ρ 6, ρ 7, ρ 8, ρ 25, ρ 27, ρ 28, ρ 29, ρ 10, ρ 21, ρ 22, ρ 23, ρ 24] (γ 2) 0 1 (γ 3) := hS42 _ _ _ _ _ l1
  have l2 : sn7 [ρ 30, ρ 1] (γ 4) 0 0 (γ 5) := hS7 _ _ _ _ _ l2
  have l3 : sn6 [ρ 39, ρ 1] (γ 5) 0 (-1) (γ 6) := hS6 _ _ _ _ _ l3
  show jn43 [ρ 0, ρ 1, ρ 2, ρ 3, ρ 4, ρ 5, ρ 6, ρ 7, ρ 8, ρ 9, ρ 10, ρ 11, ρ 12, ρ 13, ρ 14] (γ 0) 0 [ρ 0, ρ 1, ρ 2, ρ 3, ρ 4, ρ 5, ρ 6, ρ 7, ρ 8, ρ 9, ρ 10, ρ 11, ρ 12, ρ 13, ρ 14, 0, ρ 39, ρ 31, ρ 32, ρ 19, ρ 20, ρ 35, ρ 36, ρ 37, ρ 38, ρ 25 + 1] (γ 6)
  have hD : en43 (γ 0) (0, [ρ 15], γ 1) = .inl (0, [0], γ 6) := by
    unfold en43
    refine (if_pos (show (0 : Nat) = 0 by decide)).trans ?_
    refine (zLet_eq (show _ = γ 1 from rfl)).trans ?_
    refine (zLet_eq (show _ = ρ 15 from rfl)).trans ?_
    refine (zLet_eq m1).trans ?_
    refine (zLet_eq m8).trans ?_
    refine (zLet_eq m25).trans ?_
    refine (if_neg (show ¬ (ρ 15 = 0) by omega)).trans ?_
    refine (zLet_eq (show fn7 [] (γ 1) = (0, 0, γ 2) from l0.symm)).trans ?_
    refine (zLet_eq (show _ = γ 2 from rfl)).trans ?_
    refine (zLet_eq m26).trans ?_
    refine (if_pos (show ρ 25 ≠ 8 by omega)).trans ?_
    refine (zLet_eq (show fn42 [] (γ 2) = (0, 1, γ 3) from l1.symm)).trans ?_
    refine (zLet_eq (show _ = γ 3 from rfl)).trans ?_
    refine (if_pos (show (1 : Int) ≤ 1 by omega)).trans ?_
    refine (if_pos (show 2 ≤ γ 3 77 0 (ρ 25 + 8 * ρ 8) by omega)).trans ?_
    refine (if_pos (show 5 ≤ γ 3 77 0 (ρ 25 + 8 * ρ 8) by omega)).trans ?_
    refine (zLet_eq c4.symm).trans ?_
    refine (zLet_eq (show fn7 [] (γ 4) = (0, 0, γ 5) from l2.symm)).trans ?_
    refine (zLet_eq (show _ = γ 5 from rfl)).trans ?_
    refine (zLet_eq m43).trans ?_
    refine (zLet_eq (show fn6 [ρ 39] (γ 5) = (0, (-1), γ 6) from l3.symm)).trans ?_
    refine (zLet_eq (show _ = γ 6 from rfl)).trans ?_
    refine (if_neg (show ¬ (0 ≤ -ρ 39 + ρ 1 + (-1)) by omega)).trans ?_
    rfl
  exact zGoo_ato hJ hD
theorem vn43a0_11 {S : Nat → zSpc} (hS6 : ∀ x g o v gz, S 6 x g o v gz → sn6 x g o v gz) (hS7 : ∀ x g o v gz, S 7 x g o v gz → sn7 x g o v gz) (hS8 : ∀ x g o v gz, S 8 x g o v gz → sn8 x g o v gz) (hS42 : ∀ x g o v gz, S 42 x g o v gz → sn42 x g o v gz) {a : List Int} {g : rHp} : ∀ (ρ : Nat → Int) (γ : Nat → rHp), jn43 a g 0 (zAg (zNA a43_ 0) ρ) (γ 1) → zO 15 S a g q43a0_11 ρ γ → zGl (fun i vs g1 => jn43 a g i vs g1) (sn43 a g) q43a0_11 ρ γ := by
  intro ρ γ hJ h
  obtain ⟨ha, hg, hr, hf, hm, hc, hl⟩ := h
  have ha : a = [ρ 0, ρ 1, ρ 2, ρ 3, ρ 4, ρ 5, ρ 6, ρ 7, ρ 8, ρ 9, ρ 10, ρ 11, ρ 12, ρ 13, ρ 14] := ha
  subst ha
  subst hg
  have hJ : jn43 [ρ 0, ρ 1, ρ 2, ρ 3, ρ 4, ρ 5, ρ 6, ρ 7, ρ 8, ρ 9, ρ 10, ρ 11, ρ 12, ρ 13, ρ 14] (γ 0) 0 [ρ 0, ρ 1, ρ 2, ρ 3, ρ 4, ρ 5, ρ 6, ρ 7, ρ 8, ρ 9, ρ 10, ρ 11, ρ 12, ρ 13, ρ 14, ρ 15, ρ 16, ρ 17, ρ 18, ρ 19, ρ 20, ρ 21, ρ 22, ρ 23, ρ 24, ρ 25] (γ 1) := hJ
  obtain ⟨-, -, -, -, -, -, -, -, -, -, -, -, -, -, -, r15, -, -, -, -, -, -, -, -, -, r25, -⟩ := hr
  have r15 : (1 : Int) ≤ ρ 15 ∧ ρ 15 ≤ 1 := r15
  have r25 : (8 : Int) ≤ ρ 25 ∧ ρ 25 ≤ 8 := r25
  obtain ⟨w_0, w_1⟩ : (¬ (ρ 15 = 0)) ∧ (¬ (ρ 25 ≠ 8)) := ⟨by omega, by omega⟩
  obtain ⟨-, m1, -, -, -, -, -, -, m8, -, -, -, -, -, -, -, -, -, -, -, -, -, -, -, -, m25, m26, -⟩ := hm
  have m1 : γ 0 15 0 34 = ρ 1 := m1
  have m8 : γ 0 15 0 44 = ρ 8 := m8
  have m25 : γ 1 73 0 (ρ 8) = ρ 25 := m25
  have m26 : γ 2 15 0 35 = ρ 26 := m26
  obtain ⟨l0, l1, -⟩ := hl
  have l0 : sn7 [ρ 16, ρ 1] (γ 1) 0 0 (γ 2) := hS7 _ _ _ _ _ l0
  have l1 : sn8 [ρ 26, ρ 1, ρ 10] (γ 2) 0 0 (γ 3) := hS8 _ _ _ _ _ l1
  show sn43 [ρ 0, ρ 1, ρ 2, ρ 3, ρ 4, ρ 5, ρ 6, ρ 7, ρ 8, ρ 9, ρ 10, ρ 11, ρ 12, ρ 13, ρ 14] (γ 0) 0 0 (γ 3)
  have hD : en43 (γ 0) (0, [ρ 15], γ 1) = .inr (0, 0, γ 3) := by
    unfold en43
    refine (if_pos (show (0 : Nat) = 0 by decide)).trans ?_
    refine (zLet_eq (show _ = γ 1 from rfl)).trans ?_
    refine (zLet_eq (show _ = ρ 15 from rfl)).trans ?_
    refine (zLet_eq m1).trans ?_
    refine (zLet_eq m8).trans ?_
    refine (zLet_eq m25).trans ?_
    refine (if_neg w_0).trans ?_
    refine (zLet_eq (show fn7 [] (γ 1) = (0, 0, γ 2) from l0.symm)).trans ?_
    refine (zLet_eq (show _ = γ 2 from rfl)).trans ?_
    refine (zLet_eq m26).trans ?_
    refine (if_neg w_1).trans ?_
    refine (zLet_eq (show fn8 [ρ 26] (γ 2) = (0, 0, γ 3) from l1.symm)).trans ?_
    refine (zLet_eq (show _ = γ 3 from rfl)).trans ?_
    rfl
  exact zGoo_aend hJ hD
theorem yn43 {S : Nat → zSpc} (hS6 : ∀ x g o v gz, S 6 x g o v gz → sn6 x g o v gz) (hS7 : ∀ x g o v gz, S 7 x g o v gz → sn7 x g o v gz) (hS8 : ∀ x g o v gz, S 8 x g o v gz → sn8 x g o v gz) (hS42 : ∀ x g o v gz, S 42 x g o v gz → sn42 x g o v gz) : ∀ x g o v gz, zSem uW uT w43_.2.2.2.1 w43_.2.2.1.1.length S q43 (fun i => q43a.getD i []) (zNA a43_) x g o v gz → sn43 x g o v gz := by
  intro a g o v gz h
  exact zSem_all (l0 := q43) (las := q43a) (S := S) (J := (fun i vs g1 => jn43 a g i vs g1)) (P := sn43 a g) (fun _ => (show zAll _ [q43_0] from (zAll_c (vn43_0 hS6 hS7 hS8 hS42) zAll_n))) (fun _ => (show zAllI _ 0 [q43a0] from ⟨(show zAll _ [q43a0_0, q43a0_1, q43a0_2, q43a0_3, q43a0_4, q43a0_5, q43a0_6, q43a0_7, q43a0_8, q43a0_9, q43a0_10, q43a0_11] from (zAll_c (vn43a0_0 hS6 hS7 hS8 hS42) (zAll_c (vn43a0_1 hS6 hS7 hS8 hS42) (zAll_c (vn43a0_2 hS6 hS7 hS8 hS42) (zAll_c (vn43a0_3 hS6 hS7 hS8 hS42) (zAll_c (vn43a0_4 hS6 hS7 hS8 hS42) (zAll_c (vn43a0_5 hS6 hS7 hS8 hS42) (zAll_c (vn43a0_6 hS6 hS7 hS8 hS42) (zAll_c (vn43a0_7 hS6 hS7 hS8 hS42) (zAll_c (vn43a0_8 hS6 hS7 hS8 hS42) (zAll_c (vn43a0_9 hS6 hS7 hS8 hS42) (zAll_c (vn43a0_10 hS6 hS7 hS8 hS42) (zAll_c (vn43a0_11 hS6 hS7 hS8 hS42) zAll_n))))))))))))), trivial⟩)) h
theorem vn44_0 {S : Nat → zSpc} (hS33 : ∀ x g o v gz, S 33 x g o v gz → sn33 x g o v gz) {a : List Int} {g : rHp} : ∀ (ρ : Nat → Int) (γ : Nat → rHp), zO 3 S a g q44_0 ρ γ → zGl (fun i vs g1 => jn44 a g i vs g1) (sn44 a g) q44_0 ρ γ := by
  intro ρ γ h
  obtain ⟨ha, hg, hr, hf, hm, hc, hl⟩ := h
  have ha : a = [ρ 0, ρ 1, ρ 2] := ha
  subst ha
  subst hg
  obtain ⟨m0, -, m2, -⟩ := hm
  have m0 : γ 0 15 0 44 = ρ 0 := m0
  have m2 : γ 0 15 0 45 = ρ 2 := m2
  obtain ⟨-, c1⟩ := hc
  have c1 : γ 1 = rUp (γ 0) 75 0 (ρ 0) (ρ 2) := c1
  show jn44 [ρ 0, ρ 1, ρ 2] (γ 0) 0 [ρ 0, ρ 1, ρ 2, 8 * ρ 0] (γ 1)
  have hD : dn44 [] (γ 0) = .inl (0, [8 * ρ 0], γ 1) := by
    unfold dn44
    refine (zLet_eq m0).trans ?_
    refine (zLet_eq m2).trans ?_
    refine (zLet_eq c1.symm).trans ?_
    rfl
  exact zGoo_to hD
theorem vn44a0_0 {S : Nat → zSpc} (hS33 : ∀ x g o v gz, S 33 x g o v gz → sn33 x g o v gz) {a : List Int} {g : rHp} : ∀ (ρ : Nat → Int) (γ : Nat → rHp), jn44 a g 0 (zAg (zNA a44_ 0) ρ) (γ 1) → zO 3 S a g q44a0_0 ρ γ → zGl (fun i vs g1 => jn44 a g i vs g1) (sn44 a g) q44a0_0 ρ γ := by
  intro ρ γ hJ h
  obtain ⟨ha, hg, hr, hf, hm, hc, hl⟩ := h
  have ha : a = [ρ 0, ρ 1, ρ 2] := ha
  subst ha
  subst hg
  have hJ : jn44 [ρ 0, ρ 1, ρ 2] (γ 0) 0 [ρ 0, ρ 1, ρ 2, ρ 3] (γ 1) := hJ
  obtain ⟨f0, -⟩ := hf
  have f0 : (0 : Int) ≤ ρ 3 + (-ρ 1 + (-8) * ρ 0) := f0
  have w_0 : ρ 3 ≥ ρ 1 + 8 * ρ 0 := by omega
  obtain ⟨m0, m1, -⟩ := hm
  have m0 : γ 0 15 0 44 = ρ 0 := m0
  have m1 : γ 0 73 0 (ρ 0) = ρ 1 := m1
  obtain ⟨l0, -⟩ := hl
  have l0 : sn33 [ρ 0, ρ 1] (γ 1) 0 (ρ 1 + 8 * ρ 0) (γ 2) := hS33 _ _ _ _ _ l0
  show sn44 [ρ 0, ρ 1, ρ 2] (γ 0) 0 0 (γ 2)
  have hD : en44 (γ 0) (0, [ρ 3], γ 1) = .inr (0, 0, γ 2) := by
    unfold en44
    refine (if_pos (show (0 : Nat) = 0 by decide)).trans ?_
    refine (zLet_eq (show _ = γ 1 from rfl)).trans ?_
    refine (zLet_eq (show _ = ρ 3 from rfl)).trans ?_
    refine (zLet_eq m0).trans ?_
    refine (zLet_eq m1).trans ?_
    refine (zLet_eq (show fn33 [] (γ 1) = (0, ρ 1 + 8 * ρ 0, γ 2) from l0.symm)).trans ?_
    refine (zLet_eq (show _ = γ 2 from rfl)).trans ?_
    refine (if_pos w_0).trans ?_
    rfl
  exact zGoo_aend hJ hD
theorem vn44a0_1 {S : Nat → zSpc} (hS33 : ∀ x g o v gz, S 33 x g o v gz → sn33 x g o v gz) {a : List Int} {g : rHp} : ∀ (ρ : Nat → Int) (γ : Nat → rHp), jn44 a g 0 (zAg (zNA a44_ 0) ρ) (γ 1) → zO 3 S a g q44a0_1 ρ γ → zGl (fun i vs g1 => jn44 a g i vs g1) (sn44 a g) q44a0_1 ρ γ := by
  intro ρ γ hJ h
  obtain ⟨ha, hg, hr, hf, hm, hc, hl⟩ := h
  have ha : a = [ρ 0, ρ 1, ρ 2] := ha
  subst ha
  subst hg
  have hJ : jn44 [ρ 0, ρ 1, ρ 2] (γ 0) 0 [ρ 0, ρ 1, ρ 2, ρ 3] (γ 1) := hJ
  obtain ⟨f0, -⟩ := hf
  have f0 : (0 : Int) ≤ -ρ 3 + (ρ 1 + 8 * ρ 0) + (-1) := f0
  have w_0 : ¬ (ρ 3 ≥ ρ 1 + 8 * ρ 0) := by omega
  obtain ⟨m0, m1, -⟩ := hm
  have m0 : γ 0 15 0 44 = ρ 0 := m0
  have m1 : γ 0 73 0 (ρ 0) = ρ 1 := m1
  obtain ⟨l0, -⟩ := hl
  have l0 : sn33 [ρ 0, ρ 1] (γ 1) 0 (ρ 1 + 8 * ρ 0) (γ 2) := hS33 _ _ _ _ _ l0
  show jn44 [ρ 0, ρ 1, ρ 2] (γ 0) 1 [ρ 0, ρ 1, ρ 2, 0, ρ 3] (γ 2)
  have hD : en44 (γ 0) (0, [ρ 3], γ 1) = .inl (1, [0, ρ 3], γ 2) := by
    unfold en44
    refine (if_pos (show (0 : Nat) = 0 by decide)).trans ?_
    refine (zLet_eq (show _ = γ 1 from rfl)).trans ?_
    refine (zLet_eq (show _ = ρ 3 from rfl)).trans ?_
    refine (zLet_eq m0).trans ?_
    refine (zLet_eq m1).trans ?_
    refine (zLet_eq (show fn33 [] (γ 1) = (0, ρ 1 + 8 * ρ 0, γ 2) from l0.symm)).trans ?_
    refine (zLet_eq (show _ = γ 2 from rfl)).trans ?_
    refine (if_neg w_0).trans ?_
    rfl
  exact zGoo_ato hJ hD
theorem vn44a1_0 {S : Nat → zSpc} (hS33 : ∀ x g o v gz, S 33 x g o v gz → sn33 x g o v gz) {a : List Int} {g : rHp} : ∀ (ρ : Nat → Int) (γ : Nat → rHp), jn44 a g 1 (zAg (zNA a44_ 1) ρ) (γ 1) → zO 3 S a g q44a1_0 ρ γ → zGl (fun i vs g1 => jn44 a g i vs g1) (sn44 a g) q44a1_0 ρ γ := by
  intro ρ γ hJ h
  obtain ⟨ha, hg, hr, hf, hm, hc, hl⟩ := h
  have ha : a = [ρ 0, ρ 1, ρ 2] := ha
  subst ha
  subst hg
  have hJ : jn44 [ρ 0, ρ 1, ρ 2] (γ 0) 1 [ρ 0, ρ 1, ρ 2, ρ 3, ρ 4] (γ 1) := hJ
  obtain ⟨-, -, -, r3, -⟩ := hr
  have r3 : (4 : Int) ≤ ρ 3 ∧ ρ 3 ≤ 4 := r3
  have w_0 : ρ 3 ≥ 4 := by omega
  show jn44 [ρ 0, ρ 1, ρ 2] (γ 0) 0 [ρ 0, ρ 1, ρ 2, ρ 4 + 1] (γ 1)
  have hD : en44 (γ 0) (1, [ρ 3, ρ 4], γ 1) = .inl (0, [ρ 4 + 1], γ 1) := by
    unfold en44
    refine (if_neg (show ¬ (1 : Nat) = 0 by decide)).trans ?_
    refine (if_pos (show (1 : Nat) = 1 by decide)).trans ?_
    refine (zLet_eq (show _ = γ 1 from rfl)).trans ?_
    refine (zLet_eq (show _ = ρ 3 from rfl)).trans ?_
    refine (zLet_eq (show _ = ρ 4 from rfl)).trans ?_
    refine (if_pos w_0).trans ?_
    rfl
  exact zGoo_ato hJ hD
theorem vn44a1_1 {S : Nat → zSpc} (hS33 : ∀ x g o v gz, S 33 x g o v gz → sn33 x g o v gz) {a : List Int} {g : rHp} : ∀ (ρ : Nat → Int) (γ : Nat → rHp), jn44 a g 1 (zAg (zNA a44_ 1) ρ) (γ 1) → zO 3 S a g q44a1_1 ρ γ → zGl (fun i vs g1 => jn44 a g i vs g1) (sn44 a g) q44a1_1 ρ γ := by
  intro ρ γ hJ h
  obtain ⟨ha, hg, hr, hf, hm, hc, hl⟩ := h
  have ha : a = [ρ 0, ρ 1, ρ 2] := ha
  subst ha
  subst hg
  have hJ : jn44 [ρ 0, ρ 1, ρ 2] (γ 0) 1 [ρ 0, ρ 1, ρ 2, ρ 3, ρ 4] (γ 1) := hJ
  obtain ⟨-, -, -, r3, -, r5, -⟩ := hr
  have r3 : (0 : Int) ≤ ρ 3 ∧ ρ 3 ≤ 3 := r3
  have r5 : (0 : Int) ≤ ρ 5 ∧ ρ 5 ≤ 7 := r5
  have w_0 : ¬ (ρ 3 ≥ 4) := by omega
  obtain ⟨-, -, -, m3, -⟩ := hm
  have m3 : γ 0 77 0 (ρ 4) = ρ 5 := m3
  obtain ⟨l0, -⟩ := hl
  have l0 : ρ 5 ≠ 1 := l0
  have wl_0 : ρ 5 ≠ 1 := by omega
  show jn44 [ρ 0, ρ 1, ρ 2] (γ 0) 0 [ρ 0, ρ 1, ρ 2, ρ 4 + 1] (γ 1)
  have hD : en44 (γ 0) (1, [ρ 3, ρ 4], γ 1) = .inl (0, [ρ 4 + 1], γ 1) := by
    unfold en44
    refine (if_neg (show ¬ (1 : Nat) = 0 by decide)).trans ?_
    refine (if_pos (show (1 : Nat) = 1 by decide)).trans ?_
    refine (zLet_eq (show _ = γ 1 from rfl)).trans ?_
    refine (zLet_eq (show _ = ρ 3 from rfl)).trans ?_
    refine (zLet_eq (show _ = ρ 4 from rfl)).trans ?_
    refine (if_neg w_0).trans ?_
    refine (zLet_eq m3).trans ?_
    refine (if_pos wl_0).trans ?_
    rfl
  exact zGoo_ato hJ hD
theorem vn44a1_2 {S : Nat → zSpc} (hS33 : ∀ x g o v gz, S 33 x g o v gz → sn33 x g o v gz) {a : List Int} {g : rHp} : ∀ (ρ : Nat → Int) (γ : Nat → rHp), jn44 a g 1 (zAg (zNA a44_ 1) ρ) (γ 1) → zO 3 S a g q44a1_2 ρ γ → zGl (fun i vs g1 => jn44 a g i vs g1) (sn44 a g) q44a1_2 ρ γ := by
  intro ρ γ hJ h
  obtain ⟨ha, hg, hr, hf, hm, hc, hl⟩ := h
  have ha : a = [ρ 0, ρ 1, ρ 2] := ha
  subst ha
  subst hg
  have hJ : jn44 [ρ 0, ρ 1, ρ 2] (γ 0) 1 [ρ 0, ρ 1, ρ 2, ρ 3, ρ 4] (γ 1) := hJ
  obtain ⟨-, -, -, r3, -, r5, -⟩ := hr
  have r3 : (0 : Int) ≤ ρ 3 ∧ ρ 3 ≤ 3 := r3
  have r5 : (1 : Int) ≤ ρ 5 ∧ ρ 5 ≤ 1 := r5
  obtain ⟨f0, -⟩ := hf
  have f0 : (0 : Int) ≤ -ρ 7 + ρ 3 := f0
  obtain ⟨w_0, w_1, w_2⟩ : (¬ (ρ 3 ≥ 4)) ∧ (¬ (ρ 5 ≠ 1)) ∧ (ρ 3 ≥ ρ 7) := ⟨by omega, by omega, by omega⟩
  obtain ⟨-, -, -, m3, m4, m5, -⟩ := hm
  have m3 : γ 0 77 0 (ρ 4) = ρ 5 := m3
  have m4 : γ 0 78 0 (ρ 4) = ρ 6 := m4
  have m5 : γ 0 66 0 (ρ 6) = ρ 7 := m5
  show jn44 [ρ 0, ρ 1, ρ 2] (γ 0) 1 [ρ 0, ρ 1, ρ 2, ρ 3 + 1, ρ 4] (γ 1)
  have hD : en44 (γ 0) (1, [ρ 3, ρ 4], γ 1) = .inl (1, [ρ 3 + 1, ρ 4], γ 1) := by
    unfold en44
    refine (if_neg (show ¬ (1 : Nat) = 0 by decide)).trans ?_
    refine (if_pos (show (1 : Nat) = 1 by decide)).trans ?_
    refine (zLet_eq (show _ = γ 1 from rfl)).trans ?_
    refine (zLet_eq (show _ = ρ 3 from rfl)).trans ?_
    refine (zLet_eq (show _ = ρ 4 from rfl)).trans ?_
    refine (if_neg w_0).trans ?_
    refine (zLet_eq m3).trans ?_
    refine (if_neg w_1).trans ?_
    refine (zLet_eq m4).trans ?_
    refine (zLet_eq m5).trans ?_
    refine (if_pos w_2).trans ?_
    rfl
  exact zGoo_ato hJ hD
theorem vn44a1_3 {S : Nat → zSpc} (hS33 : ∀ x g o v gz, S 33 x g o v gz → sn33 x g o v gz) {a : List Int} {g : rHp} : ∀ (ρ : Nat → Int) (γ : Nat → rHp), jn44 a g 1 (zAg (zNA a44_ 1) ρ) (γ 1) → zO 3 S a g q44a1_3 ρ γ → zGl (fun i vs g1 => jn44 a g i vs g1) (sn44 a g) q44a1_3 ρ γ := by
  intro ρ γ hJ h
  obtain ⟨ha, hg, hr, hf, hm, hc, hl⟩ := h
  have ha : a = [ρ 0, ρ 1, ρ 2] := ha
  subst ha
  subst hg
  have hJ : jn44 [ρ 0, ρ 1, ρ 2] (γ 0) 1 [ρ 0, ρ 1, ρ 2, ρ 3, ρ 4] (γ 1) := hJ
  obtain ⟨-, -, -, r3, -, r5, -, -, r8, -⟩ := hr
  have r3 : (0 : Int) ≤ ρ 3 ∧ ρ 3 ≤ 3 := r3
  have r5 : (1 : Int) ≤ ρ 5 ∧ ρ 5 ≤ 1 := r5
  have r8 : (0 : Int) ≤ ρ 8 ∧ ρ 8 ≤ 3 := r8
  obtain ⟨f0, -⟩ := hf
  have f0 : (0 : Int) ≤ ρ 7 + -ρ 3 + (-1) := f0
  obtain ⟨w_0, w_1, w_2⟩ : (¬ (ρ 3 ≥ 4)) ∧ (¬ (ρ 5 ≠ 1)) ∧ (¬ (ρ 3 ≥ ρ 7)) := ⟨by omega, by omega, by omega⟩
  obtain ⟨-, -, -, m3, m4, m5, m6, -⟩ := hm
  have m3 : γ 0 77 0 (ρ 4) = ρ 5 := m3
  have m4 : γ 0 78 0 (ρ 4) = ρ 6 := m4
  have m5 : γ 0 66 0 (ρ 6) = ρ 7 := m5
  have m6 : γ 1 80 0 (4 * ρ 4 + ρ 3) = ρ 8 := m6
  obtain ⟨l0, -⟩ := hl
  have l0 : ρ 8 ≠ 1 := l0
  have wl_0 : ρ 8 ≠ 1 := by omega
  show jn44 [ρ 0, ρ 1, ρ 2] (γ 0) 1 [ρ 0, ρ 1, ρ 2, ρ 3 + 1, ρ 4] (γ 1)
  have hD : en44 (γ 0) (1, [ρ 3, ρ 4], γ 1) = .inl (1, [ρ 3 + 1, ρ 4], γ 1) := by
    unfold en44
    refine (if_neg (show ¬ (1 : Nat) = 0 by decide)).trans ?_
    refine (if_pos (show (1 : Nat) = 1 by decide)).trans ?_
    refine (zLet_eq (show _ = γ 1 from rfl)).trans ?_
    refine (zLet_eq (show _ = ρ 3 from rfl)).trans ?_
    refine (zLet_eq (show _ = ρ 4 from rfl)).trans ?_
    refine (if_neg w_0).trans ?_
    refine (zLet_eq m3).trans ?_
    refine (if_neg w_1).trans ?_
    refine (zLet_eq m4).trans ?_
    refine (zLet_eq m5).trans ?_
    refine (if_neg w_2).trans ?_
    refine (zLet_eq m6).trans ?_
    refine (if_pos wl_0).trans ?_
    rfl
  exact zGoo_ato hJ hD
theorem vn44a1_4 {S : Nat → zSpc} (hS33 : ∀ x g o v gz, S 33 x g o v gz → sn33 x g o v gz) {a : List Int} {g : rHp} : ∀ (ρ : Nat → Int) (γ : Nat → rHp), jn44 a g 1 (zAg (zNA a44_ 1) ρ) (γ 1) → zO 3 S a g q44a1_4 ρ γ → zGl (fun i vs g1 => jn44 a g i vs g1) (sn44 a g) q44a1_4 ρ γ := by
  intro ρ γ hJ h
  obtain ⟨ha, hg, hr, hf, hm, hc, hl⟩ := h
  have ha : a = [ρ 0, ρ 1, ρ 2] := ha
  subst ha
  subst hg
  have hJ : jn44 [ρ 0, ρ 1, ρ 2] (γ 0) 1 [ρ 0, ρ 1, ρ 2, ρ 3, ρ 4] (γ 1) := hJ
  obtain ⟨-, -, -, r3, -, r5, -, -, r8, -, -, -, -, r13, -⟩ := hr
  have r3 : (0 : Int) ≤ ρ 3 ∧ ρ 3 ≤ 3 := r3
  have r5 : (1 : Int) ≤ ρ 5 ∧ ρ 5 ≤ 1 := r5
  have r8 : (1 : Int) ≤ ρ 8 ∧ ρ 8 ≤ 1 := r8
  have r13 : (1 : Int) ≤ ρ 13 ∧ ρ 13 ≤ 1 := r13
  obtain ⟨f0, -⟩ := hf
  have f0 : (0 : Int) ≤ ρ 7 + -ρ 3 + (-1) := f0
  obtain ⟨w_0, w_1, w_2, w_3, w_4⟩ : (¬ (ρ 3 ≥ 4)) ∧ (¬ (ρ 5 ≠ 1)) ∧ (¬ (ρ 3 ≥ ρ 7)) ∧ (¬ (ρ 8 ≠ 1)) ∧ (ρ 13 ≠ 0) := ⟨by omega, by omega, by omega, by omega, by omega⟩
  obtain ⟨-, -, -, m3, m4, m5, m6, m7, m8, -⟩ := hm
  have m3 : γ 0 77 0 (ρ 4) = ρ 5 := m3
  have m4 : γ 0 78 0 (ρ 4) = ρ 6 := m4
  have m5 : γ 0 66 0 (ρ 6) = ρ 7 := m5
  have m6 : γ 1 80 0 (4 * ρ 4 + ρ 3) = ρ 8 := m6
  have m7 : γ 0 79 0 (ρ 4) = ρ 9 := m7
  have m8 : γ 0 81 0 (4 * ρ 4 + ρ 3) = ρ 10 := m8
  obtain ⟨l0, l1, l2, -⟩ := hl
  have l0 : zOpP (.l2i) (γ 0) (γ 1) [ρ 10] (ρ 11) := l0
  have l1 : zOpP (.ishr) (γ 0) (γ 1) [ρ 9, ρ 11] (ρ 12) := l1
  have l2 : zOpP (.iand) (γ 0) (γ 1) [ρ 12, 1] (ρ 13) := l2
  show jn44 [ρ 0, ρ 1, ρ 2] (γ 0) 1 [ρ 0, ρ 1, ρ 2, ρ 3 + 1, ρ 4] (γ 1)
  have hD : en44 (γ 0) (1, [ρ 3, ρ 4], γ 1) = .inl (1, [ρ 3 + 1, ρ 4], γ 1) := by
    unfold en44
    refine (if_neg (show ¬ (1 : Nat) = 0 by decide)).trans ?_
    refine (if_pos (show (1 : Nat) = 1 by decide)).trans ?_
    refine (zLet_eq (show _ = γ 1 from rfl)).trans ?_
    refine (zLet_eq (show _ = ρ 3 from rfl)).trans ?_
    refine (zLet_eq (show _ = ρ 4 from rfl)).trans ?_
    refine (if_neg w_0).trans ?_
    refine (zLet_eq m3).trans ?_
    refine (if_neg w_1).trans ?_
    refine (zLet_eq m4).trans ?_
    refine (zLet_eq m5).trans ?_
    refine (if_neg w_2).trans ?_
    refine (zLet_eq m6).trans ?_
    refine (if_neg w_3).trans ?_
    refine (zLet_eq m7).trans ?_
    refine (zLet_eq m8).trans ?_
    refine (zLet_eq (zF1_ok l0)).trans ?_
    refine (zLet_eq (zF2_ok l1)).trans ?_
    refine (zLet_eq (zF2_ok l2)).trans ?_
    refine (if_pos w_4).trans ?_
    rfl
  exact zGoo_ato hJ hD
theorem vn44a1_5 {S : Nat → zSpc} (hS33 : ∀ x g o v gz, S 33 x g o v gz → sn33 x g o v gz) {a : List Int} {g : rHp} : ∀ (ρ : Nat → Int) (γ : Nat → rHp), jn44 a g 1 (zAg (zNA a44_ 1) ρ) (γ 1) → zO 3 S a g q44a1_5 ρ γ → zGl (fun i vs g1 => jn44 a g i vs g1) (sn44 a g) q44a1_5 ρ γ := by
  intro ρ γ hJ h
  obtain ⟨ha, hg, hr, hf, hm, hc, hl⟩ := h
  have ha : a = [ρ 0, ρ 1, ρ 2] := ha
  subst ha
  subst hg
  have hJ : jn44 [ρ 0, ρ 1, ρ 2] (γ 0) 1 [ρ 0, ρ 1, ρ 2, ρ 3, ρ 4] (γ 1) := hJ
  obtain ⟨-, -, -, r3, -, r5, -, -, r8, -, -, -, -, r13, -⟩ := hr
  have r3 : (0 : Int) ≤ ρ 3 ∧ ρ 3 ≤ 3 := r3
  have r5 : (1 : Int) ≤ ρ 5 ∧ ρ 5 ≤ 1 := r5
  have r8 : (1 : Int) ≤ ρ 8 ∧ ρ 8 ≤ 1 := r8
  have r13 : (0 : Int) ≤ ρ 13 ∧ ρ 13 ≤ 0 := r13
  obtain ⟨f0, -⟩ := hf
  have f0 : (0 : Int) ≤ ρ 7 + -ρ 3 + (-1) := f0
  obtain ⟨w_0, w_1, w_2, w_3, w_4⟩ : (¬ (ρ 3 ≥ 4)) ∧ (¬ (ρ 5 ≠ 1)) ∧ (¬ (ρ 3 ≥ ρ 7)) ∧ (¬ (ρ 8 ≠ 1)) ∧ (¬ (ρ 13 ≠ 0)) := ⟨by omega, by omega, by omega, by omega, by omega⟩
  obtain ⟨-, -, -, m3, m4, m5, m6, m7, m8, -⟩ := hm
  have m3 : γ 0 77 0 (ρ 4) = ρ 5 := m3
  have m4 : γ 0 78 0 (ρ 4) = ρ 6 := m4
  have m5 : γ 0 66 0 (ρ 6) = ρ 7 := m5
  have m6 : γ 1 80 0 (4 * ρ 4 + ρ 3) = ρ 8 := m6
  have m7 : γ 0 79 0 (ρ 4) = ρ 9 := m7
  have m8 : γ 0 81 0 (4 * ρ 4 + ρ 3) = ρ 10 := m8
  obtain ⟨-, c2⟩ := hc
  have c2 : γ 2 = rUp (γ 1) 80 0 (4 * ρ 4 + ρ 3) 2 := c2
  obtain ⟨l0, l1, l2, -⟩ := hl
  have l0 : zOpP (.l2i) (γ 0) (γ 1) [ρ 10] (ρ 11) := l0
  have l1 : zOpP (.ishr) (γ 0) (γ 1) [ρ 9, ρ 11] (ρ 12) := l1
  have l2 : zOpP (.iand) (γ 0) (γ 1) [ρ 12, 1] (ρ 13) := l2
  show jn44 [ρ 0, ρ 1, ρ 2] (γ 0) 1 [ρ 0, ρ 1, ρ 2, ρ 3 + 1, ρ 4] (γ 2)
  have hD : en44 (γ 0) (1, [ρ 3, ρ 4], γ 1) = .inl (1, [ρ 3 + 1, ρ 4], γ 2) := by
    unfold en44
    refine (if_neg (show ¬ (1 : Nat) = 0 by decide)).trans ?_
    refine (if_pos (show (1 : Nat) = 1 by decide)).trans ?_
    refine (zLet_eq (show _ = γ 1 from rfl)).trans ?_
    refine (zLet_eq (show _ = ρ 3 from rfl)).trans ?_
    refine (zLet_eq (show _ = ρ 4 from rfl)).trans ?_
    refine (if_neg w_0).trans ?_
    refine (zLet_eq m3).trans ?_
    refine (if_neg w_1).trans ?_
    refine (zLet_eq m4).trans ?_
    refine (zLet_eq m5).trans ?_
    refine (if_neg w_2).trans ?_
    refine (zLet_eq m6).trans ?_
    refine (if_neg w_3).trans ?_
    refine (zLet_eq m7).trans ?_
    refine (zLet_eq m8).trans ?_
    refine (zLet_eq (zF1_ok l0)).trans ?_
    refine (zLet_eq (zF2_ok l1)).trans ?_
    refine (zLet_eq (zF2_ok l2)).trans ?_
    refine (if_neg w_4).trans ?_
    refine (zLet_eq c2.symm).trans ?_
    rfl
  exact zGoo_ato hJ hD
theorem yn44 {S : Nat → zSpc} (hS33 : ∀ x g o v gz, S 33 x g o v gz → sn33 x g o v gz) : ∀ x g o v gz, zSem uW uT w44_.2.2.2.1 w44_.2.2.1.1.length S q44 (fun i => q44a.getD i []) (zNA a44_) x g o v gz → sn44 x g o v gz := by
  intro a g o v gz h
  exact zSem_all (l0 := q44) (las := q44a) (S := S) (J := (fun i vs g1 => jn44 a g i vs g1)) (P := sn44 a g) (fun _ => (show zAll _ [q44_0] from (zAll_c (vn44_0 hS33) zAll_n))) (fun _ => (show zAllI _ 0 [q44a0, q44a1] from ⟨(show zAll _ [q44a0_0, q44a0_1] from (zAll_c (vn44a0_0 hS33) (zAll_c (vn44a0_1 hS33) zAll_n))), ⟨(show zAll _ [q44a1_0, q44a1_1, q44a1_2, q44a1_3, q44a1_4, q44a1_5] from (zAll_c (vn44a1_0 hS33) (zAll_c (vn44a1_1 hS33) (zAll_c (vn44a1_2 hS33) (zAll_c (vn44a1_3 hS33) (zAll_c (vn44a1_4 hS33) (zAll_c (vn44a1_5 hS33) zAll_n))))))), trivial⟩⟩)) h
theorem vn45_0 {S : Nat → zSpc}  {a : List Int} {g : rHp} : ∀ (ρ : Nat → Int) (γ : Nat → rHp), zO 3 S a g q45_0 ρ γ → zGl (fun i vs g1 => jn45 a g i vs g1) (sn45 a g) q45_0 ρ γ := by
  intro ρ γ h
  obtain ⟨ha, hg, hr, hf, hm, hc, hl⟩ := h
  have ha : a = [ρ 0, ρ 1, ρ 2] := ha
  subst ha
  subst hg
  show jn45 [ρ 0, ρ 1, ρ 2] (γ 0) 0 [ρ 0, ρ 1, ρ 2, 0] (γ 0)
  have hD : dn45 [ρ 0, ρ 1] (γ 0) = .inl (0, [ρ 0, ρ 1, 0], γ 0) := by
    unfold dn45
    refine (zLet_eq (show _ = ρ 0 from rfl)).trans ?_
    refine (zLet_eq (show _ = ρ 1 from rfl)).trans ?_
    rfl
  exact zGoo_to hD
theorem vn45a0_0 {S : Nat → zSpc}  {a : List Int} {g : rHp} : ∀ (ρ : Nat → Int) (γ : Nat → rHp), jn45 a g 0 (zAg (zNA a45_ 0) ρ) (γ 1) → zO 3 S a g q45a0_0 ρ γ → zGl (fun i vs g1 => jn45 a g i vs g1) (sn45 a g) q45a0_0 ρ γ := by
  intro ρ γ hJ h
  obtain ⟨ha, hg, hr, hf, hm, hc, hl⟩ := h
  have ha : a = [ρ 0, ρ 1, ρ 2] := ha
  subst ha
  subst hg
  have hJ : jn45 [ρ 0, ρ 1, ρ 2] (γ 0) 0 [ρ 0, ρ 1, ρ 2, ρ 3] (γ 1) := hJ
  obtain ⟨f0, -⟩ := hf
  have f0 : (0 : Int) ≤ ρ 3 + -ρ 1 := f0
  have w_0 : ρ 3 ≥ ρ 1 := by omega
  show sn45 [ρ 0, ρ 1, ρ 2] (γ 0) 0 (-1) (γ 1)
  have hD : en45 (γ 0) (0, [ρ 0, ρ 1, ρ 3], γ 1) = .inr (0, (-1), γ 1) := by
    unfold en45
    refine (if_pos (show (0 : Nat) = 0 by decide)).trans ?_
    refine (zLet_eq (show _ = γ 1 from rfl)).trans ?_
    refine (zLet_eq (show _ = ρ 0 from rfl)).trans ?_
    refine (zLet_eq (show _ = ρ 1 from rfl)).trans ?_
    refine (zLet_eq (show _ = ρ 3 from rfl)).trans ?_
    refine (if_pos w_0).trans ?_
    rfl
  exact zGoo_aend hJ hD
theorem vn45a0_1 {S : Nat → zSpc}  {a : List Int} {g : rHp} : ∀ (ρ : Nat → Int) (γ : Nat → rHp), jn45 a g 0 (zAg (zNA a45_ 0) ρ) (γ 1) → zO 3 S a g q45a0_1 ρ γ → zGl (fun i vs g1 => jn45 a g i vs g1) (sn45 a g) q45a0_1 ρ γ := by
  intro ρ γ hJ h
  obtain ⟨ha, hg, hr, hf, hm, hc, hl⟩ := h
  have ha : a = [ρ 0, ρ 1, ρ 2] := ha
  subst ha
  subst hg
  have hJ : jn45 [ρ 0, ρ 1, ρ 2] (γ 0) 0 [ρ 0, ρ 1, ρ 2, ρ 3] (γ 1) := hJ
  obtain ⟨r0, -, -, -, r4, -⟩ := hr
  have r0 : (0 : Int) ≤ ρ 0 ∧ ρ 0 ≤ 19 := r0
  have r4 : (0 : Int) ≤ ρ 4 ∧ ρ 4 ≤ 19 := r4
  obtain ⟨f0, -⟩ := hf
  have f0 : (0 : Int) ≤ -ρ 3 + ρ 1 + (-1) := f0
  have w_0 : ¬ (ρ 3 ≥ ρ 1) := by omega
  obtain ⟨-, m1, -⟩ := hm
  have m1 : γ 0 67 0 (ρ 3) = ρ 4 := m1
  obtain ⟨l0, -⟩ := hl
  have l0 : ρ 4 ≠ ρ 0 := l0
  have wl_0 : ρ 4 ≠ ρ 0 := by omega
  show jn45 [ρ 0, ρ 1, ρ 2] (γ 0) 1 [ρ 0, ρ 1, ρ 2, 0, 0, ρ 3] (γ 1)
  have hD : en45 (γ 0) (0, [ρ 0, ρ 1, ρ 3], γ 1) = .inl (1, [ρ 0, ρ 1, 0, 0, ρ 3], γ 1) := by
    unfold en45
    refine (if_pos (show (0 : Nat) = 0 by decide)).trans ?_
    refine (zLet_eq (show _ = γ 1 from rfl)).trans ?_
    refine (zLet_eq (show _ = ρ 0 from rfl)).trans ?_
    refine (zLet_eq (show _ = ρ 1 from rfl)).trans ?_
    refine (zLet_eq (show _ = ρ 3 from rfl)).trans ?_
    refine (if_neg w_0).trans ?_
    refine (zLet_eq m1).trans ?_
    refine (if_pos wl_0).trans ?_
    rfl
  exact zGoo_ato hJ hD
theorem vn45a0_2 {S : Nat → zSpc}  {a : List Int} {g : rHp} : ∀ (ρ : Nat → Int) (γ : Nat → rHp), jn45 a g 0 (zAg (zNA a45_ 0) ρ) (γ 1) → zO 3 S a g q45a0_2 ρ γ → zGl (fun i vs g1 => jn45 a g i vs g1) (sn45 a g) q45a0_2 ρ γ := by
  intro ρ γ hJ h
  obtain ⟨ha, hg, hr, hf, hm, hc, hl⟩ := h
  have ha : a = [ρ 0, ρ 1, ρ 2] := ha
  subst ha
  subst hg
  have hJ : jn45 [ρ 0, ρ 1, ρ 2] (γ 0) 0 [ρ 0, ρ 1, ρ 2, ρ 3] (γ 1) := hJ
  obtain ⟨f0, f1, f2, -⟩ := hf
  have f0 : (0 : Int) ≤ -ρ 4 + ρ 0 := f0
  have f1 : (0 : Int) ≤ ρ 4 + -ρ 0 := f1
  have f2 : (0 : Int) ≤ -ρ 3 + ρ 1 + (-1) := f2
  obtain ⟨w_0, w_1⟩ : (¬ (ρ 3 ≥ ρ 1)) ∧ (¬ (ρ 4 ≠ ρ 0)) := ⟨by omega, by omega⟩
  obtain ⟨-, m1, -⟩ := hm
  have m1 : γ 0 67 0 (ρ 3) = ρ 4 := m1
  show jn45 [ρ 0, ρ 1, ρ 2] (γ 0) 1 [ρ 0, ρ 1, ρ 2, 0, 1, ρ 3] (γ 1)
  have hD : en45 (γ 0) (0, [ρ 0, ρ 1, ρ 3], γ 1) = .inl (1, [ρ 0, ρ 1, 0, 1, ρ 3], γ 1) := by
    unfold en45
    refine (if_pos (show (0 : Nat) = 0 by decide)).trans ?_
    refine (zLet_eq (show _ = γ 1 from rfl)).trans ?_
    refine (zLet_eq (show _ = ρ 0 from rfl)).trans ?_
    refine (zLet_eq (show _ = ρ 1 from rfl)).trans ?_
    refine (zLet_eq (show _ = ρ 3 from rfl)).trans ?_
    refine (if_neg w_0).trans ?_
    refine (zLet_eq m1).trans ?_
    refine (if_neg w_1).trans ?_
    rfl
  exact zGoo_ato hJ hD
theorem vn45a1_0 {S : Nat → zSpc}  {a : List Int} {g : rHp} : ∀ (ρ : Nat → Int) (γ : Nat → rHp), jn45 a g 1 (zAg (zNA a45_ 1) ρ) (γ 1) → zO 3 S a g q45a1_0 ρ γ → zGl (fun i vs g1 => jn45 a g i vs g1) (sn45 a g) q45a1_0 ρ γ := by
  intro ρ γ hJ h
  obtain ⟨ha, hg, hr, hf, hm, hc, hl⟩ := h
  have ha : a = [ρ 0, ρ 1, ρ 2] := ha
  subst ha
  subst hg
  have hJ : jn45 [ρ 0, ρ 1, ρ 2] (γ 0) 1 [ρ 0, ρ 1, ρ 2, ρ 3, ρ 4, ρ 5] (γ 1) := hJ
  obtain ⟨-, -, -, -, r4, -⟩ := hr
  have r4 : (0 : Int) ≤ ρ 4 ∧ ρ 4 ≤ 0 := r4
  obtain ⟨f0, -⟩ := hf
  have f0 : (0 : Int) ≤ ρ 3 + -ρ 2 := f0
  obtain ⟨w_0, w_1⟩ : (ρ 3 ≥ ρ 2) ∧ (ρ 4 = 0) := ⟨by omega, by omega⟩
  obtain ⟨m0, -⟩ := hm
  have m0 : γ 0 15 0 48 = ρ 2 := m0
  show jn45 [ρ 0, ρ 1, ρ 2] (γ 0) 0 [ρ 0, ρ 1, ρ 2, ρ 5 + 1] (γ 1)
  have hD : en45 (γ 0) (1, [ρ 0, ρ 1, ρ 3, ρ 4, ρ 5], γ 1) = .inl (0, [ρ 0, ρ 1, ρ 5 + 1], γ 1) := by
    unfold en45
    refine (if_neg (show ¬ (1 : Nat) = 0 by decide)).trans ?_
    refine (if_pos (show (1 : Nat) = 1 by decide)).trans ?_
    refine (zLet_eq (show _ = γ 1 from rfl)).trans ?_
    refine (zLet_eq (show _ = ρ 0 from rfl)).trans ?_
    refine (zLet_eq (show _ = ρ 1 from rfl)).trans ?_
    refine (zLet_eq (show _ = ρ 3 from rfl)).trans ?_
    refine (zLet_eq (show _ = ρ 4 from rfl)).trans ?_
    refine (zLet_eq (show _ = ρ 5 from rfl)).trans ?_
    refine (zLet_eq m0).trans ?_
    refine (if_pos w_0).trans ?_
    refine (if_pos w_1).trans ?_
    rfl
  exact zGoo_ato hJ hD
theorem vn45a1_1 {S : Nat → zSpc}  {a : List Int} {g : rHp} : ∀ (ρ : Nat → Int) (γ : Nat → rHp), jn45 a g 1 (zAg (zNA a45_ 1) ρ) (γ 1) → zO 3 S a g q45a1_1 ρ γ → zGl (fun i vs g1 => jn45 a g i vs g1) (sn45 a g) q45a1_1 ρ γ := by
  intro ρ γ hJ h
  obtain ⟨ha, hg, hr, hf, hm, hc, hl⟩ := h
  have ha : a = [ρ 0, ρ 1, ρ 2] := ha
  subst ha
  subst hg
  have hJ : jn45 [ρ 0, ρ 1, ρ 2] (γ 0) 1 [ρ 0, ρ 1, ρ 2, ρ 3, ρ 4, ρ 5] (γ 1) := hJ
  obtain ⟨-, -, -, -, r4, -⟩ := hr
  have r4 : (1 : Int) ≤ ρ 4 ∧ ρ 4 ≤ 1 := r4
  obtain ⟨f0, -⟩ := hf
  have f0 : (0 : Int) ≤ ρ 3 + -ρ 2 := f0
  obtain ⟨w_0, w_1⟩ : (ρ 3 ≥ ρ 2) ∧ (¬ (ρ 4 = 0)) := ⟨by omega, by omega⟩
  obtain ⟨m0, -⟩ := hm
  have m0 : γ 0 15 0 48 = ρ 2 := m0
  show sn45 [ρ 0, ρ 1, ρ 2] (γ 0) 0 (ρ 5) (γ 1)
  have hD : en45 (γ 0) (1, [ρ 0, ρ 1, ρ 3, ρ 4, ρ 5], γ 1) = .inr (0, ρ 5, γ 1) := by
    unfold en45
    refine (if_neg (show ¬ (1 : Nat) = 0 by decide)).trans ?_
    refine (if_pos (show (1 : Nat) = 1 by decide)).trans ?_
    refine (zLet_eq (show _ = γ 1 from rfl)).trans ?_
    refine (zLet_eq (show _ = ρ 0 from rfl)).trans ?_
    refine (zLet_eq (show _ = ρ 1 from rfl)).trans ?_
    refine (zLet_eq (show _ = ρ 3 from rfl)).trans ?_
    refine (zLet_eq (show _ = ρ 4 from rfl)).trans ?_
    refine (zLet_eq (show _ = ρ 5 from rfl)).trans ?_
    refine (zLet_eq m0).trans ?_
    refine (if_pos w_0).trans ?_
    refine (if_neg w_1).trans ?_
    rfl
  exact zGoo_aend hJ hD
theorem vn45a1_2 {S : Nat → zSpc}  {a : List Int} {g : rHp} : ∀ (ρ : Nat → Int) (γ : Nat → rHp), jn45 a g 1 (zAg (zNA a45_ 1) ρ) (γ 1) → zO 3 S a g q45a1_2 ρ γ → zGl (fun i vs g1 => jn45 a g i vs g1) (sn45 a g) q45a1_2 ρ γ := by
  intro ρ γ hJ h
  obtain ⟨ha, hg, hr, hf, hm, hc, hl⟩ := h
  have ha : a = [ρ 0, ρ 1, ρ 2] := ha
  subst ha
  subst hg
  have hJ : jn45 [ρ 0, ρ 1, ρ 2] (γ 0) 1 [ρ 0, ρ 1, ρ 2, ρ 3, ρ 4, ρ 5] (γ 1) := hJ
  obtain ⟨-, -, -, -, r4, -⟩ := hr
  have r4 : (0 : Int) ≤ ρ 4 ∧ ρ 4 ≤ 0 := r4
  obtain ⟨f0, -⟩ := hf
  have f0 : (0 : Int) ≤ -ρ 3 + ρ 2 + (-1) := f0
  obtain ⟨w_0, w_1⟩ : (¬ (ρ 3 ≥ ρ 2)) ∧ (ρ 4 = 0) := ⟨by omega, by omega⟩
  obtain ⟨m0, -⟩ := hm
  have m0 : γ 0 15 0 48 = ρ 2 := m0
  show jn45 [ρ 0, ρ 1, ρ 2] (γ 0) 0 [ρ 0, ρ 1, ρ 2, ρ 5 + 1] (γ 1)
  have hD : en45 (γ 0) (1, [ρ 0, ρ 1, ρ 3, ρ 4, ρ 5], γ 1) = .inl (0, [ρ 0, ρ 1, ρ 5 + 1], γ 1) := by
    unfold en45
    refine (if_neg (show ¬ (1 : Nat) = 0 by decide)).trans ?_
    refine (if_pos (show (1 : Nat) = 1 by decide)).trans ?_
    refine (zLet_eq (show _ = γ 1 from rfl)).trans ?_
    refine (zLet_eq (show _ = ρ 0 from rfl)).trans ?_
    refine (zLet_eq (show _ = ρ 1 from rfl)).trans ?_
    refine (zLet_eq (show _ = ρ 3 from rfl)).trans ?_
    refine (zLet_eq (show _ = ρ 4 from rfl)).trans ?_
    refine (zLet_eq (show _ = ρ 5 from rfl)).trans ?_
    refine (zLet_eq m0).trans ?_
    refine (if_neg w_0).trans ?_
    refine (if_pos w_1).trans ?_
    rfl
  exact zGoo_ato hJ hD
theorem vn45a1_3 {S : Nat → zSpc}  {a : List Int} {g : rHp} : ∀ (ρ : Nat → Int) (γ : Nat → rHp), jn45 a g 1 (zAg (zNA a45_ 1) ρ) (γ 1) → zO 3 S a g q45a1_3 ρ γ → zGl (fun i vs g1 => jn45 a g i vs g1) (sn45 a g) q45a1_3 ρ γ := by
  intro ρ γ hJ h
  obtain ⟨ha, hg, hr, hf, hm, hc, hl⟩ := h
  have ha : a = [ρ 0, ρ 1, ρ 2] := ha
  subst ha
  subst hg
  have hJ : jn45 [ρ 0, ρ 1, ρ 2] (γ 0) 1 [ρ 0, ρ 1, ρ 2, ρ 3, ρ 4, ρ 5] (γ 1) := hJ
  obtain ⟨-, -, -, -, r4, -, r6, r7, -⟩ := hr
  have r4 : (1 : Int) ≤ ρ 4 ∧ ρ 4 ≤ 1 := r4
  have r6 : ((-2147483648) : Int) ≤ ρ 6 ∧ ρ 6 ≤ 1099511640064 := r6
  have r7 : ((-2147483648) : Int) ≤ ρ 7 ∧ ρ 7 ≤ 1099511640064 := r7
  obtain ⟨f0, -⟩ := hf
  have f0 : (0 : Int) ≤ -ρ 3 + ρ 2 + (-1) := f0
  obtain ⟨w_0, w_1⟩ : (¬ (ρ 3 ≥ ρ 2)) ∧ (¬ (ρ 4 = 0)) := ⟨by omega, by omega⟩
  obtain ⟨m0, m1, m2, -⟩ := hm
  have m0 : γ 0 15 0 48 = ρ 2 := m0
  have m1 : γ 0 68 0 (4 * ρ 5 + ρ 3) = ρ 6 := m1
  have m2 : γ 0 87 0 (ρ 3) = ρ 7 := m2
  obtain ⟨l0, -⟩ := hl
  have l0 : ρ 6 ≠ ρ 7 := l0
  have wl_0 : ρ 6 ≠ ρ 7 := by omega
  show jn45 [ρ 0, ρ 1, ρ 2] (γ 0) 1 [ρ 0, ρ 1, ρ 2, ρ 3 + 1, 0, ρ 5] (γ 1)
  have hD : en45 (γ 0) (1, [ρ 0, ρ 1, ρ 3, ρ 4, ρ 5], γ 1) = .inl (1, [ρ 0, ρ 1, ρ 3 + 1, 0, ρ 5], γ 1) := by
    unfold en45
    refine (if_neg (show ¬ (1 : Nat) = 0 by decide)).trans ?_
    refine (if_pos (show (1 : Nat) = 1 by decide)).trans ?_
    refine (zLet_eq (show _ = γ 1 from rfl)).trans ?_
    refine (zLet_eq (show _ = ρ 0 from rfl)).trans ?_
    refine (zLet_eq (show _ = ρ 1 from rfl)).trans ?_
    refine (zLet_eq (show _ = ρ 3 from rfl)).trans ?_
    refine (zLet_eq (show _ = ρ 4 from rfl)).trans ?_
    refine (zLet_eq (show _ = ρ 5 from rfl)).trans ?_
    refine (zLet_eq m0).trans ?_
    refine (if_neg w_0).trans ?_
    refine (if_neg w_1).trans ?_
    refine (zLet_eq m1).trans ?_
    refine (zLet_eq m2).trans ?_
    refine (if_pos wl_0).trans ?_
    rfl
  exact zGoo_ato hJ hD
theorem vn45a1_4 {S : Nat → zSpc}  {a : List Int} {g : rHp} : ∀ (ρ : Nat → Int) (γ : Nat → rHp), jn45 a g 1 (zAg (zNA a45_ 1) ρ) (γ 1) → zO 3 S a g q45a1_4 ρ γ → zGl (fun i vs g1 => jn45 a g i vs g1) (sn45 a g) q45a1_4 ρ γ := by
  intro ρ γ hJ h
  obtain ⟨ha, hg, hr, hf, hm, hc, hl⟩ := h
  have ha : a = [ρ 0, ρ 1, ρ 2] := ha
  subst ha
  subst hg
  have hJ : jn45 [ρ 0, ρ 1, ρ 2] (γ 0) 1 [ρ 0, ρ 1, ρ 2, ρ 3, ρ 4, ρ 5] (γ 1) := hJ
  obtain ⟨-, -, -, -, r4, -⟩ := hr
  have r4 : (1 : Int) ≤ ρ 4 ∧ ρ 4 ≤ 1 := r4
  obtain ⟨f0, f1, f2, -⟩ := hf
  have f0 : (0 : Int) ≤ ρ 7 + -ρ 6 := f0
  have f1 : (0 : Int) ≤ -ρ 7 + ρ 6 := f1
  have f2 : (0 : Int) ≤ -ρ 3 + ρ 2 + (-1) := f2
  obtain ⟨w_0, w_1, w_2⟩ : (¬ (ρ 3 ≥ ρ 2)) ∧ (¬ (ρ 4 = 0)) ∧ (¬ (ρ 6 ≠ ρ 7)) := ⟨by omega, by omega, by omega⟩
  obtain ⟨m0, m1, m2, -⟩ := hm
  have m0 : γ 0 15 0 48 = ρ 2 := m0
  have m1 : γ 0 68 0 (4 * ρ 5 + ρ 3) = ρ 6 := m1
  have m2 : γ 0 87 0 (ρ 3) = ρ 7 := m2
  show jn45 [ρ 0, ρ 1, ρ 2] (γ 0) 1 [ρ 0, ρ 1, ρ 2, ρ 3 + 1, 1, ρ 5] (γ 1)
  have hD : en45 (γ 0) (1, [ρ 0, ρ 1, ρ 3, ρ 4, ρ 5], γ 1) = .inl (1, [ρ 0, ρ 1, ρ 3 + 1, 1, ρ 5], γ 1) := by
    unfold en45
    refine (if_neg (show ¬ (1 : Nat) = 0 by decide)).trans ?_
    refine (if_pos (show (1 : Nat) = 1 by decide)).trans ?_
    refine (zLet_eq (show _ = γ 1 from rfl)).trans ?_
    refine (zLet_eq (show _ = ρ 0 from rfl)).trans ?_
    refine (zLet_eq (show _ = ρ 1 from rfl)).trans ?_
    refine (zLet_eq (show _ = ρ 3 from rfl)).trans ?_
    refine (zLet_eq (show _ = ρ 4 from rfl)).trans ?_
    refine (zLet_eq (show _ = ρ 5 from rfl)).trans ?_
    refine (zLet_eq m0).trans ?_
    refine (if_neg w_0).trans ?_
    refine (if_neg w_1).trans ?_
    refine (zLet_eq m1).trans ?_
    refine (zLet_eq m2).trans ?_
    refine (if_neg w_2).trans ?_
    rfl
  exact zGoo_ato hJ hD
theorem yn45 {S : Nat → zSpc}  : ∀ x g o v gz, zSem uW uT w45_.2.2.2.1 w45_.2.2.1.1.length S q45 (fun i => q45a.getD i []) (zNA a45_) x g o v gz → sn45 x g o v gz := by
  intro a g o v gz h
  exact zSem_all (l0 := q45) (las := q45a) (S := S) (J := (fun i vs g1 => jn45 a g i vs g1)) (P := sn45 a g) (fun _ => (show zAll _ [q45_0] from (zAll_c (vn45_0 ) zAll_n))) (fun _ => (show zAllI _ 0 [q45a0, q45a1] from ⟨(show zAll _ [q45a0_0, q45a0_1, q45a0_2] from (zAll_c (vn45a0_0 ) (zAll_c (vn45a0_1 ) (zAll_c (vn45a0_2 ) zAll_n)))), ⟨(show zAll _ [q45a1_0, q45a1_1, q45a1_2, q45a1_3, q45a1_4] from (zAll_c (vn45a1_0 ) (zAll_c (vn45a1_1 ) (zAll_c (vn45a1_2 ) (zAll_c (vn45a1_3 ) (zAll_c (vn45a1_4 ) zAll_n)))))), trivial⟩⟩)) h
theorem vn46_0 {S : Nat → zSpc}  {a : List Int} {g : rHp} : ∀ (ρ : Nat → Int) (γ : Nat → rHp), zO 6 S a g q46_0 ρ γ → zGl (fun i vs g1 => jn46 a g i vs g1) (sn46 a g) q46_0 ρ γ := by
  intro ρ γ h
  obtain ⟨ha, hg, hr, hf, hm, hc, hl⟩ := h
  have ha : a = [ρ 0, ρ 1, ρ 2, ρ 3, ρ 4, ρ 5] := ha
  subst ha
  subst hg
  show jn46 [ρ 0, ρ 1, ρ 2, ρ 3, ρ 4, ρ 5] (γ 0) 0 [ρ 0, ρ 1, ρ 2, ρ 3, ρ 4, ρ 5, 0] (γ 0)
  have hD : dn46 [ρ 0, ρ 1] (γ 0) = .inl (0, [ρ 0, ρ 1, 0], γ 0) := by
    unfold dn46
    refine (zLet_eq (show _ = ρ 0 from rfl)).trans ?_
    refine (zLet_eq (show _ = ρ 1 from rfl)).trans ?_
    rfl
  exact zGoo_to hD
theorem vn46a0_0 {S : Nat → zSpc}  {a : List Int} {g : rHp} : ∀ (ρ : Nat → Int) (γ : Nat → rHp), jn46 a g 0 (zAg (zNA a46_ 0) ρ) (γ 1) → zO 6 S a g q46a0_0 ρ γ → zGl (fun i vs g1 => jn46 a g i vs g1) (sn46 a g) q46a0_0 ρ γ := by
  intro ρ γ hJ h
  obtain ⟨ha, hg, hr, hf, hm, hc, hl⟩ := h
  have ha : a = [ρ 0, ρ 1, ρ 2, ρ 3, ρ 4, ρ 5] := ha
  subst ha
  subst hg
  have hJ : jn46 [ρ 0, ρ 1, ρ 2, ρ 3, ρ 4, ρ 5] (γ 0) 0 [ρ 0, ρ 1, ρ 2, ρ 3, ρ 4, ρ 5, ρ 6] (γ 1) := hJ
  obtain ⟨f0, -⟩ := hf
  have f0 : (0 : Int) ≤ ρ 6 + -ρ 1 := f0
  have w_0 : ρ 6 ≥ ρ 1 := by omega
  show sn46 [ρ 0, ρ 1, ρ 2, ρ 3, ρ 4, ρ 5] (γ 0) 0 (-1) (γ 1)
  have hD : en46 (γ 0) (0, [ρ 0, ρ 1, ρ 6], γ 1) = .inr (0, (-1), γ 1) := by
    unfold en46
    refine (if_pos (show (0 : Nat) = 0 by decide)).trans ?_
    refine (zLet_eq (show _ = γ 1 from rfl)).trans ?_
    refine (zLet_eq (show _ = ρ 0 from rfl)).trans ?_
    refine (zLet_eq (show _ = ρ 1 from rfl)).trans ?_
    refine (zLet_eq (show _ = ρ 6 from rfl)).trans ?_
    refine (if_pos w_0).trans ?_
    rfl
  exact zGoo_aend hJ hD
theorem vn46a0_1 {S : Nat → zSpc}  {a : List Int} {g : rHp} : ∀ (ρ : Nat → Int) (γ : Nat → rHp), jn46 a g 0 (zAg (zNA a46_ 0) ρ) (γ 1) → zO 6 S a g q46a0_1 ρ γ → zGl (fun i vs g1 => jn46 a g i vs g1) (sn46 a g) q46a0_1 ρ γ := by
  intro ρ γ hJ h
  obtain ⟨ha, hg, hr, hf, hm, hc, hl⟩ := h
  have ha : a = [ρ 0, ρ 1, ρ 2, ρ 3, ρ 4, ρ 5] := ha
  subst ha
  subst hg
  have hJ : jn46 [ρ 0, ρ 1, ρ 2, ρ 3, ρ 4, ρ 5] (γ 0) 0 [ρ 0, ρ 1, ρ 2, ρ 3, ρ 4, ρ 5, ρ 6] (γ 1) := hJ
  obtain ⟨-, f1, -⟩ := hf
  have f1 : (0 : Int) ≤ -ρ 6 + ρ 1 + (-1) := f1
  have w_0 : ¬ (ρ 6 ≥ ρ 1) := by omega
  obtain ⟨l0, -⟩ := hl
  have l0 : ρ 7 ≠ ρ 0 := l0
  show jn46 [ρ 0, ρ 1, ρ 2, ρ 3, ρ 4, ρ 5] (γ 0) 1 [ρ 0, ρ 1, ρ 2, ρ 3, ρ 4, ρ 5, ρ 6] (γ 1)
  have hD : en46 (γ 0) (0, [ρ 0, ρ 1, ρ 6], γ 1) = .inl (1, [ρ 0, ρ 1, ρ 6], γ 1) := by
    unfold en46
    refine (if_pos (show (0 : Nat) = 0 by decide)).trans ?_
    refine (zLet_eq (show _ = γ 1 from rfl)).trans ?_
    refine (zLet_eq (show _ = ρ 0 from rfl)).trans ?_
    refine (zLet_eq (show _ = ρ 1 from rfl)).trans ?_
    refine (zLet_eq (show _ = ρ 6 from rfl)).trans ?_
    refine (if_neg w_0).trans ?_
    rfl
  exact zGoo_ato hJ hD
theorem vn46a1_0 {S : Nat → zSpc}  {a : List Int} {g : rHp} : ∀ (ρ : Nat → Int) (γ : Nat → rHp), jn46 a g 1 (zAg (zNA a46_ 1) ρ) (γ 1) → zO 6 S a g q46a1_0 ρ γ → zGl (fun i vs g1 => jn46 a g i vs g1) (sn46 a g) q46a1_0 ρ γ := by
  intro ρ γ hJ h
  obtain ⟨ha, hg, hr, hf, hm, hc, hl⟩ := h
  have ha : a = [ρ 0, ρ 1, ρ 2, ρ 3, ρ 4, ρ 5] := ha
  subst ha
  subst hg
  have hJ : jn46 [ρ 0, ρ 1, ρ 2, ρ 3, ρ 4, ρ 5] (γ 0) 1 [ρ 0, ρ 1, ρ 2, ρ 3, ρ 4, ρ 5, ρ 6] (γ 1) := hJ
  show jn46 [ρ 0, ρ 1, ρ 2, ρ 3, ρ 4, ρ 5] (γ 0) 0 [ρ 0, ρ 1, ρ 2, ρ 3, ρ 4, ρ 5, ρ 6 + 1] (γ 1)
  have hD : en46 (γ 0) (1, [ρ 0, ρ 1, ρ 6], γ 1) = .inl (0, [ρ 0, ρ 1, ρ 6 + 1], γ 1) := by
    unfold en46
    refine (if_neg (show ¬ (1 : Nat) = 0 by decide)).trans ?_
    refine (if_pos (show (1 : Nat) = 1 by decide)).trans ?_
    refine (zLet_eq (show _ = γ 1 from rfl)).trans ?_
    refine (zLet_eq (show _ = ρ 0 from rfl)).trans ?_
    refine (zLet_eq (show _ = ρ 1 from rfl)).trans ?_
    refine (zLet_eq (show _ = ρ 6 from rfl)).trans ?_
    rfl
  exact zGoo_ato hJ hD
theorem vn46a1_1 {S : Nat → zSpc}  {a : List Int} {g : rHp} : ∀ (ρ : Nat → Int) (γ : Nat → rHp), jn46 a g 1 (zAg (zNA a46_ 1) ρ) (γ 1) → zO 6 S a g q46a1_1 ρ γ → zGl (fun i vs g1 => jn46 a g i vs g1) (sn46 a g) q46a1_1 ρ γ := by
  intro ρ γ hJ h
  obtain ⟨ha, hg, hr, hf, hm, hc, hl⟩ := h
  have ha : a = [ρ 0, ρ 1, ρ 2, ρ 3, ρ 4, ρ 5] := ha
  subst ha
  subst hg
  have hJ : jn46 [ρ 0, ρ 1, ρ 2, ρ 3, ρ 4, ρ 5] (γ 0) 1 [ρ 0, ρ 1, ρ 2, ρ 3, ρ 4, ρ 5, ρ 6] (γ 1) := hJ
  show jn46 [ρ 0, ρ 1, ρ 2, ρ 3, ρ 4, ρ 5] (γ 0) 0 [ρ 0, ρ 1, ρ 2, ρ 3, ρ 4, ρ 5, ρ 6 + 1] (γ 1)
  have hD : en46 (γ 0) (1, [ρ 0, ρ 1, ρ 6], γ 1) = .inl (0, [ρ 0, ρ 1, ρ 6 + 1], γ 1) := by
    unfold en46
    refine (if_neg (show ¬ (1 : Nat) = 0 by decide)).trans ?_
    refine (if_pos (show (1 : Nat) = 1 by decide)).trans ?_
    refine (zLet_eq (show _ = γ 1 from rfl)).trans ?_
    refine (zLet_eq (show _ = ρ 0 from rfl)).trans ?_
    refine (zLet_eq (show _ = ρ 1 from rfl)).trans ?_
    refine (zLet_eq (show _ = ρ 6 from rfl)).trans ?_
    rfl
  exact zGoo_ato hJ hD
theorem yn46 {S : Nat → zSpc}  : ∀ x g o v gz, zSem uW uT w46_.2.2.2.1 w46_.2.2.1.1.length S q46 (fun i => q46a.getD i []) (zNA a46_) x g o v gz → sn46 x g o v gz := by
  intro a g o v gz h
  exact zSem_all (l0 := q46) (las := q46a) (S := S) (J := (fun i vs g1 => jn46 a g i vs g1)) (P := sn46 a g) (fun _ => (show zAll _ [q46_0] from (zAll_c (vn46_0 ) zAll_n))) (fun _ => (show zAllI _ 0 [q46a0, q46a1] from ⟨(show zAll _ [q46a0_0, q46a0_1] from (zAll_c (vn46a0_0 ) (zAll_c (vn46a0_1 ) zAll_n))), ⟨(show zAll _ [q46a1_0, q46a1_1] from (zAll_c (vn46a1_0 ) (zAll_c (vn46a1_1 ) zAll_n))), trivial⟩⟩)) h
theorem vn47_0 {S : Nat → zSpc}  {a : List Int} {g : rHp} : ∀ (ρ : Nat → Int) (γ : Nat → rHp), zO 7 S a g q47_0 ρ γ → zGl (fun _ _ _ => True) (sn47 a g) q47_0 ρ γ := by
  intro ρ γ h
  obtain ⟨ha, hg, hr, hf, hm, hc, hl⟩ := h
  have ha : a = [ρ 0, ρ 1, ρ 2, ρ 3, ρ 4, ρ 5, ρ 6] := ha
  subst ha
  subst hg
  obtain ⟨⟨⟨⟨⟨-, c1⟩, c2⟩, c3⟩, c4⟩, c5⟩ := hc
  have c1 : γ 1 = rUp (γ 0) 15 0 44 (ρ 0) := c1
  have c2 : γ 2 = rUp (γ 1) 73 0 (ρ 0) 0 := c2
  have c3 : γ 3 = rUp (γ 2) 74 0 (ρ 0) 0 := c3
  have c4 : γ 4 = rUp (γ 3) 15 0 45 0 := c4
  have c5 : γ 5 = rUp (γ 4) 15 0 58 0 := c5
  show sn47 [ρ 0, ρ 1, ρ 2, ρ 3, ρ 4, ρ 5, ρ 6] (γ 0) 0 0 (γ 5)
  refine Eq.symm ?_
  show fn47 [ρ 0] (γ 0) = _
  unfold fn47
  refine (zLet_eq (show _ = ρ 0 from rfl)).trans ?_
  refine (zLet_eq c1.symm).trans ?_
  refine (zLet_eq c2.symm).trans ?_
  refine (zLet_eq c3.symm).trans ?_
  refine (zLet_eq c4.symm).trans ?_
  refine (zLet_eq c5.symm).trans ?_
  rfl
theorem yn47 {S : Nat → zSpc}  : ∀ x g o v gz, zSem uW uT w47_.2.2.2.1 w47_.2.2.1.1.length S q47 (fun i => q47a.getD i []) (zNA a47_) x g o v gz → sn47 x g o v gz := by
  intro a g o v gz h
  exact zSem_all (l0 := q47) (las := q47a) (S := S) (J := (fun _ _ _ => True)) (P := sn47 a g) (fun _ => (show zAll _ [q47_0] from (zAll_c (vn47_0 ) zAll_n))) (fun _ => (show zAllI _ 0 [] from trivial)) h
theorem vn48_0 {S : Nat → zSpc}  {a : List Int} {g : rHp} : ∀ (ρ : Nat → Int) (γ : Nat → rHp), zO 4 S a g q48_0 ρ γ → zGl (fun _ _ _ => True) (sn48 a g) q48_0 ρ γ := by
  intro ρ γ h
  obtain ⟨ha, hg, hr, hf, hm, hc, hl⟩ := h
  have ha : a = [ρ 0, ρ 1, ρ 2, ρ 3] := ha
  subst ha
  subst hg
  obtain ⟨⟨⟨⟨⟨-, c1⟩, c2⟩, c3⟩, c4⟩, c5⟩ := hc
  have c1 : γ 1 = rUp (γ 0) 15 0 44 61 := c1
  have c2 : γ 2 = rUp (γ 1) 73 0 61 0 := c2
  have c3 : γ 3 = rUp (γ 2) 74 0 61 0 := c3
  have c4 : γ 4 = rUp (γ 3) 15 0 45 0 := c4
  have c5 : γ 5 = rUp (γ 4) 15 0 58 0 := c5
  show sn48 [ρ 0, ρ 1, ρ 2, ρ 3] (γ 0) 0 0 (γ 5)
  refine Eq.symm ?_
  show fn48 [] (γ 0) = _
  unfold fn48
  refine (zLet_eq c1.symm).trans ?_
  refine (zLet_eq c2.symm).trans ?_
  refine (zLet_eq c3.symm).trans ?_
  refine (zLet_eq c4.symm).trans ?_
  refine (zLet_eq c5.symm).trans ?_
  rfl
theorem yn48 {S : Nat → zSpc}  : ∀ x g o v gz, zSem uW uT w48_.2.2.2.1 w48_.2.2.1.1.length S q48 (fun i => q48a.getD i []) (zNA a48_) x g o v gz → sn48 x g o v gz := by
  intro a g o v gz h
  exact zSem_all (l0 := q48) (las := q48a) (S := S) (J := (fun _ _ _ => True)) (P := sn48 a g) (fun _ => (show zAll _ [q48_0] from (zAll_c (vn48_0 ) zAll_n))) (fun _ => (show zAllI _ 0 [] from trivial)) h
