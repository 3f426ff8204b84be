/-! ===== the runs are the functions ===== -/
theorem vn38_0 {S : Nat → zSpc} (hS6 : ∀ x g o v gz, S 6 x g o v gz → sn6 x g o v gz) (hS7 : ∀ x g o v gz, S 7 x g o v gz → sn7 x g o v gz) (hS8 : ∀ x g o v gz, S 8 x g o v gz → sn8 x g o v gz) (hS37 : ∀ x g o v gz, S 37 x g o v gz → sn37 x g o v gz) {a : List Int} {g : rHp} : ∀ (ρ : Nat → Int) (γ : Nat → rHp), zO 15 S a g q38_0 ρ γ → zGl (fun i vs g1 => jn38 a g i vs g1) (sn38 a g) q38_0 ρ γ := by
  intro ρ γ h
  obtain ⟨ha, hg, hr, hf, hm, hc, hl⟩ := h
  have ha : a = [ρ 0, ρ 1, ρ 2, ρ 3, ρ 4, ρ 5, ρ 6, ρ 7, ρ 8, ρ 9, ρ 10, ρ 11, ρ 12, ρ 13, ρ 14] := ha
  subst ha
  subst hg
  show jn38 [ρ 0, ρ 1, ρ 2, ρ 3, ρ 4, ρ 5, ρ 6, ρ 7, ρ 8, ρ 9, ρ 10, ρ 11, ρ 12, ρ 13, ρ 14] (γ 0) 0 [ρ 0, ρ 1, ρ 2, ρ 3, ρ 4, ρ 5, ρ 6, ρ 7, ρ 8, ρ 9, ρ 10, ρ 11, ρ 12, ρ 13, ρ 14, 1, ρ 1, ρ 3, ρ 4, ρ 5, ρ 9, ρ 11, ρ 12, ρ 13, ρ 14, ρ 8] (γ 0)
  have hD : dn38 [ρ 0] (γ 0) = .inl (0, [ρ 0, 1], γ 0) := by
    unfold dn38
    refine (zLet_eq (show _ = ρ 0 from rfl)).trans ?_
    rfl
  exact zGoo_to hD
theorem vn38a0_0 {S : Nat → zSpc} (hS6 : ∀ x g o v gz, S 6 x g o v gz → sn6 x g o v gz) (hS7 : ∀ x g o v gz, S 7 x g o v gz → sn7 x g o v gz) (hS8 : ∀ x g o v gz, S 8 x g o v gz → sn8 x g o v gz) (hS37 : ∀ x g o v gz, S 37 x g o v gz → sn37 x g o v gz) {a : List Int} {g : rHp} : ∀ (ρ : Nat → Int) (γ : Nat → rHp), jn38 a g 0 (zAg (zNA a38_ 0) ρ) (γ 1) → zO 15 S a g q38a0_0 ρ γ → zGl (fun i vs g1 => jn38 a g i vs g1) (sn38 a g) q38a0_0 ρ γ := by
  intro ρ γ hJ h
  obtain ⟨ha, hg, hr, hf, hm, hc, hl⟩ := h
  have ha : a = [ρ 0, ρ 1, ρ 2, ρ 3, ρ 4, ρ 5, ρ 6, ρ 7, ρ 8, ρ 9, ρ 10, ρ 11, ρ 12, ρ 13, ρ 14] := ha
  subst ha
  subst hg
  have hJ : jn38 [ρ 0, ρ 1, ρ 2, ρ 3, ρ 4, ρ 5, ρ 6, ρ 7, ρ 8, ρ 9, ρ 10, ρ 11, ρ 12, ρ 13, ρ 14] (γ 0) 0 [ρ 0, ρ 1, ρ 2, ρ 3, ρ 4, ρ 5, ρ 6, ρ 7, ρ 8, ρ 9, ρ 10, ρ 11, ρ 12, ρ 13, ρ 14, ρ 15, ρ 16, ρ 17, ρ 18, ρ 19, ρ 20, ρ 21, ρ 22, ρ 23, ρ 24, ρ 25] (γ 1) := hJ
  obtain ⟨-, -, -, -, -, -, -, -, -, -, -, -, -, -, -, r15, -⟩ := hr
  have r15 : (0 : Int) ≤ ρ 15 ∧ ρ 15 ≤ 0 := r15
  have w_0 : ρ 15 = 0 := by omega
  obtain ⟨-, m1, -, -, -, -, m6, -, -, -, -, -, -, -, -, -, -, -, -, -, -, -, -, -, m24, -⟩ := hm
  have m1 : γ 0 15 0 34 = ρ 2 := m1
  have m6 : γ 0 15 0 44 = ρ 7 := m6
  have m24 : γ 1 73 0 (ρ 7) = ρ 25 := m24
  show sn38 [ρ 0, ρ 1, ρ 2, ρ 3, ρ 4, ρ 5, ρ 6, ρ 7, ρ 8, ρ 9, ρ 10, ρ 11, ρ 12, ρ 13, ρ 14] (γ 0) 0 1 (γ 1)
  have hD : en38 (γ 0) (0, [ρ 0, ρ 15], γ 1) = .inr (0, 1, γ 1) := by
    unfold en38
    refine (if_pos (show (0 : Nat) = 0 by decide)).trans ?_
    refine (zLet_eq (show _ = γ 1 from rfl)).trans ?_
    refine (zLet_eq (show _ = ρ 0 from rfl)).trans ?_
    refine (zLet_eq (show _ = ρ 15 from rfl)).trans ?_
    refine (zLet_eq m1).trans ?_
    refine (zLet_eq m6).trans ?_
    refine (zLet_eq m24).trans ?_
    refine (if_pos w_0).trans ?_
    rfl
  exact zGoo_aend hJ hD
theorem vn38a0_1 {S : Nat → zSpc} (hS6 : ∀ x g o v gz, S 6 x g o v gz → sn6 x g o v gz) (hS7 : ∀ x g o v gz, S 7 x g o v gz → sn7 x g o v gz) (hS8 : ∀ x g o v gz, S 8 x g o v gz → sn8 x g o v gz) (hS37 : ∀ x g o v gz, S 37 x g o v gz → sn37 x g o v gz) {a : List Int} {g : rHp} : ∀ (ρ : Nat → Int) (γ : Nat → rHp), jn38 a g 0 (zAg (zNA a38_ 0) ρ) (γ 1) → zO 15 S a g q38a0_1 ρ γ → zGl (fun i vs g1 => jn38 a g i vs g1) (sn38 a g) q38a0_1 ρ γ := by
  intro ρ γ hJ h
  obtain ⟨ha, hg, hr, hf, hm, hc, hl⟩ := h
  have ha : a = [ρ 0, ρ 1, ρ 2, ρ 3, ρ 4, ρ 5, ρ 6, ρ 7, ρ 8, ρ 9, ρ 10, ρ 11, ρ 12, ρ 13, ρ 14] := ha
  subst ha
  subst hg
  have hJ : jn38 [ρ 0, ρ 1, ρ 2, ρ 3, ρ 4, ρ 5, ρ 6, ρ 7, ρ 8, ρ 9, ρ 10, ρ 11, ρ 12, ρ 13, ρ 14] (γ 0) 0 [ρ 0, ρ 1, ρ 2, ρ 3, ρ 4, ρ 5, ρ 6, ρ 7, ρ 8, ρ 9, ρ 10, ρ 11, ρ 12, ρ 13, ρ 14, ρ 15, ρ 16, ρ 17, ρ 18, ρ 19, ρ 20, ρ 21, ρ 22, ρ 23, ρ 24, ρ 25] (γ 1) := hJ
  obtain ⟨-, -, -, -, -, -, -, -, -, -, -, -, -, -, -, r15, -, -, -, -, -, -, -, -, -, r25, -⟩ := hr
  have r15 : (1 : Int) ≤ ρ 15 ∧ ρ 15 ≤ 1 := r15
  have r25 : (0 : Int) ≤ ρ 25 ∧ ρ 25 ≤ 7 := r25
  obtain ⟨w_0, w_1⟩ : (¬ (ρ 15 = 0)) ∧ (ρ 25 ≠ 8) := ⟨by omega, by omega⟩
  obtain ⟨-, m1, -, -, -, -, m6, -, -, -, -, -, -, -, -, -, -, -, -, -, -, -, -, -, m24, m25, -⟩ := hm
  have m1 : γ 0 15 0 34 = ρ 2 := m1
  have m6 : γ 0 15 0 44 = ρ 7 := m6
  have m24 : γ 1 73 0 (ρ 7) = ρ 25 := m24
  have m25 : γ 2 15 0 35 = ρ 26 := m25
  obtain ⟨l0, l1, -⟩ := hl
  have l0 : sn7 [ρ 16, ρ 2] (γ 1) 0 0 (γ 2) := hS7 _ _ _ _ _ l0
  have l1 : sn37 [ρ 0, ρ 26, ρ 2, ρ 17, ρ 18, ρ 19, ρ 7, ρ 25, ρ 27, ρ 28, ρ 20, ρ 10, ρ 21, ρ 22, ρ 23, ρ 24] (γ 2) 0 0 (γ 3) := hS37 _ _ _ _ _ l1
  show sn38 [ρ 0, ρ 1, ρ 2, ρ 3, ρ 4, ρ 5, ρ 6, ρ 7, ρ 8, ρ 9, ρ 10, ρ 11, ρ 12, ρ 13, ρ 14] (γ 0) 0 0 (γ 3)
  have hD : en38 (γ 0) (0, [ρ 0, ρ 15], γ 1) = .inr (0, 0, γ 3) := by
    unfold en38
    refine (if_pos (show (0 : Nat) = 0 by decide)).trans ?_
    refine (zLet_eq (show _ = γ 1 from rfl)).trans ?_
    refine (zLet_eq (show _ = ρ 0 from rfl)).trans ?_
    refine (zLet_eq (show _ = ρ 15 from rfl)).trans ?_
    refine (zLet_eq m1).trans ?_
    refine (zLet_eq m6).trans ?_
    refine (zLet_eq m24).trans ?_
    refine (if_neg w_0).trans ?_
    refine (zLet_eq (show fn7 [] (γ 1) = (0, 0, γ 2) from l0.symm)).trans ?_
    refine (zLet_eq (show _ = γ 2 from rfl)).trans ?_
    refine (zLet_eq m25).trans ?_
    refine (if_pos w_1).trans ?_
    refine (zLet_eq (show fn37 [ρ 0] (γ 2) = (0, 0, γ 3) from l1.symm)).trans ?_
    refine (zLet_eq (show _ = γ 3 from rfl)).trans ?_
    refine (if_neg zQ0_).trans ?_
    rfl
  exact zGoo_aend hJ hD
theorem vn38a0_2 {S : Nat → zSpc} (hS6 : ∀ x g o v gz, S 6 x g o v gz → sn6 x g o v gz) (hS7 : ∀ x g o v gz, S 7 x g o v gz → sn7 x g o v gz) (hS8 : ∀ x g o v gz, S 8 x g o v gz → sn8 x g o v gz) (hS37 : ∀ x g o v gz, S 37 x g o v gz → sn37 x g o v gz) {a : List Int} {g : rHp} : ∀ (ρ : Nat → Int) (γ : Nat → rHp), jn38 a g 0 (zAg (zNA a38_ 0) ρ) (γ 1) → zO 15 S a g q38a0_2 ρ γ → zGl (fun i vs g1 => jn38 a g i vs g1) (sn38 a g) q38a0_2 ρ γ := by
  intro ρ γ hJ h
  obtain ⟨ha, hg, hr, hf, hm, hc, hl⟩ := h
  have ha : a = [ρ 0, ρ 1, ρ 2, ρ 3, ρ 4, ρ 5, ρ 6, ρ 7, ρ 8, ρ 9, ρ 10, ρ 11, ρ 12, ρ 13, ρ 14] := ha
  subst ha
  subst hg
  have hJ : jn38 [ρ 0, ρ 1, ρ 2, ρ 3, ρ 4, ρ 5, ρ 6, ρ 7, ρ 8, ρ 9, ρ 10, ρ 11, ρ 12, ρ 13, ρ 14] (γ 0) 0 [ρ 0, ρ 1, ρ 2, ρ 3, ρ 4, ρ 5, ρ 6, ρ 7, ρ 8, ρ 9, ρ 10, ρ 11, ρ 12, ρ 13, ρ 14, ρ 15, ρ 16, ρ 17, ρ 18, ρ 19, ρ 20, ρ 21, ρ 22, ρ 23, ρ 24, ρ 25] (γ 1) := hJ
  obtain ⟨r0, r1, r2, r3, r4, r5, r6, r7, r8, r9, r10, r11, r12, r13, r14, r15, r16, r17, r18, r19, r20, r21, r22, r23, r24, r25, r26, r27, r28, r29, r30, r31, r32, r33, r34, r35, r36, r37, r38, r39, r40, r41, -⟩ := hr
  have r0 : (0 : Int) ≤ ρ 0 ∧ ρ 0 ≤ 1 := r0
  have r1 : (0 : Int) ≤ ρ 1 ∧ ρ 1 ≤ 2000 := r1
  have r2 : (0 : Int) ≤ ρ 2 ∧ ρ 2 ≤ 2000 := r2
  have r3 : (0 : Int) ≤ ρ 3 ∧ ρ 3 ≤ 12288 := r3
  have r4 : (0 : Int) ≤ ρ 4 ∧ ρ 4 ≤ 12288 := r4
  have r5 : (0 : Int) ≤ ρ 5 ∧ ρ 5 ≤ 64 := r5
  have r6 : (0 : Int) ≤ ρ 6 ∧ ρ 6 ≤ 60 := r6
  have r7 : (0 : Int) ≤ ρ 7 ∧ ρ 7 ≤ 61 := r7
  have r8 : (0 : Int) ≤ ρ 8 ∧ ρ 8 ≤ 8 := r8
  have r9 : (0 : Int) ≤ ρ 9 ∧ ρ 9 ≤ 20 := r9
  have r10 : (0 : Int) ≤ ρ 10 ∧ ρ 10 ≤ 2000 := r10
  have r11 : (0 : Int) ≤ ρ 11 ∧ ρ 11 ≤ 2000 := r11
  have r12 : (0 : Int) ≤ ρ 12 ∧ ρ 12 ≤ 2000 := r12
  have r13 : (0 : Int) ≤ ρ 13 ∧ ρ 13 ≤ 3 := r13
  have r14 : ((-2147483648) : Int) ≤ ρ 14 ∧ ρ 14 ≤ 2147483647 := r14
  have r15 : (1 : Int) ≤ ρ 15 ∧ ρ 15 ≤ 1 := r15
  have r16 : (0 : Int) ≤ ρ 16 ∧ ρ 16 ≤ 2000 := r16
  have r17 : (0 : Int) ≤ ρ 17 ∧ ρ 17 ≤ 12288 := r17
  have r18 : (0 : Int) ≤ ρ 18 ∧ ρ 18 ≤ 12288 := r18
  have r19 : (0 : Int) ≤ ρ 19 ∧ ρ 19 ≤ 43 := r19
  have r20 : (0 : Int) ≤ ρ 20 ∧ ρ 20 ≤ 20 := r20
  have r21 : (0 : Int) ≤ ρ 21 ∧ ρ 21 ≤ 2000 := r21
  have r22 : (0 : Int) ≤ ρ 22 ∧ ρ 22 ≤ 2000 := r22
  have r23 : (0 : Int) ≤ ρ 23 ∧ ρ 23 ≤ 3 := r23
  have r24 : ((-2147483648) : Int) ≤ ρ 24 ∧ ρ 24 ≤ 2147483647 := r24
  have r25 : (0 : Int) ≤ ρ 25 ∧ ρ 25 ≤ 7 := r25
  have r26 : (0 : Int) ≤ ρ 26 ∧ ρ 26 ≤ 2000 := r26
  have r27 : (0 : Int) ≤ ρ 27 ∧ ρ 27 ≤ 7 := r27
  have r28 : ((-2147483648) : Int) ≤ ρ 28 ∧ ρ 28 ≤ 1099511640064 := r28
  have r29 : (2 : Int) ≤ ρ 29 ∧ ρ 29 ≤ 2000 := r29
  have r30 : (0 : Int) ≤ ρ 30 ∧ ρ 30 ≤ 12288 := r30
  have r31 : (0 : Int) ≤ ρ 31 ∧ ρ 31 ≤ 12288 := r31
  have r32 : (0 : Int) ≤ ρ 32 ∧ ρ 32 ≤ 39 := r32
  have r33 : (0 : Int) ≤ ρ 33 ∧ ρ 33 ≤ 4 := r33
  have r34 : ((-2147483648) : Int) ≤ ρ 34 ∧ ρ 34 ≤ 1099511640064 := r34
  have r35 : (0 : Int) ≤ ρ 35 ∧ ρ 35 ≤ 20 := r35
  have r36 : (0 : Int) ≤ ρ 36 ∧ ρ 36 ≤ 2000 := r36
  have r37 : (0 : Int) ≤ ρ 37 ∧ ρ 37 ≤ 2000 := r37
  have r38 : (0 : Int) ≤ ρ 38 ∧ ρ 38 ≤ 3 := r38
  have r39 : ((-2147483648) : Int) ≤ ρ 39 ∧ ρ 39 ≤ 2147483647 := r39
  have r40 : (0 : Int) ≤ ρ 40 ∧ ρ 40 ≤ 2000 := r40
  have r41 : ((-128) : Int) ≤ ρ 41 ∧ ρ 41 ≤ 127 := r41
  obtain ⟨f0, f1, f2, f3, f4, f5, f6, f7, f8, f9, f10, f11, f12, f13, f14, f15, f16, f17, f18, f19, f20, f21, f22, f23, f24, f25, f26, f27, f28, f29, f30, f31, f32, f33, f34, -⟩ := hf
  have f0 : (0 : Int) ≤ -ρ 40 + ρ 2 + (-1) := f0
  have f1 : (0 : Int) ≤ -ρ 29 + ρ 2 := f1
  have f2 : (0 : Int) ≤ ρ 40 + -ρ 29 := f2
  have f3 : (0 : Int) ≤ -ρ 40 + ρ 2 := f3
  have f4 : (0 : Int) ≤ ρ 26 + (-ρ 17 + -ρ 2) + 12288 := f4
  have f5 : (0 : Int) ≤ ρ 26 + (-ρ 18 + -ρ 2) + 12288 := f5
  have f6 : (0 : Int) ≤ -ρ 26 + ρ 2 := f6
  have f7 : (0 : Int) ≤ 4 * ρ 25 + -ρ 19 + 6 := f7
  have f8 : (0 : Int) ≤ ρ 29 + -ρ 26 + (-1) := f8
  have f9 : (0 : Int) ≤ ρ 30 + -ρ 17 := f9
  have f10 : (0 : Int) ≤ ρ 31 + -ρ 18 := f10
  have f11 : (0 : Int) ≤ ρ 32 + -ρ 19 := f11
  have f12 : (0 : Int) ≤ ρ 35 + -ρ 20 := f12
  have f13 : (0 : Int) ≤ ρ 2 + -ρ 0 + (-1) := f13
  have f14 : (0 : Int) ≤ -ρ 26 + ρ 2 + (-1) := f14
  have f15 : (0 : Int) ≤ -ρ 30 + (ρ 29 + (-ρ 26 + ρ 17)) := f15
  have f16 : (0 : Int) ≤ -ρ 31 + (ρ 29 + (-ρ 26 + ρ 18)) := f16
  have f17 : (0 : Int) ≤ -ρ 32 + 4 * ρ 25 + 10 := f17
  have f18 : (0 : Int) ≤ -ρ 16 + ρ 2 := f18
  have f19 : (0 : Int) ≤ ρ 26 + -ρ 16 := f19
  have f20 : (0 : Int) ≤ -ρ 18 + (ρ 16 + -ρ 2) + 12288 := f20
  have f21 : (0 : Int) ≤ -ρ 17 + (ρ 16 + -ρ 2) + 12288 := f21
  have f22 : (0 : Int) ≤ -ρ 18 + (ρ 16 + (ρ 4 + -ρ 1)) := f22
  have f23 : (0 : Int) ≤ -ρ 17 + (ρ 16 + (ρ 3 + -ρ 1)) := f23
  have f24 : (0 : Int) ≤ ρ 25 + -ρ 8 := f24
  have f25 : (0 : Int) ≤ ρ 20 + -ρ 9 := f25
  have f26 : (0 : Int) ≤ ρ 19 + -ρ 5 := f26
  have f27 : (0 : Int) ≤ ρ 18 + -ρ 4 := f27
  have f28 : (0 : Int) ≤ ρ 17 + -ρ 3 := f28
  have f29 : (0 : Int) ≤ ρ 16 + -ρ 1 := f29
  have f30 : (0 : Int) ≤ ρ 7 + -ρ 6 := f30
  have f31 : (0 : Int) ≤ 4 * ρ 8 + -ρ 5 + 6 := f31
  have f32 : (0 : Int) ≤ ρ 2 + -ρ 1 := f32
  have f33 : (0 : Int) ≤ -ρ 4 + (-ρ 2 + ρ 1) + 12288 := f33
  have f34 : (0 : Int) ≤ -ρ 3 + (-ρ 2 + ρ 1) + 12288 := f34
  obtain ⟨m0, m1, m2, m3, m4, m5, m6, m7, m8, m9, m10, m11, m12, m13, m14, m15, m16, m17, m18, m19, m20, m21, m22, m23, m24, m25, m26, m27, m28, m29, m30, m31, m32, m33, m34, m35, m36, m37, m38, m39, m40, -⟩ := hm
  have m0 : γ 0 15 0 35 = ρ 1 := m0
  have m1 : γ 0 15 0 34 = ρ 2 := m1
  have m2 : γ 0 15 0 8 = ρ 3 := m2
  have m3 : γ 0 15 0 9 = ρ 4 := m3
  have m4 : γ 0 15 0 58 = ρ 5 := m4
  have m5 : γ 0 15 0 32 = ρ 6 := m5
  have m6 : γ 0 15 0 44 = ρ 7 := m6
  have m7 : γ 0 73 0 (ρ 7) = ρ 8 := m7
  have m8 : γ 0 15 0 14 = ρ 9 := m8
  have m9 : γ 0 15 0 36 = ρ 10 := m9
  have m10 : γ 0 15 0 37 = ρ 11 := m10
  have m11 : γ 0 15 0 38 = ρ 12 := m11
  have m12 : γ 0 15 0 40 = ρ 13 := m12
  have m13 : γ 0 15 0 45 = ρ 14 := m13
  have m14 : γ 1 15 0 35 = ρ 16 := m14
  have m15 : γ 1 15 0 8 = ρ 17 := m15
  have m16 : γ 1 15 0 9 = ρ 18 := m16
  have m17 : γ 1 15 0 58 = ρ 19 := m17
  have m18 : γ 1 15 0 14 = ρ 20 := m18
  have m19 : γ 1 15 0 36 = ρ 10 := m19
  have m20 : γ 1 15 0 37 = ρ 21 := m20
  have m21 : γ 1 15 0 38 = ρ 22 := m21
  have m22 : γ 1 15 0 40 = ρ 23 := m22
  have m23 : γ 1 15 0 45 = ρ 24 := m23
  have m24 : γ 1 73 0 (ρ 7) = ρ 25 := m24
  have m25 : γ 2 15 0 35 = ρ 26 := m25
  have m26 : γ 1 77 0 (ρ 25 + 8 * ρ 7) = ρ 27 := m26
  have m27 : γ 1 81 0 (4 * ρ 25 + 32 * ρ 7) = ρ 28 := m27
  have m28 : γ 3 15 0 35 = ρ 29 := m28
  have m29 : γ 3 15 0 8 = ρ 30 := m29
  have m30 : γ 3 15 0 9 = ρ 31 := m30
  have m31 : γ 3 15 0 58 = ρ 32 := m31
  have m32 : γ 3 77 0 (ρ 25 + 8 * ρ 7) = ρ 33 := m32
  have m33 : γ 3 81 0 (4 * ρ 25 + 32 * ρ 7) = ρ 34 := m33
  have m34 : γ 3 15 0 14 = ρ 35 := m34
  have m35 : γ 3 15 0 36 = ρ 10 := m35
  have m36 : γ 3 15 0 37 = ρ 36 := m36
  have m37 : γ 3 15 0 38 = ρ 37 := m37
  have m38 : γ 3 15 0 40 = ρ 38 := m38
  have m39 : γ 3 15 0 45 = ρ 39 := m39
  have m40 : γ 5 15 0 35 = ρ 40 := m40
  obtain ⟨⟨⟨⟨⟨⟨-, c1⟩, c2⟩, c3⟩, c4⟩, c5⟩, c6⟩ := hc
  have c1 : ∀ (G : Nat) (k j : Int), ¬ rMdP m27_ G j → γ 1 G k j = γ 0 G k j := c1
  have c2 : ∀ (G : Nat) (k j : Int), ¬ rMdP m6_ G j → γ 2 G k j = γ 1 G k j := c2
  have c3 : ∀ (G : Nat) (k j : Int), ¬ rMdP m25_ G j → γ 3 G k j = γ 2 G k j := c3
  have c4 : γ 4 = rUp (γ 3) 73 0 (ρ 7) (ρ 25 + 1) := c4
  have c5 : ∀ (G : Nat) (k j : Int), ¬ rMdP m6_ G j → γ 5 G k j = γ 4 G k j := c5
  have c6 : ∀ (G : Nat) (k j : Int), ¬ rMdP m0_ G j → γ 6 G k j = γ 5 G k j := c6
  obtain ⟨l0, l1, l2, l3, l4, -⟩ := hl
  have l0 : sn7 [ρ 16, ρ 2] (γ 1) 0 0 (γ 2) := hS7 _ _ _ _ _ l0
  have l1 : sn37 [ρ 0, ρ 26, ρ 2, ρ 17, ρ 18, ρ 19, ρ 7, ρ 25, ρ 27, ρ 28, ρ 20, ρ 10, ρ 21, ρ 22, ρ 23, ρ 24] (γ 2) 0 1 (γ 3) := hS37 _ _ _ _ _ l1
  have l2 : sn7 [ρ 29, ρ 2] (γ 4) 0 0 (γ 5) := hS7 _ _ _ _ _ l2
  have l3 : sn6 [ρ 40, ρ 2] (γ 5) 0 (ρ 41) (γ 6) := hS6 _ _ _ _ _ l3
  have l4 : ρ 41 ≠ 44 := l4
  show jn38 [ρ 0, ρ 1, ρ 2, ρ 3, ρ 4, ρ 5, ρ 6, ρ 7, ρ 8, ρ 9, ρ 10, ρ 11, ρ 12, ρ 13, ρ 14] (γ 0) 0 [ρ 0, ρ 1, ρ 2, ρ 3, ρ 4, ρ 5, ρ 6, ρ 7, ρ 8, ρ 9, ρ 10, ρ 11, ρ 12, ρ 13, ρ 14, 0, ρ 40, ρ 30, ρ 31, ρ 32, ρ 35, ρ 36, ρ 37, ρ 38, ρ 39, ρ 25 + 1] (γ 6)
  have hD : en38 (γ 0) (0, [ρ 0, ρ 15], γ 1) = .inl (0, [ρ 0, 0], γ 6) := by
    unfold en38
    refine (if_pos (show (0 : Nat) = 0 by decide)).trans ?_
    refine (zLet_eq (show _ = γ 1 from rfl)).trans ?_
    refine (zLet_eq (show _ = ρ 0 from rfl)).trans ?_
    refine (zLet_eq (show _ = ρ 15 from rfl)).trans ?_
    refine (zLet_eq m1).trans ?_
    refine (zLet_eq m6).trans ?_
    refine (zLet_eq m24).trans ?_
    refine (if_neg (show ¬ (ρ 15 = 0) by omega)).trans ?_
    refine (zLet_eq (show fn7 [] (γ 1) = (0, 0, γ 2) from l0.symm)).trans ?_
    refine (zLet_eq (show _ = γ 2 from rfl)).trans ?_
    refine (zLet_eq m25).trans ?_
    refine (if_pos (show ρ 25 ≠ 8 by omega)).trans ?_
    refine (zLet_eq (show fn37 [ρ 0] (γ 2) = (0, 1, γ 3) from l1.symm)).trans ?_
    refine (zLet_eq (show _ = γ 3 from rfl)).trans ?_
    refine (if_pos (show (1 : Int) ≤ 1 by omega)).trans ?_
    refine (if_neg (show ¬ (5 ≤ γ 3 77 0 (ρ 25 + 8 * ρ 7)) by omega)).trans ?_
    refine (zLet_eq c4.symm).trans ?_
    refine (zLet_eq (show fn7 [] (γ 4) = (0, 0, γ 5) from l2.symm)).trans ?_
    refine (zLet_eq (show _ = γ 5 from rfl)).trans ?_
    refine (zLet_eq m40).trans ?_
    refine (zLet_eq (show fn6 [ρ 40] (γ 5) = (0, ρ 41, γ 6) from l3.symm)).trans ?_
    refine (zLet_eq (show _ = γ 6 from rfl)).trans ?_
    refine (if_pos (show 0 ≤ -ρ 40 + ρ 2 + (-1) by omega)).trans ?_
    refine (zLet_eq (show _ = ρ 41 from rfl)).trans ?_
    refine (if_pos (show ρ 41 ≠ 44 by omega)).trans ?_
    rfl
  exact zGoo_ato hJ hD
theorem vn38a0_3 {S : Nat → zSpc} (hS6 : ∀ x g o v gz, S 6 x g o v gz → sn6 x g o v gz) (hS7 : ∀ x g o v gz, S 7 x g o v gz → sn7 x g o v gz) (hS8 : ∀ x g o v gz, S 8 x g o v gz → sn8 x g o v gz) (hS37 : ∀ x g o v gz, S 37 x g o v gz → sn37 x g o v gz) {a : List Int} {g : rHp} : ∀ (ρ : Nat → Int) (γ : Nat → rHp), jn38 a g 0 (zAg (zNA a38_ 0) ρ) (γ 1) → zO 15 S a g q38a0_3 ρ γ → zGl (fun i vs g1 => jn38 a g i vs g1) (sn38 a g) q38a0_3 ρ γ := by
  intro ρ γ hJ h
  obtain ⟨ha, hg, hr, hf, hm, hc, hl⟩ := h
  have ha : a = [ρ 0, ρ 1, ρ 2, ρ 3, ρ 4, ρ 5, ρ 6, ρ 7, ρ 8, ρ 9, ρ 10, ρ 11, ρ 12, ρ 13, ρ 14] := ha
  subst ha
  subst hg
  have hJ : jn38 [ρ 0, ρ 1, ρ 2, ρ 3, ρ 4, ρ 5, ρ 6, ρ 7, ρ 8, ρ 9, ρ 10, ρ 11, ρ 12, ρ 13, ρ 14] (γ 0) 0 [ρ 0, ρ 1, ρ 2, ρ 3, ρ 4, ρ 5, ρ 6, ρ 7, ρ 8, ρ 9, ρ 10, ρ 11, ρ 12, ρ 13, ρ 14, ρ 15, ρ 16, ρ 17, ρ 18, ρ 19, ρ 20, ρ 21, ρ 22, ρ 23, ρ 24, ρ 25] (γ 1) := hJ
  obtain ⟨r0, r1, r2, r3, r4, r5, r6, r7, r8, r9, r10, r11, r12, r13, r14, r15, r16, r17, r18, r19, r20, r21, r22, r23, r24, r25, r26, r27, r28, r29, r30, r31, r32, r33, r34, r35, r36, r37, r38, r39, r40, r41, -⟩ := hr
  have r0 : (0 : Int) ≤ ρ 0 ∧ ρ 0 ≤ 1 := r0
  have r1 : (0 : Int) ≤ ρ 1 ∧ ρ 1 ≤ 2000 := r1
  have r2 : (0 : Int) ≤ ρ 2 ∧ ρ 2 ≤ 2000 := r2
  have r3 : (0 : Int) ≤ ρ 3 ∧ ρ 3 ≤ 12288 := r3
  have r4 : (0 : Int) ≤ ρ 4 ∧ ρ 4 ≤ 12288 := r4
  have r5 : (0 : Int) ≤ ρ 5 ∧ ρ 5 ≤ 64 := r5
  have r6 : (0 : Int) ≤ ρ 6 ∧ ρ 6 ≤ 60 := r6
  have r7 : (0 : Int) ≤ ρ 7 ∧ ρ 7 ≤ 61 := r7
  have r8 : (0 : Int) ≤ ρ 8 ∧ ρ 8 ≤ 8 := r8
  have r9 : (0 : Int) ≤ ρ 9 ∧ ρ 9 ≤ 20 := r9
  have r10 : (0 : Int) ≤ ρ 10 ∧ ρ 10 ≤ 2000 := r10
  have r11 : (0 : Int) ≤ ρ 11 ∧ ρ 11 ≤ 2000 := r11
  have r12 : (0 : Int) ≤ ρ 12 ∧ ρ 12 ≤ 2000 := r12
  have r13 : (0 : Int) ≤ ρ 13 ∧ ρ 13 ≤ 3 := r13
  have r14 : ((-2147483648) : Int) ≤ ρ 14 ∧ ρ 14 ≤ 2147483647 := r14
  have r15 : (1 : Int) ≤ ρ 15 ∧ ρ 15 ≤ 1 := r15
  have r16 : (0 : Int) ≤ ρ 16 ∧ ρ 16 ≤ 2000 := r16
  have r17 : (0 : Int) ≤ ρ 17 ∧ ρ 17 ≤ 12288 := r17
  have r18 : (0 : Int) ≤ ρ 18 ∧ ρ 18 ≤ 12288 := r18
  have r19 : (0 : Int) ≤ ρ 19 ∧ ρ 19 ≤ 43 := r19
  have r20 : (0 : Int) ≤ ρ 20 ∧ ρ 20 ≤ 20 := r20
  have r21 : (0 : Int) ≤ ρ 21 ∧ ρ 21 ≤ 2000 := r21
  have r22 : (0 : Int) ≤ ρ 22 ∧ ρ 22 ≤ 2000 := r22
  have r23 : (0 : Int) ≤ ρ 23 ∧ ρ 23 ≤ 3 := r23
  have r24 : ((-2147483648) : Int) ≤ ρ 24 ∧ ρ 24 ≤ 2147483647 := r24
  have r25 : (0 : Int) ≤ ρ 25 ∧ ρ 25 ≤ 7 := r25
  have r26 : (0 : Int) ≤ ρ 26 ∧ ρ 26 ≤ 2000 := r26
  have r27 : (0 : Int) ≤ ρ 27 ∧ ρ 27 ≤ 7 := r27
  have r28 : ((-2147483648) : Int) ≤ ρ 28 ∧ ρ 28 ≤ 1099511640064 := r28
  have r29 : (2 : Int) ≤ ρ 29 ∧ ρ 29 ≤ 2000 := r29
  have r30 : (0 : Int) ≤ ρ 30 ∧ ρ 30 ≤ 12288 := r30
  have r31 : (0 : Int) ≤ ρ 31 ∧ ρ 31 ≤ 12288 := r31
  have r32 : (0 : Int) ≤ ρ 32 ∧ ρ 32 ≤ 39 := r32
  have r33 : (0 : Int) ≤ ρ 33 ∧ ρ 33 ≤ 4 := r33
  have r34 : ((-2147483648) : Int) ≤ ρ 34 ∧ ρ 34 ≤ 1099511640064 := r34
  have r35 : (0 : Int) ≤ ρ 35 ∧ ρ 35 ≤ 20 := r35
  have r36 : (0 : Int) ≤ ρ 36 ∧ ρ 36 ≤ 2000 := r36
  have r37 : (0 : Int) ≤ ρ 37 ∧ ρ 37 ≤ 2000 := r37
  have r38 : (0 : Int) ≤ ρ 38 ∧ ρ 38 ≤ 3 := r38
  have r39 : ((-2147483648) : Int) ≤ ρ 39 ∧ ρ 39 ≤ 2147483647 := r39
  have r40 : (0 : Int) ≤ ρ 40 ∧ ρ 40 ≤ 2000 := r40
  have r41 : (44 : Int) ≤ ρ 41 ∧ ρ 41 ≤ 44 := r41
  obtain ⟨f0, f1, f2, f3, f4, f5, f6, f7, f8, f9, f10, f11, f12, f13, f14, f15, f16, f17, f18, f19, f20, f21, f22, f23, f24, f25, f26, f27, f28, f29, f30, f31, f32, f33, f34, -⟩ := hf
  have f0 : (0 : Int) ≤ -ρ 40 + ρ 2 + (-1) := f0
  have f1 : (0 : Int) ≤ -ρ 29 + ρ 2 := f1
  have f2 : (0 : Int) ≤ ρ 40 + -ρ 29 := f2
  have f3 : (0 : Int) ≤ -ρ 40 + ρ 2 := f3
  have f4 : (0 : Int) ≤ ρ 26 + (-ρ 17 + -ρ 2) + 12288 := f4
  have f5 : (0 : Int) ≤ ρ 26 + (-ρ 18 + -ρ 2) + 12288 := f5
  have f6 : (0 : Int) ≤ -ρ 26 + ρ 2 := f6
  have f7 : (0 : Int) ≤ 4 * ρ 25 + -ρ 19 + 6 := f7
  have f8 : (0 : Int) ≤ ρ 29 + -ρ 26 + (-1) := f8
  have f9 : (0 : Int) ≤ ρ 30 + -ρ 17 := f9
  have f10 : (0 : Int) ≤ ρ 31 + -ρ 18 := f10
  have f11 : (0 : Int) ≤ ρ 32 + -ρ 19 := f11
  have f12 : (0 : Int) ≤ ρ 35 + -ρ 20 := f12
  have f13 : (0 : Int) ≤ ρ 2 + -ρ 0 + (-1) := f13
  have f14 : (0 : Int) ≤ -ρ 26 + ρ 2 + (-1) := f14
  have f15 : (0 : Int) ≤ -ρ 30 + (ρ 29 + (-ρ 26 + ρ 17)) := f15
  have f16 : (0 : Int) ≤ -ρ 31 + (ρ 29 + (-ρ 26 + ρ 18)) := f16
  have f17 : (0 : Int) ≤ -ρ 32 + 4 * ρ 25 + 10 := f17
  have f18 : (0 : Int) ≤ -ρ 16 + ρ 2 := f18
  have f19 : (0 : Int) ≤ ρ 26 + -ρ 16 := f19
  have f20 : (0 : Int) ≤ -ρ 18 + (ρ 16 + -ρ 2) + 12288 := f20
  have f21 : (0 : Int) ≤ -ρ 17 + (ρ 16 + -ρ 2) + 12288 := f21
  have f22 : (0 : Int) ≤ -ρ 18 + (ρ 16 + (ρ 4 + -ρ 1)) := f22
  have f23 : (0 : Int) ≤ -ρ 17 + (ρ 16 + (ρ 3 + -ρ 1)) := f23
  have f24 : (0 : Int) ≤ ρ 25 + -ρ 8 := f24
  have f25 : (0 : Int) ≤ ρ 20 + -ρ 9 := f25
  have f26 : (0 : Int) ≤ ρ 19 + -ρ 5 := f26
  have f27 : (0 : Int) ≤ ρ 18 + -ρ 4 := f27
  have f28 : (0 : Int) ≤ ρ 17 + -ρ 3 := f28
  have f29 : (0 : Int) ≤ ρ 16 + -ρ 1 := f29
  have f30 : (0 : Int) ≤ ρ 7 + -ρ 6 := f30
  have f31 : (0 : Int) ≤ 4 * ρ 8 + -ρ 5 + 6 := f31
  have f32 : (0 : Int) ≤ ρ 2 + -ρ 1 := f32
  have f33 : (0 : Int) ≤ -ρ 4 + (-ρ 2 + ρ 1) + 12288 := f33
  have f34 : (0 : Int) ≤ -ρ 3 + (-ρ 2 + ρ 1) + 12288 := f34
  obtain ⟨m0, m1, m2, m3, m4, m5, m6, m7, m8, m9, m10, m11, m12, m13, m14, m15, m16, m17, m18, m19, m20, m21, m22, m23, m24, m25, m26, m27, m28, m29, m30, m31, m32, m33, m34, m35, m36, m37, m38, m39, m40, -⟩ := hm
  have m0 : γ 0 15 0 35 = ρ 1 := m0
  have m1 : γ 0 15 0 34 = ρ 2 := m1
  have m2 : γ 0 15 0 8 = ρ 3 := m2
  have m3 : γ 0 15 0 9 = ρ 4 := m3
  have m4 : γ 0 15 0 58 = ρ 5 := m4
  have m5 : γ 0 15 0 32 = ρ 6 := m5
  have m6 : γ 0 15 0 44 = ρ 7 := m6
  have m7 : γ 0 73 0 (ρ 7) = ρ 8 := m7
  have m8 : γ 0 15 0 14 = ρ 9 := m8
  have m9 : γ 0 15 0 36 = ρ 10 := m9
  have m10 : γ 0 15 0 37 = ρ 11 := m10
  have m11 : γ 0 15 0 38 = ρ 12 := m11
  have m12 : γ 0 15 0 40 = ρ 13 := m12
  have m13 : γ 0 15 0 45 = ρ 14 := m13
  have m14 : γ 1 15 0 35 = ρ 16 := m14
  have m15 : γ 1 15 0 8 = ρ 17 := m15
  have m16 : γ 1 15 0 9 = ρ 18 := m16
  have m17 : γ 1 15 0 58 = ρ 19 := m17
  have m18 : γ 1 15 0 14 = ρ 20 := m18
  have m19 : γ 1 15 0 36 = ρ 10 := m19
  have m20 : γ 1 15 0 37 = ρ 21 := m20
  have m21 : γ 1 15 0 38 = ρ 22 := m21
  have m22 : γ 1 15 0 40 = ρ 23 := m22
  have m23 : γ 1 15 0 45 = ρ 24 := m23
  have m24 : γ 1 73 0 (ρ 7) = ρ 25 := m24
  have m25 : γ 2 15 0 35 = ρ 26 := m25
  have m26 : γ 1 77 0 (ρ 25 + 8 * ρ 7) = ρ 27 := m26
  have m27 : γ 1 81 0 (4 * ρ 25 + 32 * ρ 7) = ρ 28 := m27
  have m28 : γ 3 15 0 35 = ρ 29 := m28
  have m29 : γ 3 15 0 8 = ρ 30 := m29
  have m30 : γ 3 15 0 9 = ρ 31 := m30
  have m31 : γ 3 15 0 58 = ρ 32 := m31
  have m32 : γ 3 77 0 (ρ 25 + 8 * ρ 7) = ρ 33 := m32
  have m33 : γ 3 81 0 (4 * ρ 25 + 32 * ρ 7) = ρ 34 := m33
  have m34 : γ 3 15 0 14 = ρ 35 := m34
  have m35 : γ 3 15 0 36 = ρ 10 := m35
  have m36 : γ 3 15 0 37 = ρ 36 := m36
  have m37 : γ 3 15 0 38 = ρ 37 := m37
  have m38 : γ 3 15 0 40 = ρ 38 := m38
  have m39 : γ 3 15 0 45 = ρ 39 := m39
  have m40 : γ 5 15 0 35 = ρ 40 := m40
  obtain ⟨⟨⟨⟨⟨⟨⟨-, c1⟩, c2⟩, c3⟩, c4⟩, c5⟩, c6⟩, c7⟩ := hc
  have c1 : ∀ (G : Nat) (k j : Int), ¬ rMdP m27_ G j → γ 1 G k j = γ 0 G k j := c1
  have c2 : ∀ (G : Nat) (k j : Int), ¬ rMdP m6_ G j → γ 2 G k j = γ 1 G k j := c2
  have c3 : ∀ (G : Nat) (k j : Int), ¬ rMdP m25_ G j → γ 3 G k j = γ 2 G k j := c3
  have c4 : γ 4 = rUp (γ 3) 73 0 (ρ 7) (ρ 25 + 1) := c4
  have c5 : ∀ (G : Nat) (k j : Int), ¬ rMdP m6_ G j → γ 5 G k j = γ 4 G k j := c5
  have c6 : ∀ (G : Nat) (k j : Int), ¬ rMdP m0_ G j → γ 6 G k j = γ 5 G k j := c6
  have c7 : γ 7 = rUp (γ 6) 15 0 35 (ρ 40 + 1) := c7
  obtain ⟨l0, l1, l2, l3, -⟩ := hl
  have l0 : sn7 [ρ 16, ρ 2] (γ 1) 0 0 (γ 2) := hS7 _ _ _ _ _ l0
  have l1 : sn37 [ρ 0, ρ 26, ρ 2, ρ 17, ρ 18, ρ 19, ρ 7, ρ 25, ρ 27, ρ 28, ρ 20, ρ 10, ρ 21, ρ 22, ρ 23, ρ 24] (γ 2) 0 1 (γ 3) := hS37 _ _ _ _ _ l1
  have l2 : sn7 [ρ 29, ρ 2] (γ 4) 0 0 (γ 5) := hS7 _ _ _ _ _ l2
  have l3 : sn6 [ρ 40, ρ 2] (γ 5) 0 (ρ 41) (γ 6) := hS6 _ _ _ _ _ l3
  show jn38 [ρ 0, ρ 1, ρ 2, ρ 3, ρ 4, ρ 5, ρ 6, ρ 7, ρ 8, ρ 9, ρ 10, ρ 11, ρ 12, ρ 13, ρ 14] (γ 0) 0 [ρ 0, ρ 1, ρ 2, ρ 3, ρ 4, ρ 5, ρ 6, ρ 7, ρ 8, ρ 9, ρ 10, ρ 11, ρ 12, ρ 13, ρ 14, 1, ρ 40 + 1, ρ 30, ρ 31, ρ 32, ρ 35, ρ 36, ρ 37, ρ 38, ρ 39, ρ 25 + 1] (γ 7)
  have hD : en38 (γ 0) (0, [ρ 0, ρ 15], γ 1) = .inl (0, [ρ 0, 1], γ 7) := by
    unfold en38
    refine (if_pos (show (0 : Nat) = 0 by decide)).trans ?_
    refine (zLet_eq (show _ = γ 1 from rfl)).trans ?_
    refine (zLet_eq (show _ = ρ 0 from rfl)).trans ?_
    refine (zLet_eq (show _ = ρ 15 from rfl)).trans ?_
    refine (zLet_eq m1).trans ?_
    refine (zLet_eq m6).trans ?_
    refine (zLet_eq m24).trans ?_
    refine (if_neg (show ¬ (ρ 15 = 0) by omega)).trans ?_
    refine (zLet_eq (show fn7 [] (γ 1) = (0, 0, γ 2) from l0.symm)).trans ?_
    refine (zLet_eq (show _ = γ 2 from rfl)).trans ?_
    refine (zLet_eq m25).trans ?_
    refine (if_pos (show ρ 25 ≠ 8 by omega)).trans ?_
    refine (zLet_eq (show fn37 [ρ 0] (γ 2) = (0, 1, γ 3) from l1.symm)).trans ?_
    refine (zLet_eq (show _ = γ 3 from rfl)).trans ?_
    refine (if_pos (show (1 : Int) ≤ 1 by omega)).trans ?_
    refine (if_neg (show ¬ (5 ≤ γ 3 77 0 (ρ 25 + 8 * ρ 7)) by omega)).trans ?_
    refine (zLet_eq c4.symm).trans ?_
    refine (zLet_eq (show fn7 [] (γ 4) = (0, 0, γ 5) from l2.symm)).trans ?_
    refine (zLet_eq (show _ = γ 5 from rfl)).trans ?_
    refine (zLet_eq m40).trans ?_
    refine (zLet_eq (show fn6 [ρ 40] (γ 5) = (0, ρ 41, γ 6) from l3.symm)).trans ?_
    refine (zLet_eq (show _ = γ 6 from rfl)).trans ?_
    refine (if_pos (show 0 ≤ -ρ 40 + ρ 2 + (-1) by omega)).trans ?_
    refine (zLet_eq (show _ = ρ 41 from rfl)).trans ?_
    refine (if_neg (show ¬ (ρ 41 ≠ 44) by omega)).trans ?_
    refine (zLet_eq c7.symm).trans ?_
    rfl
  exact zGoo_ato hJ hD
theorem vn38a0_4 {S : Nat → zSpc} (hS6 : ∀ x g o v gz, S 6 x g o v gz → sn6 x g o v gz) (hS7 : ∀ x g o v gz, S 7 x g o v gz → sn7 x g o v gz) (hS8 : ∀ x g o v gz, S 8 x g o v gz → sn8 x g o v gz) (hS37 : ∀ x g o v gz, S 37 x g o v gz → sn37 x g o v gz) {a : List Int} {g : rHp} : ∀ (ρ : Nat → Int) (γ : Nat → rHp), jn38 a g 0 (zAg (zNA a38_ 0) ρ) (γ 1) → zO 15 S a g q38a0_4 ρ γ → zGl (fun i vs g1 => jn38 a g i vs g1) (sn38 a g) q38a0_4 ρ γ := by
  intro ρ γ hJ h
  obtain ⟨ha, hg, hr, hf, hm, hc, hl⟩ := h
  have ha : a = [ρ 0, ρ 1, ρ 2, ρ 3, ρ 4, ρ 5, ρ 6, ρ 7, ρ 8, ρ 9, ρ 10, ρ 11, ρ 12, ρ 13, ρ 14] := ha
  subst ha
  subst hg
  have hJ : jn38 [ρ 0, ρ 1, ρ 2, ρ 3, ρ 4, ρ 5, ρ 6, ρ 7, ρ 8, ρ 9, ρ 10, ρ 11, ρ 12, ρ 13, ρ 14] (γ 0) 0 [ρ 0, ρ 1, ρ 2, ρ 3, ρ 4, ρ 5, ρ 6, ρ 7, ρ 8, ρ 9, ρ 10, ρ 11, ρ 12, ρ 13, ρ 14, ρ 15, ρ 16, ρ 17, ρ 18, ρ 19, ρ 20, ρ 21, ρ 22, ρ 23, ρ 24, ρ 25] (γ 1) := hJ
  obtain ⟨r0, r1, r2, r3, r4, r5, r6, r7, r8, r9, r10, r11, r12, r13, r14, r15, r16, r17, r18, r19, r20, r21, r22, r23, r24, r25, r26, r27, r28, r29, r30, r31, r32, r33, r34, r35, r36, r37, r38, r39, r40, -⟩ := hr
  have r0 : (0 : Int) ≤ ρ 0 ∧ ρ 0 ≤ 1 := r0
  have r1 : (0 : Int) ≤ ρ 1 ∧ ρ 1 ≤ 2000 := r1
  have r2 : (0 : Int) ≤ ρ 2 ∧ ρ 2 ≤ 2000 := r2
  have r3 : (0 : Int) ≤ ρ 3 ∧ ρ 3 ≤ 12288 := r3
  have r4 : (0 : Int) ≤ ρ 4 ∧ ρ 4 ≤ 12288 := r4
  have r5 : (0 : Int) ≤ ρ 5 ∧ ρ 5 ≤ 64 := r5
  have r6 : (0 : Int) ≤ ρ 6 ∧ ρ 6 ≤ 60 := r6
  have r7 : (0 : Int) ≤ ρ 7 ∧ ρ 7 ≤ 61 := r7
  have r8 : (0 : Int) ≤ ρ 8 ∧ ρ 8 ≤ 8 := r8
  have r9 : (0 : Int) ≤ ρ 9 ∧ ρ 9 ≤ 20 := r9
  have r10 : (0 : Int) ≤ ρ 10 ∧ ρ 10 ≤ 2000 := r10
  have r11 : (0 : Int) ≤ ρ 11 ∧ ρ 11 ≤ 2000 := r11
  have r12 : (0 : Int) ≤ ρ 12 ∧ ρ 12 ≤ 2000 := r12
  have r13 : (0 : Int) ≤ ρ 13 ∧ ρ 13 ≤ 3 := r13
  have r14 : ((-2147483648) : Int) ≤ ρ 14 ∧ ρ 14 ≤ 2147483647 := r14
  have r15 : (1 : Int) ≤ ρ 15 ∧ ρ 15 ≤ 1 := r15
  have r16 : (0 : Int) ≤ ρ 16 ∧ ρ 16 ≤ 2000 := r16
  have r17 : (0 : Int) ≤ ρ 17 ∧ ρ 17 ≤ 12288 := r17
  have r18 : (0 : Int) ≤ ρ 18 ∧ ρ 18 ≤ 12288 := r18
  have r19 : (0 : Int) ≤ ρ 19 ∧ ρ 19 ≤ 43 := r19
  have r20 : (0 : Int) ≤ ρ 20 ∧ ρ 20 ≤ 20 := r20
  have r21 : (0 : Int) ≤ ρ 21 ∧ ρ 21 ≤ 2000 := r21
  have r22 : (0 : Int) ≤ ρ 22 ∧ ρ 22 ≤ 2000 := r22
  have r23 : (0 : Int) ≤ ρ 23 ∧ ρ 23 ≤ 3 := r23
  have r24 : ((-2147483648) : Int) ≤ ρ 24 ∧ ρ 24 ≤ 2147483647 := r24
  have r25 : (0 : Int) ≤ ρ 25 ∧ ρ 25 ≤ 7 := r25
  have r26 : (0 : Int) ≤ ρ 26 ∧ ρ 26 ≤ 2000 := r26
  have r27 : (0 : Int) ≤ ρ 27 ∧ ρ 27 ≤ 7 := r27
  have r28 : ((-2147483648) : Int) ≤ ρ 28 ∧ ρ 28 ≤ 1099511640064 := r28
  have r29 : (2 : Int) ≤ ρ 29 ∧ ρ 29 ≤ 2000 := r29
  have r30 : (0 : Int) ≤ ρ 30 ∧ ρ 30 ≤ 12288 := r30
  have r31 : (0 : Int) ≤ ρ 31 ∧ ρ 31 ≤ 12288 := r31
  have r32 : (0 : Int) ≤ ρ 32 ∧ ρ 32 ≤ 39 := r32
  have r33 : (0 : Int) ≤ ρ 33 ∧ ρ 33 ≤ 4 := r33
  have r34 : ((-2147483648) : Int) ≤ ρ 34 ∧ ρ 34 ≤ 1099511640064 := r34
  have r35 : (0 : Int) ≤ ρ 35 ∧ ρ 35 ≤ 20 := r35
  have r36 : (0 : Int) ≤ ρ 36 ∧ ρ 36 ≤ 2000 := r36
  have r37 : (0 : Int) ≤ ρ 37 ∧ ρ 37 ≤ 2000 := r37
  have r38 : (0 : Int) ≤ ρ 38 ∧ ρ 38 ≤ 3 := r38
  have r39 : ((-2147483648) : Int) ≤ ρ 39 ∧ ρ 39 ≤ 2147483647 := r39
  have r40 : (0 : Int) ≤ ρ 40 ∧ ρ 40 ≤ 2000 := r40
  obtain ⟨f0, f1, f2, f3, f4, f5, f6, f7, f8, f9, f10, f11, f12, f13, f14, f15, f16, f17, f18, f19, f20, f21, f22, f23, f24, f25, f26, f27, f28, f29, f30, f31, f32, f33, f34, -⟩ := hf
  have f0 : (0 : Int) ≤ ρ 40 + -ρ 2 := f0
  have f1 : (0 : Int) ≤ -ρ 29 + ρ 2 := f1
  have f2 : (0 : Int) ≤ ρ 40 + -ρ 29 := f2
  have f3 : (0 : Int) ≤ -ρ 40 + ρ 2 := f3
  have f4 : (0 : Int) ≤ ρ 26 + (-ρ 17 + -ρ 2) + 12288 := f4
  have f5 : (0 : Int) ≤ ρ 26 + (-ρ 18 + -ρ 2) + 12288 := f5
  have f6 : (0 : Int) ≤ -ρ 26 + ρ 2 := f6
  have f7 : (0 : Int) ≤ 4 * ρ 25 + -ρ 19 + 6 := f7
  have f8 : (0 : Int) ≤ ρ 29 + -ρ 26 + (-1) := f8
  have f9 : (0 : Int) ≤ ρ 30 + -ρ 17 := f9
  have f10 : (0 : Int) ≤ ρ 31 + -ρ 18 := f10
  have f11 : (0 : Int) ≤ ρ 32 + -ρ 19 := f11
  have f12 : (0 : Int) ≤ ρ 35 + -ρ 20 := f12
  have f13 : (0 : Int) ≤ ρ 2 + -ρ 0 + (-1) := f13
  have f14 : (0 : Int) ≤ -ρ 26 + ρ 2 + (-1) := f14
  have f15 : (0 : Int) ≤ -ρ 30 + (ρ 29 + (-ρ 26 + ρ 17)) := f15
  have f16 : (0 : Int) ≤ -ρ 31 + (ρ 29 + (-ρ 26 + ρ 18)) := f16
  have f17 : (0 : Int) ≤ -ρ 32 + 4 * ρ 25 + 10 := f17
  have f18 : (0 : Int) ≤ -ρ 16 + ρ 2 := f18
  have f19 : (0 : Int) ≤ ρ 26 + -ρ 16 := f19
  have f20 : (0 : Int) ≤ -ρ 18 + (ρ 16 + -ρ 2) + 12288 := f20
  have f21 : (0 : Int) ≤ -ρ 17 + (ρ 16 + -ρ 2) + 12288 := f21
  have f22 : (0 : Int) ≤ -ρ 18 + (ρ 16 + (ρ 4 + -ρ 1)) := f22
  have f23 : (0 : Int) ≤ -ρ 17 + (ρ 16 + (ρ 3 + -ρ 1)) := f23
  have f24 : (0 : Int) ≤ ρ 25 + -ρ 8 := f24
  have f25 : (0 : Int) ≤ ρ 20 + -ρ 9 := f25
  have f26 : (0 : Int) ≤ ρ 19 + -ρ 5 := f26
  have f27 : (0 : Int) ≤ ρ 18 + -ρ 4 := f27
  have f28 : (0 : Int) ≤ ρ 17 + -ρ 3 := f28
  have f29 : (0 : Int) ≤ ρ 16 + -ρ 1 := f29
  have f30 : (0 : Int) ≤ ρ 7 + -ρ 6 := f30
  have f31 : (0 : Int) ≤ 4 * ρ 8 + -ρ 5 + 6 := f31
  have f32 : (0 : Int) ≤ ρ 2 + -ρ 1 := f32
  have f33 : (0 : Int) ≤ -ρ 4 + (-ρ 2 + ρ 1) + 12288 := f33
  have f34 : (0 : Int) ≤ -ρ 3 + (-ρ 2 + ρ 1) + 12288 := f34
  obtain ⟨m0, m1, m2, m3, m4, m5, m6, m7, m8, m9, m10, m11, m12, m13, m14, m15, m16, m17, m18, m19, m20, m21, m22, m23, m24, m25, m26, m27, m28, m29, m30, m31, m32, m33, m34, m35, m36, m37, m38, m39, m40, -⟩ := hm
  have m0 : γ 0 15 0 35 = ρ 1 := m0
  have m1 : γ 0 15 0 34 = ρ 2 := m1
  have m2 : γ 0 15 0 8 = ρ 3 := m2
  have m3 : γ 0 15 0 9 = ρ 4 := m3
  have m4 : γ 0 15 0 58 = ρ 5 := m4
  have m5 : γ 0 15 0 32 = ρ 6 := m5
  have m6 : γ 0 15 0 44 = ρ 7 := m6
  have m7 : γ 0 73 0 (ρ 7) = ρ 8 := m7
  have m8 : γ 0 15 0 14 = ρ 9 := m8
  have m9 : γ 0 15 0 36 = ρ 10 := m9
  have m10 : γ 0 15 0 37 = ρ 11 := m10
  have m11 : γ 0 15 0 38 = ρ 12 := m11
  have m12 : γ 0 15 0 40 = ρ 13 := m12
  have m13 : γ 0 15 0 45 = ρ 14 := m13
  have m14 : γ 1 15 0 35 = ρ 16 := m14
  have m15 : γ 1 15 0 8 = ρ 17 := m15
  have m16 : γ 1 15 0 9 = ρ 18 := m16
  have m17 : γ 1 15 0 58 = ρ 19 := m17
  have m18 : γ 1 15 0 14 = ρ 20 := m18
  have m19 : γ 1 15 0 36 = ρ 10 := m19
  have m20 : γ 1 15 0 37 = ρ 21 := m20
  have m21 : γ 1 15 0 38 = ρ 22 := m21
  have m22 : γ 1 15 0 40 = ρ 23 := m22
  have m23 : γ 1 15 0 45 = ρ 24 := m23
  have m24 : γ 1 73 0 (ρ 7) = ρ 25 := m24
  have m25 : γ 2 15 0 35 = ρ 26 := m25
  have m26 : γ 1 77 0 (ρ 25 + 8 * ρ 7) = ρ 27 := m26
  have m27 : γ 1 81 0 (4 * ρ 25 + 32 * ρ 7) = ρ 28 := m27
  have m28 : γ 3 15 0 35 = ρ 29 := m28
  have m29 : γ 3 15 0 8 = ρ 30 := m29
  have m30 : γ 3 15 0 9 = ρ 31 := m30
  have m31 : γ 3 15 0 58 = ρ 32 := m31
  have m32 : γ 3 77 0 (ρ 25 + 8 * ρ 7) = ρ 33 := m32
  have m33 : γ 3 81 0 (4 * ρ 25 + 32 * ρ 7) = ρ 34 := m33
  have m34 : γ 3 15 0 14 = ρ 35 := m34
  have m35 : γ 3 15 0 36 = ρ 10 := m35
  have m36 : γ 3 15 0 37 = ρ 36 := m36
  have m37 : γ 3 15 0 38 = ρ 37 := m37
  have m38 : γ 3 15 0 40 = ρ 38 := m38
  have m39 : γ 3 15 0 45 = ρ 39 := m39
  have m40 : γ 5 15 0 35 = ρ 40 := m40
  obtain ⟨⟨⟨⟨⟨⟨-, c1⟩, c2⟩, c3⟩, c4⟩, c5⟩, c6⟩ := hc
  have c1 : ∀ (G : Nat) (k j : Int), ¬ rMdP m27_ G j → γ 1 G k j = γ 0 G k j := c1
  have c2 : ∀ (G : Nat) (k j : Int), ¬ rMdP m6_ G j → γ 2 G k j = γ 1 G k j := c2
  have c3 : ∀ (G : Nat) (k j : Int), ¬ rMdP m25_ G j → γ 3 G k j = γ 2 G k j := c3
  have c4 : γ 4 = rUp (γ 3) 73 0 (ρ 7) (ρ 25 + 1) := c4
  have c5 : ∀ (G : Nat) (k j : Int), ¬ rMdP m6_ G j → γ 5 G k j = γ 4 G k j := c5
  have c6 : ∀ (G : Nat) (k j : Int), ¬ rMdP m0_ G j → γ 6 G k j = γ 5 G k j := c6
  obtain ⟨l0, l1, l2, l3, -⟩ := hl
  have l0 : sn7 [ρ 16, ρ 2] (γ 1) 0 0 (γ 2) := hS7 _ _ _ _ _ l0
  have l1 : sn37 [ρ 0, ρ 26, ρ 2, ρ 17, ρ 18, ρ 19, ρ 7, ρ 25, ρ 27, ρ 28, ρ 20, ρ 10, ρ 21, ρ 22, ρ 23, ρ 24] (γ 2) 0 1 (γ 3) := hS37 _ _ _ _ _ l1
  have l2 : sn7 [ρ 29, ρ 2] (γ 4) 0 0 (γ 5) := hS7 _ _ _ _ _ l2
  have l3 : sn6 [ρ 40, ρ 2] (γ 5) 0 (-1) (γ 6) := hS6 _ _ _ _ _ l3
  show jn38 [ρ 0, ρ 1, ρ 2, ρ 3, ρ 4, ρ 5, ρ 6, ρ 7, ρ 8, ρ 9, ρ 10, ρ 11, ρ 12, ρ 13, ρ 14] (γ 0) 0 [ρ 0, ρ 1, ρ 2, ρ 3, ρ 4, ρ 5, ρ 6, ρ 7, ρ 8, ρ 9, ρ 10, ρ 11, ρ 12, ρ 13, ρ 14, 0, ρ 40, ρ 30, ρ 31, ρ 32, ρ 35, ρ 36, ρ 37, ρ 38, ρ 39, ρ 25 + 1] (γ 6)
  have hD : en38 (γ 0) (0, [ρ 0, ρ 15], γ 1) = .inl (0, [ρ 0, 0], γ 6) := by
    unfold en38
    refine (if_pos (show (0 : Nat) = 0 by decide)).trans ?_
    refine (zLet_eq (show _ = γ 1 from rfl)).trans ?_
    refine (zLet_eq (show _ = ρ 0 from rfl)).trans ?_
    refine (zLet_eq (show _ = ρ 15 from rfl)).trans ?_
    refine (zLet_eq m1).trans ?_
    refine (zLet_eq m6).trans ?_
    refine (zLet_eq m24).trans ?_
    refine (if_neg (show ¬ (ρ 15 = 0) by omega)).trans ?_
    refine (zLet_eq (show fn7 [] (γ 1) = (0, 0, γ 2) from l0.symm)).trans ?_
    refine (zLet_eq (show _ = γ 2 from rfl)).trans ?_
    refine (zLet_eq m25).trans ?_
    refine (if_pos (show ρ 25 ≠ 8 by omega)).trans ?_
    refine (zLet_eq (show fn37 [ρ 0] (γ 2) = (0, 1, γ 3) from l1.symm)).trans ?_
    refine (zLet_eq (show _ = γ 3 from rfl)).trans ?_
    refine (if_pos (show (1 : Int) ≤ 1 by omega)).trans ?_
    refine (if_neg (show ¬ (5 ≤ γ 3 77 0 (ρ 25 + 8 * ρ 7)) by omega)).trans ?_
    refine (zLet_eq c4.symm).trans ?_
    refine (zLet_eq (show fn7 [] (γ 4) = (0, 0, γ 5) from l2.symm)).trans ?_
    refine (zLet_eq (show _ = γ 5 from rfl)).trans ?_
    refine (zLet_eq m40).trans ?_
    refine (zLet_eq (show fn6 [ρ 40] (γ 5) = (0, (-1), γ 6) from l3.symm)).trans ?_
    refine (zLet_eq (show _ = γ 6 from rfl)).trans ?_
    refine (if_neg (show ¬ (0 ≤ -ρ 40 + ρ 2 + (-1)) by omega)).trans ?_
    rfl
  exact zGoo_ato hJ hD
theorem vn38a0_5 {S : Nat → zSpc} (hS6 : ∀ x g o v gz, S 6 x g o v gz → sn6 x g o v gz) (hS7 : ∀ x g o v gz, S 7 x g o v gz → sn7 x g o v gz) (hS8 : ∀ x g o v gz, S 8 x g o v gz → sn8 x g o v gz) (hS37 : ∀ x g o v gz, S 37 x g o v gz → sn37 x g o v gz) {a : List Int} {g : rHp} : ∀ (ρ : Nat → Int) (γ : Nat → rHp), jn38 a g 0 (zAg (zNA a38_ 0) ρ) (γ 1) → zO 15 S a g q38a0_5 ρ γ → zGl (fun i vs g1 => jn38 a g i vs g1) (sn38 a g) q38a0_5 ρ γ := by
  intro ρ γ hJ h
  obtain ⟨ha, hg, hr, hf, hm, hc, hl⟩ := h
  have ha : a = [ρ 0, ρ 1, ρ 2, ρ 3, ρ 4, ρ 5, ρ 6, ρ 7, ρ 8, ρ 9, ρ 10, ρ 11, ρ 12, ρ 13, ρ 14] := ha
  subst ha
  subst hg
  have hJ : jn38 [ρ 0, ρ 1, ρ 2, ρ 3, ρ 4, ρ 5, ρ 6, ρ 7, ρ 8, ρ 9, ρ 10, ρ 11, ρ 12, ρ 13, ρ 14] (γ 0) 0 [ρ 0, ρ 1, ρ 2, ρ 3, ρ 4, ρ 5, ρ 6, ρ 7, ρ 8, ρ 9, ρ 10, ρ 11, ρ 12, ρ 13, ρ 14, ρ 15, ρ 16, ρ 17, ρ 18, ρ 19, ρ 20, ρ 21, ρ 22, ρ 23, ρ 24, ρ 25] (γ 1) := hJ
  obtain ⟨r0, r1, r2, r3, r4, r5, r6, r7, r8, r9, r10, r11, r12, r13, r14, r15, r16, r17, r18, r19, r20, r21, r22, r23, r24, r25, r26, r27, r28, r29, r30, r31, r32, r33, r34, r35, r36, r37, r38, r39, -⟩ := hr
  have r0 : (0 : Int) ≤ ρ 0 ∧ ρ 0 ≤ 1 := r0
  have r1 : (0 : Int) ≤ ρ 1 ∧ ρ 1 ≤ 2000 := r1
  have r2 : (0 : Int) ≤ ρ 2 ∧ ρ 2 ≤ 2000 := r2
  have r3 : (0 : Int) ≤ ρ 3 ∧ ρ 3 ≤ 12288 := r3
  have r4 : (0 : Int) ≤ ρ 4 ∧ ρ 4 ≤ 12288 := r4
  have r5 : (0 : Int) ≤ ρ 5 ∧ ρ 5 ≤ 64 := r5
  have r6 : (0 : Int) ≤ ρ 6 ∧ ρ 6 ≤ 60 := r6
  have r7 : (0 : Int) ≤ ρ 7 ∧ ρ 7 ≤ 61 := r7
  have r8 : (0 : Int) ≤ ρ 8 ∧ ρ 8 ≤ 8 := r8
  have r9 : (0 : Int) ≤ ρ 9 ∧ ρ 9 ≤ 20 := r9
  have r10 : (0 : Int) ≤ ρ 10 ∧ ρ 10 ≤ 2000 := r10
  have r11 : (0 : Int) ≤ ρ 11 ∧ ρ 11 ≤ 2000 := r11
  have r12 : (0 : Int) ≤ ρ 12 ∧ ρ 12 ≤ 2000 := r12
  have r13 : (0 : Int) ≤ ρ 13 ∧ ρ 13 ≤ 3 := r13
  have r14 : ((-2147483648) : Int) ≤ ρ 14 ∧ ρ 14 ≤ 2147483647 := r14
  have r15 : (1 : Int) ≤ ρ 15 ∧ ρ 15 ≤ 1 := r15
  have r16 : (0 : Int) ≤ ρ 16 ∧ ρ 16 ≤ 2000 := r16
  have r17 : (0 : Int) ≤ ρ 17 ∧ ρ 17 ≤ 12288 := r17
  have r18 : (0 : Int) ≤ ρ 18 ∧ ρ 18 ≤ 12288 := r18
  have r19 : (0 : Int) ≤ ρ 19 ∧ ρ 19 ≤ 43 := r19
  have r20 : (0 : Int) ≤ ρ 20 ∧ ρ 20 ≤ 20 := r20
  have r21 : (0 : Int) ≤ ρ 21 ∧ ρ 21 ≤ 2000 := r21
  have r22 : (0 : Int) ≤ ρ 22 ∧ ρ 22 ≤ 2000 := r22
  have r23 : (0 : Int) ≤ ρ 23 ∧ ρ 23 ≤ 3 := r23
  have r24 : ((-2147483648) : Int) ≤ ρ 24 ∧ ρ 24 ≤ 2147483647 := r24
  have r25 : (0 : Int) ≤ ρ 25 ∧ ρ 25 ≤ 7 := r25
  have r26 : (0 : Int) ≤ ρ 26 ∧ ρ 26 ≤ 2000 := r26
  have r27 : (0 : Int) ≤ ρ 27 ∧ ρ 27 ≤ 7 := r27
  have r28 : ((-2147483648) : Int) ≤ ρ 28 ∧ ρ 28 ≤ 1099511640064 := r28
  have r29 : (5 : Int) ≤ ρ 29 ∧ ρ 29 ≤ 2000 := r29
  have r30 : (0 : Int) ≤ ρ 30 ∧ ρ 30 ≤ 12288 := r30
  have r31 : (0 : Int) ≤ ρ 31 ∧ ρ 31 ≤ 12288 := r31
  have r32 : (5 : Int) ≤ ρ 32 ∧ ρ 32 ≤ 7 := r32
  have r33 : (0 : Int) ≤ ρ 33 ∧ ρ 33 ≤ 7 := r33
  have r34 : (0 : Int) ≤ ρ 34 ∧ ρ 34 ≤ 2000 := r34
  have r35 : (0 : Int) ≤ ρ 35 ∧ ρ 35 ≤ 2000 := r35
  have r36 : (0 : Int) ≤ ρ 36 ∧ ρ 36 ≤ 2 := r36
  have r37 : ((-2147483648) : Int) ≤ ρ 37 ∧ ρ 37 ≤ 2147483647 := r37
  have r38 : (0 : Int) ≤ ρ 38 ∧ ρ 38 ≤ 2000 := r38
  have r39 : ((-128) : Int) ≤ ρ 39 ∧ ρ 39 ≤ 127 := r39
  obtain ⟨f0, f1, f2, f3, f4, f5, f6, f7, f8, f9, f10, f11, f12, f13, f14, f15, f16, f17, f18, f19, f20, f21, f22, f23, f24, f25, f26, f27, f28, f29, f30, f31, f32, f33, -⟩ := hf
  have f0 : (0 : Int) ≤ -ρ 38 + ρ 2 + (-1) := f0
  have f1 : (0 : Int) ≤ -ρ 29 + ρ 2 := f1
  have f2 : (0 : Int) ≤ ρ 38 + -ρ 29 := f2
  have f3 : (0 : Int) ≤ -ρ 38 + ρ 2 := f3
  have f4 : (0 : Int) ≤ ρ 26 + (-ρ 17 + -ρ 2) + 12288 := f4
  have f5 : (0 : Int) ≤ ρ 26 + (-ρ 18 + -ρ 2) + 12288 := f5
  have f6 : (0 : Int) ≤ -ρ 26 + ρ 2 := f6
  have f7 : (0 : Int) ≤ 4 * ρ 25 + -ρ 19 + 6 := f7
  have f8 : (0 : Int) ≤ ρ 29 + -ρ 26 + (-1) := f8
  have f9 : (0 : Int) ≤ ρ 30 + -ρ 17 := f9
  have f10 : (0 : Int) ≤ ρ 31 + -ρ 18 := f10
  have f11 : (0 : Int) ≤ -ρ 36 + ρ 2 + (-1) := f11
  have f12 : (0 : Int) ≤ ρ 2 + -ρ 0 + (-1) := f12
  have f13 : (0 : Int) ≤ -ρ 26 + ρ 2 + (-1) := f13
  have f14 : (0 : Int) ≤ -ρ 23 + ρ 2 := f14
  have f15 : (0 : Int) ≤ -ρ 30 + (ρ 29 + (-ρ 26 + ρ 17)) := f15
  have f16 : (0 : Int) ≤ -ρ 31 + (ρ 29 + (-ρ 26 + ρ 18)) := f16
  have f17 : (0 : Int) ≤ -ρ 16 + ρ 2 := f17
  have f18 : (0 : Int) ≤ ρ 26 + -ρ 16 := f18
  have f19 : (0 : Int) ≤ -ρ 18 + (ρ 16 + -ρ 2) + 12288 := f19
  have f20 : (0 : Int) ≤ -ρ 17 + (ρ 16 + -ρ 2) + 12288 := f20
  have f21 : (0 : Int) ≤ -ρ 18 + (ρ 16 + (ρ 4 + -ρ 1)) := f21
  have f22 : (0 : Int) ≤ -ρ 17 + (ρ 16 + (ρ 3 + -ρ 1)) := f22
  have f23 : (0 : Int) ≤ ρ 25 + -ρ 8 := f23
  have f24 : (0 : Int) ≤ ρ 20 + -ρ 9 := f24
  have f25 : (0 : Int) ≤ ρ 19 + -ρ 5 := f25
  have f26 : (0 : Int) ≤ ρ 18 + -ρ 4 := f26
  have f27 : (0 : Int) ≤ ρ 17 + -ρ 3 := f27
  have f28 : (0 : Int) ≤ ρ 16 + -ρ 1 := f28
  have f29 : (0 : Int) ≤ ρ 7 + -ρ 6 := f29
  have f30 : (0 : Int) ≤ 4 * ρ 8 + -ρ 5 + 6 := f30
  have f31 : (0 : Int) ≤ ρ 2 + -ρ 1 := f31
  have f32 : (0 : Int) ≤ -ρ 4 + (-ρ 2 + ρ 1) + 12288 := f32
  have f33 : (0 : Int) ≤ -ρ 3 + (-ρ 2 + ρ 1) + 12288 := f33
  obtain ⟨m0, m1, m2, m3, m4, m5, m6, m7, m8, m9, m10, m11, m12, m13, m14, m15, m16, m17, m18, m19, m20, m21, m22, m23, m24, m25, m26, m27, m28, m29, m30, m31, m32, m33, m34, m35, m36, m37, m38, m39, m40, -⟩ := hm
  have m0 : γ 0 15 0 35 = ρ 1 := m0
  have m1 : γ 0 15 0 34 = ρ 2 := m1
  have m2 : γ 0 15 0 8 = ρ 3 := m2
  have m3 : γ 0 15 0 9 = ρ 4 := m3
  have m4 : γ 0 15 0 58 = ρ 5 := m4
  have m5 : γ 0 15 0 32 = ρ 6 := m5
  have m6 : γ 0 15 0 44 = ρ 7 := m6
  have m7 : γ 0 73 0 (ρ 7) = ρ 8 := m7
  have m8 : γ 0 15 0 14 = ρ 9 := m8
  have m9 : γ 0 15 0 36 = ρ 10 := m9
  have m10 : γ 0 15 0 37 = ρ 11 := m10
  have m11 : γ 0 15 0 38 = ρ 12 := m11
  have m12 : γ 0 15 0 40 = ρ 13 := m12
  have m13 : γ 0 15 0 45 = ρ 14 := m13
  have m14 : γ 1 15 0 35 = ρ 16 := m14
  have m15 : γ 1 15 0 8 = ρ 17 := m15
  have m16 : γ 1 15 0 9 = ρ 18 := m16
  have m17 : γ 1 15 0 58 = ρ 19 := m17
  have m18 : γ 1 15 0 14 = ρ 20 := m18
  have m19 : γ 1 15 0 36 = ρ 10 := m19
  have m20 : γ 1 15 0 37 = ρ 21 := m20
  have m21 : γ 1 15 0 38 = ρ 22 := m21
  have m22 : γ 1 15 0 40 = ρ 23 := m22
  have m23 : γ 1 15 0 45 = ρ 24 := m23
  have m24 : γ 1 73 0 (ρ 7) = ρ 25 := m24
  have m25 : γ 2 15 0 35 = ρ 26 := m25
  have m26 : γ 1 77 0 (ρ 25 + 8 * ρ 7) = ρ 27 := m26
  have m27 : γ 1 81 0 (4 * ρ 25 + 32 * ρ 7) = ρ 28 := m27
  have m28 : γ 3 15 0 35 = ρ 29 := m28
  have m29 : γ 3 15 0 8 = ρ 30 := m29
  have m30 : γ 3 15 0 9 = ρ 31 := m30
  have m31 : γ 3 15 0 58 = ρ 19 := m31
  have m32 : γ 3 77 0 (ρ 25 + 8 * ρ 7) = ρ 32 := m32
  have m33 : γ 3 81 0 (4 * ρ 25 + 32 * ρ 7) = ρ 33 := m33
  have m34 : γ 3 15 0 14 = ρ 20 := m34
  have m35 : γ 3 15 0 36 = ρ 10 := m35
  have m36 : γ 3 15 0 37 = ρ 34 := m36
  have m37 : γ 3 15 0 38 = ρ 35 := m37
  have m38 : γ 3 15 0 40 = ρ 36 := m38
  have m39 : γ 3 15 0 45 = ρ 37 := m39
  have m40 : γ 5 15 0 35 = ρ 38 := m40
  obtain ⟨⟨⟨⟨⟨⟨-, c1⟩, c2⟩, c3⟩, c4⟩, c5⟩, c6⟩ := hc
  have c1 : ∀ (G : Nat) (k j : Int), ¬ rMdP m27_ G j → γ 1 G k j = γ 0 G k j := c1
  have c2 : ∀ (G : Nat) (k j : Int), ¬ rMdP m6_ G j → γ 2 G k j = γ 1 G k j := c2
  have c3 : ∀ (G : Nat) (k j : Int), ¬ rMdP m25_ G j → γ 3 G k j = γ 2 G k j := c3
  have c4 : γ 4 = rUp (γ 3) 73 0 (ρ 7) (ρ 25 + 1) := c4
  have c5 : ∀ (G : Nat) (k j : Int), ¬ rMdP m6_ G j → γ 5 G k j = γ 4 G k j := c5
  have c6 : ∀ (G : Nat) (k j : Int), ¬ rMdP m0_ G j → γ 6 G k j = γ 5 G k j := c6
  obtain ⟨l0, l1, l2, l3, l4, -⟩ := hl
  have l0 : sn7 [ρ 16, ρ 2] (γ 1) 0 0 (γ 2) := hS7 _ _ _ _ _ l0
  have l1 : sn37 [ρ 0, ρ 26, ρ 2, ρ 17, ρ 18, ρ 19, ρ 7, ρ 25, ρ 27, ρ 28, ρ 20, ρ 10, ρ 21, ρ 22, ρ 23, ρ 24] (γ 2) 0 1 (γ 3) := hS37 _ _ _ _ _ l1
  have l2 : sn7 [ρ 29, ρ 2] (γ 4) 0 0 (γ 5) := hS7 _ _ _ _ _ l2
  have l3 : sn6 [ρ 38, ρ 2] (γ 5) 0 (ρ 39) (γ 6) := hS6 _ _ _ _ _ l3
  have l4 : ρ 39 ≠ 44 := l4
  show jn38 [ρ 0, ρ 1, ρ 2, ρ 3, ρ 4, ρ 5, ρ 6, ρ 7, ρ 8, ρ 9, ρ 10, ρ 11, ρ 12, ρ 13, ρ 14] (γ 0) 0 [ρ 0, ρ 1, ρ 2, ρ 3, ρ 4, ρ 5, ρ 6, ρ 7, ρ 8, ρ 9, ρ 10, ρ 11, ρ 12, ρ 13, ρ 14, 0, ρ 38, ρ 30, ρ 31, ρ 19, ρ 20, ρ 34, ρ 35, ρ 36, ρ 37, ρ 25 + 1] (γ 6)
  have hD : en38 (γ 0) (0, [ρ 0, ρ 15], γ 1) = .inl (0, [ρ 0, 0], γ 6) := by
    unfold en38
    refine (if_pos (show (0 : Nat) = 0 by decide)).trans ?_
    refine (zLet_eq (show _ = γ 1 from rfl)).trans ?_
    refine (zLet_eq (show _ = ρ 0 from rfl)).trans ?_
    refine (zLet_eq (show _ = ρ 15 from rfl)).trans ?_
    refine (zLet_eq m1).trans ?_
    refine (zLet_eq m6).trans ?_
    refine (zLet_eq m24).trans ?_
    refine (if_neg (show ¬ (ρ 15 = 0) by omega)).trans ?_
    refine (zLet_eq (show fn7 [] (γ 1) = (0, 0, γ 2) from l0.symm)).trans ?_
    refine (zLet_eq (show _ = γ 2 from rfl)).trans ?_
    refine (zLet_eq m25).trans ?_
    refine (if_pos (show ρ 25 ≠ 8 by omega)).trans ?_
    refine (zLet_eq (show fn37 [ρ 0] (γ 2) = (0, 1, γ 3) from l1.symm)).trans ?_
    refine (zLet_eq (show _ = γ 3 from rfl)).trans ?_
    refine (if_pos (show (1 : Int) ≤ 1 by omega)).trans ?_
    refine (if_pos (show 5 ≤ γ 3 77 0 (ρ 25 + 8 * ρ 7) by omega)).trans ?_
    refine (zLet_eq c4.symm).trans ?_
    refine (zLet_eq (show fn7 [] (γ 4) = (0, 0, γ 5) from l2.symm)).trans ?_
    refine (zLet_eq (show _ = γ 5 from rfl)).trans ?_
    refine (zLet_eq m40).trans ?_
    refine (zLet_eq (show fn6 [ρ 38] (γ 5) = (0, ρ 39, γ 6) from l3.symm)).trans ?_
    refine (zLet_eq (show _ = γ 6 from rfl)).trans ?_
    refine (if_pos (show 0 ≤ -ρ 38 + ρ 2 + (-1) by omega)).trans ?_
    refine (zLet_eq (show _ = ρ 39 from rfl)).trans ?_
    refine (if_pos (show ρ 39 ≠ 44 by omega)).trans ?_
    rfl
  exact zGoo_ato hJ hD
theorem vn38a0_6 {S : Nat → zSpc} (hS6 : ∀ x g o v gz, S 6 x g o v gz → sn6 x g o v gz) (hS7 : ∀ x g o v gz, S 7 x g o v gz → sn7 x g o v gz) (hS8 : ∀ x g o v gz, S 8 x g o v gz → sn8 x g o v gz) (hS37 : ∀ x g o v gz, S 37 x g o v gz → sn37 x g o v gz) {a : List Int} {g : rHp} : ∀ (ρ : Nat → Int) (γ : Nat → rHp), jn38 a g 0 (zAg (zNA a38_ 0) ρ) (γ 1) → zO 15 S a g q38a0_6 ρ γ → zGl (fun i vs g1 => jn38 a g i vs g1) (sn38 a g) q38a0_6 ρ γ := by
  intro ρ γ hJ h
  obtain ⟨ha, hg, hr, hf, hm, hc, hl⟩ := h
  have ha : a = [ρ 0, ρ 1, ρ 2, ρ 3, ρ 4, ρ 5, ρ 6, ρ 7, ρ 8, ρ 9, ρ 10, ρ 11, ρ 12, ρ 13, ρ 14] := ha
  subst ha
  subst hg
  have hJ : jn38 [ρ 0, ρ 1, ρ 2, ρ 3, ρ 4, ρ 5, ρ 6, ρ 7, ρ 8, ρ 9, ρ 10, ρ 11, ρ 12, ρ 13, ρ 14] (γ 0) 0 [ρ 0, ρ 1, ρ 2, ρ 3, ρ 4, ρ 5, ρ 6, ρ 7, ρ 8, ρ 9, ρ 10, ρ 11, ρ 12, ρ 13, ρ 14, ρ 15, ρ 16, ρ 17, ρ 18, ρ 19, ρ 20, ρ 21, ρ 22, ρ 23, ρ 24, ρ 25] (γ 1) := hJ
  obtain ⟨r0, r1, r2, r3, r4, r5, r6, r7, r8, r9, r10, r11, r12, r13, r14, r15, r16, r17, r18, r19, r20, r21, r22, r23, r24, r25, r26, r27, r28, r29, r30, r31, r32, r33, r34, r35, r36, r37, r38, r39, -⟩ := hr
  have r0 : (0 : Int) ≤ ρ 0 ∧ ρ 0 ≤ 1 := r0
  have r1 : (0 : Int) ≤ ρ 1 ∧ ρ 1 ≤ 2000 := r1
  have r2 : (0 : Int) ≤ ρ 2 ∧ ρ 2 ≤ 2000 := r2
  have r3 : (0 : Int) ≤ ρ 3 ∧ ρ 3 ≤ 12288 := r3
  have r4 : (0 : Int) ≤ ρ 4 ∧ ρ 4 ≤ 12288 := r4
  have r5 : (0 : Int) ≤ ρ 5 ∧ ρ 5 ≤ 64 := r5
  have r6 : (0 : Int) ≤ ρ 6 ∧ ρ 6 ≤ 60 := r6
  have r7 : (0 : Int) ≤ ρ 7 ∧ ρ 7 ≤ 61 := r7
  have r8 : (0 : Int) ≤ ρ 8 ∧ ρ 8 ≤ 8 := r8
  have r9 : (0 : Int) ≤ ρ 9 ∧ ρ 9 ≤ 20 := r9
  have r10 : (0 : Int) ≤ ρ 10 ∧ ρ 10 ≤ 2000 := r10
  have r11 : (0 : Int) ≤ ρ 11 ∧ ρ 11 ≤ 2000 := r11
  have r12 : (0 : Int) ≤ ρ 12 ∧ ρ 12 ≤ 2000 := r12
  have r13 : (0 : Int) ≤ ρ 13 ∧ ρ 13 ≤ 3 := r13
  have r14 : ((-2147483648) : Int) ≤ ρ 14 ∧ ρ 14 ≤ 2147483647 := r14
  have r15 : (1 : Int) ≤ ρ 15 ∧ ρ 15 ≤ 1 := r15
  have r16 : (0 : Int) ≤ ρ 16 ∧ ρ 16 ≤ 2000 := r16
  have r17 : (0 : Int) ≤ ρ 17 ∧ ρ 17 ≤ 12288 := r17
  have r18 : (0 : Int) ≤ ρ 18 ∧ ρ 18 ≤ 12288 := r18
  have r19 : (0 : Int) ≤ ρ 19 ∧ ρ 19 ≤ 43 := r19
  have r20 : (0 : Int) ≤ ρ 20 ∧ ρ 20 ≤ 20 := r20
  have r21 : (0 : Int) ≤ ρ 21 ∧ ρ 21 ≤ 2000 := r21
  have r22 : (0 : Int) ≤ ρ 22 ∧ ρ 22 ≤ 2000 := r22
  have r23 : (0 : Int) ≤ ρ 23 ∧ ρ 23 ≤ 3 := r23
  have r24 : ((-2147483648) : Int) ≤ ρ 24 ∧ ρ 24 ≤ 2147483647 := r24
  have r25 : (0 : Int) ≤ ρ 25 ∧ ρ 25 ≤ 7 := r25
  have r26 : (0 : Int) ≤ ρ 26 ∧ ρ 26 ≤ 2000 := r26
  have r27 : (0 : Int) ≤ ρ 27 ∧ ρ 27 ≤ 7 := r27
  have r28 : ((-2147483648) : Int) ≤ ρ 28 ∧ ρ 28 ≤ 1099511640064 := r28
  have r29 : (5 : Int) ≤ ρ 29 ∧ ρ 29 ≤ 2000 := r29
  have r30 : (0 : Int) ≤ ρ 30 ∧ ρ 30 ≤ 12288 := r30
  have r31 : (0 : Int) ≤ ρ 31 ∧ ρ 31 ≤ 12288 := r31
  have r32 : (5 : Int) ≤ ρ 32 ∧ ρ 32 ≤ 7 := r32
  have r33 : (0 : Int) ≤ ρ 33 ∧ ρ 33 ≤ 7 := r33
  have r34 : (0 : Int) ≤ ρ 34 ∧ ρ 34 ≤ 2000 := r34
  have r35 : (0 : Int) ≤ ρ 35 ∧ ρ 35 ≤ 2000 := r35
  have r36 : (0 : Int) ≤ ρ 36 ∧ ρ 36 ≤ 2 := r36
  have r37 : ((-2147483648) : Int) ≤ ρ 37 ∧ ρ 37 ≤ 2147483647 := r37
  have r38 : (0 : Int) ≤ ρ 38 ∧ ρ 38 ≤ 2000 := r38
  have r39 : (44 : Int) ≤ ρ 39 ∧ ρ 39 ≤ 44 := r39
  obtain ⟨f0, f1, f2, f3, f4, f5, f6, f7, f8, f9, f10, f11, f12, f13, f14, f15, f16, f17, f18, f19, f20, f21, f22, f23, f24, f25, f26, f27, f28, f29, f30, f31, f32, f33, -⟩ := hf
  have f0 : (0 : Int) ≤ -ρ 38 + ρ 2 + (-1) := f0
  have f1 : (0 : Int) ≤ -ρ 29 + ρ 2 := f1
  have f2 : (0 : Int) ≤ ρ 38 + -ρ 29 := f2
  have f3 : (0 : Int) ≤ -ρ 38 + ρ 2 := f3
  have f4 : (0 : Int) ≤ ρ 26 + (-ρ 17 + -ρ 2) + 12288 := f4
  have f5 : (0 : Int) ≤ ρ 26 + (-ρ 18 + -ρ 2) + 12288 := f5
  have f6 : (0 : Int) ≤ -ρ 26 + ρ 2 := f6
  have f7 : (0 : Int) ≤ 4 * ρ 25 + -ρ 19 + 6 := f7
  have f8 : (0 : Int) ≤ ρ 29 + -ρ 26 + (-1) := f8
  have f9 : (0 : Int) ≤ ρ 30 + -ρ 17 := f9
  have f10 : (0 : Int) ≤ ρ 31 + -ρ 18 := f10
  have f11 : (0 : Int) ≤ -ρ 36 + ρ 2 + (-1) := f11
  have f12 : (0 : Int) ≤ ρ 2 + -ρ 0 + (-1) := f12
  have f13 : (0 : Int) ≤ -ρ 26 + ρ 2 + (-1) := f13
  have f14 : (0 : Int) ≤ -ρ 23 + ρ 2 := f14
  have f15 : (0 : Int) ≤ -ρ 30 + (ρ 29 + (-ρ 26 + ρ 17)) := f15
  have f16 : (0 : Int) ≤ -ρ 31 + (ρ 29 + (-ρ 26 + ρ 18)) := f16
  have f17 : (0 : Int) ≤ -ρ 16 + ρ 2 := f17
  have f18 : (0 : Int) ≤ ρ 26 + -ρ 16 := f18
  have f19 : (0 : Int) ≤ -ρ 18 + (ρ 16 + -ρ 2) + 12288 := f19
  have f20 : (0 : Int) ≤ -ρ 17 + (ρ 16 + -ρ 2) + 12288 := f20
  have f21 : (0 : Int) ≤ -ρ 18 + (ρ 16 + (ρ 4 + -ρ 1)) := f21
  have f22 : (0 : Int) ≤ -ρ 17 + (ρ 16 + (ρ 3 + -ρ 1)) := f22
  have f23 : (0 : Int) ≤ ρ 25 + -ρ 8 := f23
  have f24 : (0 : Int) ≤ ρ 20 + -ρ 9 := f24
  have f25 : (0 : Int) ≤ ρ 19 + -ρ 5 := f25
  have f26 : (0 : Int) ≤ ρ 18 + -ρ 4 := f26
  have f27 : (0 : Int) ≤ ρ 17 + -ρ 3 := f27
  have f28 : (0 : Int) ≤ ρ 16 + -ρ 1 := f28
  have f29 : (0 : Int) ≤ ρ 7 + -ρ 6 := f29
  have f30 : (0 : Int) ≤ 4 * ρ 8 + -ρ 5 + 6 := f30
  have f31 : (0 : Int) ≤ ρ 2 + -ρ 1 := f31
  have f32 : (0 : Int) ≤ -ρ 4 + (-ρ 2 + ρ 1) + 12288 := f32
  have f33 : (0 : Int) ≤ -ρ 3 + (-ρ 2 + ρ 1) + 12288 := f33
  obtain ⟨m0, m1, m2, m3, m4, m5, m6, m7, m8, m9, m10, m11, m12, m13, m14, m15, m16, m17, m18, m19, m20, m21, m22, m23, m24, m25, m26, m27, m28, m29, m30, m31, m32, m33, m34, m35, m36, m37, m38, m39, m40, -⟩ := hm
  have m0 : γ 0 15 0 35 = ρ 1 := m0
  have m1 : γ 0 15 0 34 = ρ 2 := m1
  have m2 : γ 0 15 0 8 = ρ 3 := m2
  have m3 : γ 0 15 0 9 = ρ 4 := m3
  have m4 : γ 0 15 0 58 = ρ 5 := m4
  have m5 : γ 0 15 0 32 = ρ 6 := m5
  have m6 : γ 0 15 0 44 = ρ 7 := m6
  have m7 : γ 0 73 0 (ρ 7) = ρ 8 := m7
  have m8 : γ 0 15 0 14 = ρ 9 := m8
  have m9 : γ 0 15 0 36 = ρ 10 := m9
  have m10 : γ 0 15 0 37 = ρ 11 := m10
  have m11 : γ 0 15 0 38 = ρ 12 := m11
  have m12 : γ 0 15 0 40 = ρ 13 := m12
  have m13 : γ 0 15 0 45 = ρ 14 := m13
  have m14 : γ 1 15 0 35 = ρ 16 := m14
  have m15 : γ 1 15 0 8 = ρ 17 := m15
  have m16 : γ 1 15 0 9 = ρ 18 := m16
  have m17 : γ 1 15 0 58 = ρ 19 := m17
  have m18 : γ 1 15 0 14 = ρ 20 := m18
  have m19 : γ 1 15 0 36 = ρ 10 := m19
  have m20 : γ 1 15 0 37 = ρ 21 := m20
  have m21 : γ 1 15 0 38 = ρ 22 := m21
  have m22 : γ 1 15 0 40 = ρ 23 := m22
  have m23 : γ 1 15 0 45 = ρ 24 := m23
  have m24 : γ 1 73 0 (ρ 7) = ρ 25 := m24
  have m25 : γ 2 15 0 35 = ρ 26 := m25
  have m26 : γ 1 77 0 (ρ 25 + 8 * ρ 7) = ρ 27 := m26
  have m27 : γ 1 81 0 (4 * ρ 25 + 32 * ρ 7) = ρ 28 := m27
  have m28 : γ 3 15 0 35 = ρ 29 := m28
  have m29 : γ 3 15 0 8 = ρ 30 := m29
  have m30 : γ 3 15 0 9 = ρ 31 := m30
  have m31 : γ 3 15 0 58 = ρ 19 := m31
  have m32 : γ 3 77 0 (ρ 25 + 8 * ρ 7) = ρ 32 := m32
  have m33 : γ 3 81 0 (4 * ρ 25 + 32 * ρ 7) = ρ 33 := m33
  have m34 : γ 3 15 0 14 = ρ 20 := m34
  have m35 : γ 3 15 0 36 = ρ 10 := m35
  have m36 : γ 3 15 0 37 = ρ 34 := m36
  have m37 : γ 3 15 0 38 = ρ 35 := m37
  have m38 : γ 3 15 0 40 = ρ 36 := m38
  have m39 : γ 3 15 0 45 = ρ 37 := m39
  have m40 : γ 5 15 0 35 = ρ 38 := m40
  obtain ⟨⟨⟨⟨⟨⟨⟨-, c1⟩, c2⟩, c3⟩, c4⟩, c5⟩, c6⟩, c7⟩ := hc
  have c1 : ∀ (G : Nat) (k j : Int), ¬ rMdP m27_ G j → γ 1 G k j = γ 0 G k j := c1
  have c2 : ∀ (G : Nat) (k j : Int), ¬ rMdP m6_ G j → γ 2 G k j = γ 1 G k j := c2
  have c3 : ∀ (G : Nat) (k j : Int), ¬ rMdP m25_ G j → γ 3 G k j = γ 2 G k j := c3
  have c4 : γ 4 = rUp (γ 3) 73 0 (ρ 7) (ρ 25 + 1) := c4
  have c5 : ∀ (G : Nat) (k j : Int), ¬ rMdP m6_ G j → γ 5 G k j = γ 4 G k j := c5
  have c6 : ∀ (G : Nat) (k j : Int), ¬ rMdP m0_ G j → γ 6 G k j = γ 5 G k j := c6
  have c7 : γ 7 = rUp (γ 6) 15 0 35 (ρ 38 + 1) := c7
  obtain ⟨l0, l1, l2, l3, -⟩ := hl
  have l0 : sn7 [ρ 16, ρ 2] (γ 1) 0 0 (γ 2) := hS7 _ _ _ _ _ l0
  have l1 : sn37 [ρ 0, ρ 26, ρ 2, ρ 17, ρ 18, ρ 19, ρ 7, ρ 25, ρ 27, ρ 28, ρ 20, ρ 10, ρ 21, ρ 22, ρ 23, ρ 24] (γ 2) 0 1 (γ 3) := hS37 _ _ _ _ _ l1
  have l2 : sn7 [ρ 29, ρ 2] (γ 4) 0 0 (γ 5) := hS7 _ _ _ _ _ l2
  have l3 : sn6 [ρ 38, ρ 2] (γ 5) 0 (ρ 39) (γ 6) := hS6 _ _ _ _ _ l3
  show jn38 [ρ 0, ρ 1, ρ 2, ρ 3, ρ 4, ρ 5, ρ 6, ρ 7, ρ 8, ρ 9, ρ 10, ρ 11, ρ 12, ρ 13, ρ 14] (γ 0) 0 [ρ 0, ρ 1, ρ 2, ρ 3, ρ 4, ρ 5, ρ 6, ρ 7, ρ 8, ρ 9, ρ 10, ρ 11, ρ 12, ρ 13, ρ 14, 1, ρ 38 + 1, ρ 30, ρ 31, ρ 19, ρ 20, ρ 34, ρ 35, ρ 36, ρ 37, ρ 25 + 1] (γ 7)
  have hD : en38 (γ 0) (0, [ρ 0, ρ 15], γ 1) = .inl (0, [ρ 0, 1], γ 7) := by
    unfold en38
    refine (if_pos (show (0 : Nat) = 0 by decide)).trans ?_
    refine (zLet_eq (show _ = γ 1 from rfl)).trans ?_
    refine (zLet_eq (show _ = ρ 0 from rfl)).trans ?_
    refine (zLet_eq (show _ = ρ 15 from rfl)).trans ?_
    refine (zLet_eq m1).trans ?_
    refine (zLet_eq m6).trans ?_
    refine (zLet_eq m24).trans ?_
    refine (if_neg (show ¬ (ρ 15 = 0) by omega)).trans ?_
    refine (zLet_eq (show fn7 [] (γ 1) = (0, 0, γ 2) from l0.symm)).trans ?_
    refine (zLet_eq (show _ = γ 2 from rfl)).trans ?_
    refine (zLet_eq m25).trans ?_
    refine (if_pos (show ρ 25 ≠ 8 by omega)).trans ?_
    refine (zLet_eq (show fn37 [ρ 0] (γ 2) = (0, 1, γ 3) from l1.symm)).trans ?_
    refine (zLet_eq (show _ = γ 3 from rfl)).trans ?_
    refine (if_pos (show (1 : Int) ≤ 1 by omega)).trans ?_
    refine (if_pos (show 5 ≤ γ 3 77 0 (ρ 25 + 8 * ρ 7) by omega)).trans ?_
    refine (zLet_eq c4.symm).trans ?_
    refine (zLet_eq (show fn7 [] (γ 4) = (0, 0, γ 5) from l2.symm)).trans ?_
    refine (zLet_eq (show _ = γ 5 from rfl)).trans ?_
    refine (zLet_eq m40).trans ?_
    refine (zLet_eq (show fn6 [ρ 38] (γ 5) = (0, ρ 39, γ 6) from l3.symm)).trans ?_
    refine (zLet_eq (show _ = γ 6 from rfl)).trans ?_
    refine (if_pos (show 0 ≤ -ρ 38 + ρ 2 + (-1) by omega)).trans ?_
    refine (zLet_eq (show _ = ρ 39 from rfl)).trans ?_
    refine (if_neg (show ¬ (ρ 39 ≠ 44) by omega)).trans ?_
    refine (zLet_eq c7.symm).trans ?_
    rfl
  exact zGoo_ato hJ hD
theorem vn38a0_7 {S : Nat → zSpc} (hS6 : ∀ x g o v gz, S 6 x g o v gz → sn6 x g o v gz) (hS7 : ∀ x g o v gz, S 7 x g o v gz → sn7 x g o v gz) (hS8 : ∀ x g o v gz, S 8 x g o v gz → sn8 x g o v gz) (hS37 : ∀ x g o v gz, S 37 x g o v gz → sn37 x g o v gz) {a : List Int} {g : rHp} : ∀ (ρ : Nat → Int) (γ : Nat → rHp), jn38 a g 0 (zAg (zNA a38_ 0) ρ) (γ 1) → zO 15 S a g q38a0_7 ρ γ → zGl (fun i vs g1 => jn38 a g i vs g1) (sn38 a g) q38a0_7 ρ γ := by
  intro ρ γ hJ h
  obtain ⟨ha, hg, hr, hf, hm, hc, hl⟩ := h
  have ha : a = [ρ 0, ρ 1, ρ 2, ρ 3, ρ 4, ρ 5, ρ 6, ρ 7, ρ 8, ρ 9, ρ 10, ρ 11, ρ 12, ρ 13, ρ 14] := ha
  subst ha
  subst hg
  have hJ : jn38 [ρ 0, ρ 1, ρ 2, ρ 3, ρ 4, ρ 5, ρ 6, ρ 7, ρ 8, ρ 9, ρ 10, ρ 11, ρ 12, ρ 13, ρ 14] (γ 0) 0 [ρ 0, ρ 1, ρ 2, ρ 3, ρ 4, ρ 5, ρ 6, ρ 7, ρ 8, ρ 9, ρ 10, ρ 11, ρ 12, ρ 13, ρ 14, ρ 15, ρ 16, ρ 17, ρ 18, ρ 19, ρ 20, ρ 21, ρ 22, ρ 23, ρ 24, ρ 25] (γ 1) := hJ
  obtain ⟨r0, r1, r2, r3, r4, r5, r6, r7, r8, r9, r10, r11, r12, r13, r14, r15, r16, r17, r18, r19, r20, r21, r22, r23, r24, r25, r26, r27, r28, r29, r30, r31, r32, r33, r34, r35, r36, r37, r38, -⟩ := hr
  have r0 : (0 : Int) ≤ ρ 0 ∧ ρ 0 ≤ 1 := r0
  have r1 : (0 : Int) ≤ ρ 1 ∧ ρ 1 ≤ 2000 := r1
  have r2 : (0 : Int) ≤ ρ 2 ∧ ρ 2 ≤ 2000 := r2
  have r3 : (0 : Int) ≤ ρ 3 ∧ ρ 3 ≤ 12288 := r3
  have r4 : (0 : Int) ≤ ρ 4 ∧ ρ 4 ≤ 12288 := r4
  have r5 : (0 : Int) ≤ ρ 5 ∧ ρ 5 ≤ 64 := r5
  have r6 : (0 : Int) ≤ ρ 6 ∧ ρ 6 ≤ 60 := r6
  have r7 : (0 : Int) ≤ ρ 7 ∧ ρ 7 ≤ 61 := r7
  have r8 : (0 : Int) ≤ ρ 8 ∧ ρ 8 ≤ 8 := r8
  have r9 : (0 : Int) ≤ ρ 9 ∧ ρ 9 ≤ 20 := r9
  have r10 : (0 : Int) ≤ ρ 10 ∧ ρ 10 ≤ 2000 := r10
  have r11 : (0 : Int) ≤ ρ 11 ∧ ρ 11 ≤ 2000 := r11
  have r12 : (0 : Int) ≤ ρ 12 ∧ ρ 12 ≤ 2000 := r12
  have r13 : (0 : Int) ≤ ρ 13 ∧ ρ 13 ≤ 3 := r13
  have r14 : ((-2147483648) : Int) ≤ ρ 14 ∧ ρ 14 ≤ 2147483647 := r14
  have r15 : (1 : Int) ≤ ρ 15 ∧ ρ 15 ≤ 1 := r15
  have r16 : (0 : Int) ≤ ρ 16 ∧ ρ 16 ≤ 2000 := r16
  have r17 : (0 : Int) ≤ ρ 17 ∧ ρ 17 ≤ 12288 := r17
  have r18 : (0 : Int) ≤ ρ 18 ∧ ρ 18 ≤ 12288 := r18
  have r19 : (0 : Int) ≤ ρ 19 ∧ ρ 19 ≤ 43 := r19
  have r20 : (0 : Int) ≤ ρ 20 ∧ ρ 20 ≤ 20 := r20
  have r21 : (0 : Int) ≤ ρ 21 ∧ ρ 21 ≤ 2000 := r21
  have r22 : (0 : Int) ≤ ρ 22 ∧ ρ 22 ≤ 2000 := r22
  have r23 : (0 : Int) ≤ ρ 23 ∧ ρ 23 ≤ 3 := r23
  have r24 : ((-2147483648) : Int) ≤ ρ 24 ∧ ρ 24 ≤ 2147483647 := r24
  have r25 : (0 : Int) ≤ ρ 25 ∧ ρ 25 ≤ 7 := r25
  have r26 : (0 : Int) ≤ ρ 26 ∧ ρ 26 ≤ 2000 := r26
  have r27 : (0 : Int) ≤ ρ 27 ∧ ρ 27 ≤ 7 := r27
  have r28 : ((-2147483648) : Int) ≤ ρ 28 ∧ ρ 28 ≤ 1099511640064 := r28
  have r29 : (5 : Int) ≤ ρ 29 ∧ ρ 29 ≤ 2000 := r29
  have r30 : (0 : Int) ≤ ρ 30 ∧ ρ 30 ≤ 12288 := r30
  have r31 : (0 : Int) ≤ ρ 31 ∧ ρ 31 ≤ 12288 := r31
  have r32 : (5 : Int) ≤ ρ 32 ∧ ρ 32 ≤ 7 := r32
  have r33 : (0 : Int) ≤ ρ 33 ∧ ρ 33 ≤ 7 := r33
  have r34 : (0 : Int) ≤ ρ 34 ∧ ρ 34 ≤ 2000 := r34
  have r35 : (0 : Int) ≤ ρ 35 ∧ ρ 35 ≤ 2000 := r35
  have r36 : (0 : Int) ≤ ρ 36 ∧ ρ 36 ≤ 2 := r36
  have r37 : ((-2147483648) : Int) ≤ ρ 37 ∧ ρ 37 ≤ 2147483647 := r37
  have r38 : (0 : Int) ≤ ρ 38 ∧ ρ 38 ≤ 2000 := r38
  obtain ⟨f0, f1, f2, f3, f4, f5, f6, f7, f8, f9, f10, f11, f12, f13, f14, f15, f16, f17, f18, f19, f20, f21, f22, f23, f24, f25, f26, f27, f28, f29, f30, f31, f32, f33, -⟩ := hf
  have f0 : (0 : Int) ≤ ρ 38 + -ρ 2 := f0
  have f1 : (0 : Int) ≤ -ρ 29 + ρ 2 := f1
  have f2 : (0 : Int) ≤ ρ 38 + -ρ 29 := f2
  have f3 : (0 : Int) ≤ -ρ 38 + ρ 2 := f3
  have f4 : (0 : Int) ≤ ρ 26 + (-ρ 17 + -ρ 2) + 12288 := f4
  have f5 : (0 : Int) ≤ ρ 26 + (-ρ 18 + -ρ 2) + 12288 := f5
  have f6 : (0 : Int) ≤ -ρ 26 + ρ 2 := f6
  have f7 : (0 : Int) ≤ 4 * ρ 25 + -ρ 19 + 6 := f7
  have f8 : (0 : Int) ≤ ρ 29 + -ρ 26 + (-1) := f8
  have f9 : (0 : Int) ≤ ρ 30 + -ρ 17 := f9
  have f10 : (0 : Int) ≤ ρ 31 + -ρ 18 := f10
  have f11 : (0 : Int) ≤ -ρ 36 + ρ 2 + (-1) := f11
  have f12 : (0 : Int) ≤ ρ 2 + -ρ 0 + (-1) := f12
  have f13 : (0 : Int) ≤ -ρ 26 + ρ 2 + (-1) := f13
  have f14 : (0 : Int) ≤ -ρ 23 + ρ 2 := f14
  have f15 : (0 : Int) ≤ -ρ 30 + (ρ 29 + (-ρ 26 + ρ 17)) := f15
  have f16 : (0 : Int) ≤ -ρ 31 + (ρ 29 + (-ρ 26 + ρ 18)) := f16
  have f17 : (0 : Int) ≤ -ρ 16 + ρ 2 := f17
  have f18 : (0 : Int) ≤ ρ 26 + -ρ 16 := f18
  have f19 : (0 : Int) ≤ -ρ 18 + (ρ 16 + -ρ 2) + 12288 := f19
  have f20 : (0 : Int) ≤ -ρ 17 + (ρ 16 + -ρ 2) + 12288 := f20
  have f21 : (0 : Int) ≤ -ρ 18 + (ρ 16 + (ρ 4 + -ρ 1)) := f21
  have f22 : (0 : Int) ≤ -ρ 17 + (ρ 16 + (ρ 3 + -ρ 1)) := f22
  have f23 : (0 : Int) ≤ ρ 25 + -ρ 8 := f23
  have f24 : (0 : Int) ≤ ρ 20 + -ρ 9 := f24
  have f25 : (0 : Int) ≤ ρ 19 + -ρ 5 := f25
  have f26 : (0 : Int) ≤ ρ 18 + -ρ 4 := f26
  have f27 : (0 : Int) ≤ ρ 17 + -ρ 3 := f27
  have f28 : (0 : Int) ≤ ρ 16 + -ρ 1 := f28
  have f29 : (0 : Int) ≤ ρ 7 + -ρ 6 := f29
  have f30 : (0 : Int) ≤ 4 * ρ 8 + -ρ 5 + 6 := f30
  have f31 : (0 : Int) ≤ ρ 2 + -ρ 1 := f31
  have f32 : (0 : Int) ≤ -ρ 4 + (-ρ 2 + ρ 1) + 12288 := f32
  have f33 : (0 : Int) ≤ -ρ 3 + (-ρ 2 + ρ 1) + 12288 := f33
  obtain ⟨m0, m1, m2, m3, m4, m5, m6, m7, m8, m9, m10, m11, m12, m13, m14, m15, m16, m17, m18, m19, m20, m21, m22, m23, m24, m25, m26, m27, m28, m29, m30, m31, m32, m33, m34, m35, m36, m37, m38, m39, m40, -⟩ := hm
  have m0 : γ 0 15 0 35 = ρ 1 := m0
  have m1 : γ 0 15 0 34 = ρ 2 := m1
  have m2 : γ 0 15 0 8 = ρ 3 := m2
  have m3 : γ 0 15 0 9 = ρ 4 := m3
  have m4 : γ 0 15 0 58 = ρ 5 := m4
  have m5 : γ 0 15 0 32 = ρ 6 := m5
  have m6 : γ 0 15 0 44 = ρ 7 := m6
  have m7 : γ 0 73 0 (ρ 7) = ρ 8 := m7
  have m8 : γ 0 15 0 14 = ρ 9 := m8
  have m9 : γ 0 15 0 36 = ρ 10 := m9
  have m10 : γ 0 15 0 37 = ρ 11 := m10
  have m11 : γ 0 15 0 38 = ρ 12 := m11
  have m12 : γ 0 15 0 40 = ρ 13 := m12
  have m13 : γ 0 15 0 45 = ρ 14 := m13
  have m14 : γ 1 15 0 35 = ρ 16 := m14
  have m15 : γ 1 15 0 8 = ρ 17 := m15
  have m16 : γ 1 15 0 9 = ρ 18 := m16
  have m17 : γ 1 15 0 58 = ρ 19 := m17
  have m18 : γ 1 15 0 14 = ρ 20 := m18
  have m19 : γ 1 15 0 36 = ρ 10 := m19
  have m20 : γ 1 15 0 37 = ρ 21 := m20
  have m21 : γ 1 15 0 38 = ρ 22 := m21
  have m22 : γ 1 15 0 40 = ρ 23 := m22
  have m23 : γ 1 15 0 45 = ρ 24 := m23
  have m24 : γ 1 73 0 (ρ 7) = ρ 25 := m24
  have m25 : γ 2 15 0 35 = ρ 26 := m25
  have m26 : γ 1 77 0 (ρ 25 + 8 * ρ 7) = ρ 27 := m26
  have m27 : γ 1 81 0 (4 * ρ 25 + 32 * ρ 7) = ρ 28 := m27
  have m28 : γ 3 15 0 35 = ρ 29 := m28
  have m29 : γ 3 15 0 8 = ρ 30 := m29
  have m30 : γ 3 15 0 9 = ρ 31 := m30
  have m31 : γ 3 15 0 58 = ρ 19 := m31
  have m32 : γ 3 77 0 (ρ 25 + 8 * ρ 7) = ρ 32 := m32
  have m33 : γ 3 81 0 (4 * ρ 25 + 32 * ρ 7) = ρ 33 := m33
  have m34 : γ 3 15 0 14 = ρ 20 := m34
  have m35 : γ 3 15 0 36 = ρ 10 := m35
  have m36 : γ 3 15 0 37 = ρ 34 := m36
  have m37 : γ 3 15 0 38 = ρ 35 := m37
  have m38 : γ 3 15 0 40 = ρ 36 := m38
  have m39 : γ 3 15 0 45 = ρ 37 := m39
  have m40 : γ 5 15 0 35 = ρ 38 := m40
  obtain ⟨⟨⟨⟨⟨⟨-, c1⟩, c2⟩, c3⟩, c4⟩, c5⟩, c6⟩ := hc
  have c1 : ∀ (G : Nat) (k j : Int), ¬ rMdP m27_ G j → γ 1 G k j = γ 0 G k j := c1
  have c2 : ∀ (G : Nat) (k j : Int), ¬ rMdP m6_ G j → γ 2 G k j = γ 1 G k j := c2
  have c3 : ∀ (G : Nat) (k j : Int), ¬ rMdP m25_ G j → γ 3 G k j = γ 2 G k j := c3
  have c4 : γ 4 = rUp (γ 3) 73 0 (ρ 7) (ρ 25 + 1) := c4
  have c5 : ∀ (G : Nat) (k j : Int), ¬ rMdP m6_ G j → γ 5 G k j = γ 4 G k j := c5
  have c6 : ∀ (G : Nat) (k j : Int), ¬ rMdP m0_ G j → γ 6 G k j = γ 5 G k j := c6
  obtain ⟨l0, l1, l2, l3, -⟩ := hl
  have l0 : sn7 [ρ 16, ρ 2] (γ 1) 0 0 (γ 2) := hS7 _ _ _ _ _ l0
  have l1 : sn37 [ρ 0, ρ 26, ρ 2, ρ 17, ρ 18, ρ 19, ρ 7, ρ 25, ρ 27, ρ 28, ρ 20, ρ 10, ρ 21, ρ 22, ρ 23, ρ 24] (γ 2) 0 1 (γ 3) := hS37 _ _ _ _ _ l1
  have l2 : sn7 [ρ 29, ρ 2] (γ 4) 0 0 (γ 5) := hS7 _ _ _ _ _ l2
  have l3 : sn6 [ρ 38, ρ 2] (γ 5) 0 (-1) (γ 6) := hS6 _ _ _ _ _ l3
  show jn38 [ρ 0, ρ 1, ρ 2, ρ 3, ρ 4, ρ 5, ρ 6, ρ 7, ρ 8, ρ 9, ρ 10, ρ 11, ρ 12, ρ 13, ρ 14] (γ 0) 0 [ρ 0, ρ 1, ρ 2, ρ 3, ρ 4, ρ 5, ρ 6, ρ 7, ρ 8, ρ 9, ρ 10, ρ 11, ρ 12, ρ 13, ρ 14, 0, ρ 38, ρ 30, ρ 31, ρ 19, ρ 20, ρ 34, ρ 35, ρ 36, ρ 37, ρ 25 + 1] (γ 6)
  have hD : en38 (γ 0) (0, [ρ 0, ρ 15], γ 1) = .inl (0, [ρ 0, 0], γ 6) := by
    unfold en38
    refine (if_pos (show (0 : Nat) = 0 by decide)).trans ?_
    refine (zLet_eq (show _ = γ 1 from rfl)).trans ?_
    refine (zLet_eq (show _ = ρ 0 from rfl)).trans ?_
    refine (zLet_eq (show _ = ρ 15 from rfl)).trans ?_
    refine (zLet_eq m1).trans ?_
    refine (zLet_eq m6).trans ?_
    refine (zLet_eq m24).trans ?_
    refine (if_neg (show ¬ (ρ 15 = 0) by omega)).trans ?_
    refine (zLet_eq (show fn7 [] (γ 1) = (0, 0, γ 2) from l0.symm)).trans ?_
    refine (zLet_eq (show _ = γ 2 from rfl)).trans ?_
    refine (zLet_eq m25).trans ?_
    refine (if_pos (show ρ 25 ≠ 8 by omega)).trans ?_
    refine (zLet_eq (show fn37 [ρ 0] (γ 2) = (0, 1, γ 3) from l1.symm)).trans ?_
    refine (zLet_eq (show _ = γ 3 from rfl)).trans ?_
    refine (if_pos (show (1 : Int) ≤ 1 by omega)).trans ?_
    refine (if_pos (show 5 ≤ γ 3 77 0 (ρ 25 + 8 * ρ 7) by omega)).trans ?_
    refine (zLet_eq c4.symm).trans ?_
    refine (zLet_eq (show fn7 [] (γ 4) = (0, 0, γ 5) from l2.symm)).trans ?_
    refine (zLet_eq (show _ = γ 5 from rfl)).trans ?_
    refine (zLet_eq m40).trans ?_
    refine (zLet_eq (show fn6 [ρ 38] (γ 5) = (0, (-1), γ 6) from l3.symm)).trans ?_
    refine (zLet_eq (show _ = γ 6 from rfl)).trans ?_
    refine (if_neg (show ¬ (0 ≤ -ρ 38 + ρ 2 + (-1)) by omega)).trans ?_
    rfl
  exact zGoo_ato hJ hD
theorem vn38a0_8 {S : Nat → zSpc} (hS6 : ∀ x g o v gz, S 6 x g o v gz → sn6 x g o v gz) (hS7 : ∀ x g o v gz, S 7 x g o v gz → sn7 x g o v gz) (hS8 : ∀ x g o v gz, S 8 x g o v gz → sn8 x g o v gz) (hS37 : ∀ x g o v gz, S 37 x g o v gz → sn37 x g o v gz) {a : List Int} {g : rHp} : ∀ (ρ : Nat → Int) (γ : Nat → rHp), jn38 a g 0 (zAg (zNA a38_ 0) ρ) (γ 1) → zO 15 S a g q38a0_8 ρ γ → zGl (fun i vs g1 => jn38 a g i vs g1) (sn38 a g) q38a0_8 ρ γ := by
  intro ρ γ hJ h
  obtain ⟨ha, hg, hr, hf, hm, hc, hl⟩ := h
  have ha : a = [ρ 0, ρ 1, ρ 2, ρ 3, ρ 4, ρ 5, ρ 6, ρ 7, ρ 8, ρ 9, ρ 10, ρ 11, ρ 12, ρ 13, ρ 14] := ha
  subst ha
  subst hg
  have hJ : jn38 [ρ 0, ρ 1, ρ 2, ρ 3, ρ 4, ρ 5, ρ 6, ρ 7, ρ 8, ρ 9, ρ 10, ρ 11, ρ 12, ρ 13, ρ 14] (γ 0) 0 [ρ 0, ρ 1, ρ 2, ρ 3, ρ 4, ρ 5, ρ 6, ρ 7, ρ 8, ρ 9, ρ 10, ρ 11, ρ 12, ρ 13, ρ 14, ρ 15, ρ 16, ρ 17, ρ 18, ρ 19, ρ 20, ρ 21, ρ 22, ρ 23, ρ 24, ρ 25] (γ 1) := hJ
  obtain ⟨-, -, -, -, -, -, -, -, -, -, -, -, -, -, -, r15, -, -, -, -, -, -, -, -, -, r25, -⟩ := hr
  have r15 : (1 : Int) ≤ ρ 15 ∧ ρ 15 ≤ 1 := r15
  have r25 : (8 : Int) ≤ ρ 25 ∧ ρ 25 ≤ 8 := r25
  obtain ⟨w_0, w_1⟩ : (¬ (ρ 15 = 0)) ∧ (¬ (ρ 25 ≠ 8)) := ⟨by omega, by omega⟩
  obtain ⟨-, m1, -, -, -, -, m6, -, -, -, -, -, -, -, -, -, -, -, -, -, -, -, -, -, m24, m25, -⟩ := hm
  have m1 : γ 0 15 0 34 = ρ 2 := m1
  have m6 : γ 0 15 0 44 = ρ 7 := m6
  have m24 : γ 1 73 0 (ρ 7) = ρ 25 := m24
  have m25 : γ 2 15 0 35 = ρ 26 := m25
  obtain ⟨l0, l1, -⟩ := hl
  have l0 : sn7 [ρ 16, ρ 2] (γ 1) 0 0 (γ 2) := hS7 _ _ _ _ _ l0
  have l1 : sn8 [ρ 26, ρ 2, ρ 10] (γ 2) 0 0 (γ 3) := hS8 _ _ _ _ _ l1
  show sn38 [ρ 0, ρ 1, ρ 2, ρ 3, ρ 4, ρ 5, ρ 6, ρ 7, ρ 8, ρ 9, ρ 10, ρ 11, ρ 12, ρ 13, ρ 14] (γ 0) 0 0 (γ 3)
  have hD : en38 (γ 0) (0, [ρ 0, ρ 15], γ 1) = .inr (0, 0, γ 3) := by
    unfold en38
    refine (if_pos (show (0 : Nat) = 0 by decide)).trans ?_
    refine (zLet_eq (show _ = γ 1 from rfl)).trans ?_
    refine (zLet_eq (show _ = ρ 0 from rfl)).trans ?_
    refine (zLet_eq (show _ = ρ 15 from rfl)).trans ?_
    refine (zLet_eq m1).trans ?_
    refine (zLet_eq m6).trans ?_
    refine (zLet_eq m24).trans ?_
    refine (if_neg w_0).trans ?_
    refine (zLet_eq (show fn7 [] (γ 1) = (0, 0, γ 2) from l0.symm)).trans ?_
    refine (zLet_eq (show _ = γ 2 from rfl)).trans ?_
    refine (zLet_eq m25).trans ?_
    refine (if_neg w_1).trans ?_
    refine (zLet_eq (show fn8 [ρ 26] (γ 2) = (0, 0, γ 3) from l1.symm)).trans ?_
    refine (zLet_eq (show _ = γ 3 from rfl)).trans ?_
    rfl
  exact zGoo_aend hJ hD
theorem yn38 {S : Nat → zSpc} (hS6 : ∀ x g o v gz, S 6 x g o v gz → sn6 x g o v gz) (hS7 : ∀ x g o v gz, S 7 x g o v gz → sn7 x g o v gz) (hS8 : ∀ x g o v gz, S 8 x g o v gz → sn8 x g o v gz) (hS37 : ∀ x g o v gz, S 37 x g o v gz → sn37 x g o v gz) : ∀ x g o v gz, zSem uW uT w38_.2.2.2.1 w38_.2.2.1.1.length S q38 (fun i => q38a.getD i []) (zNA a38_) x g o v gz → sn38 x g o v gz := by
  intro a g o v gz h
  exact zSem_all (l0 := q38) (las := q38a) (S := S) (J := (fun i vs g1 => jn38 a g i vs g1)) (P := sn38 a g) (fun _ => (show zAll _ [q38_0] from (zAll_c (vn38_0 hS6 hS7 hS8 hS37) zAll_n))) (fun _ => (show zAllI _ 0 [q38a0] from ⟨(show zAll _ [q38a0_0, q38a0_1, q38a0_2, q38a0_3, q38a0_4, q38a0_5, q38a0_6, q38a0_7, q38a0_8] from (zAll_c (vn38a0_0 hS6 hS7 hS8 hS37) (zAll_c (vn38a0_1 hS6 hS7 hS8 hS37) (zAll_c (vn38a0_2 hS6 hS7 hS8 hS37) (zAll_c (vn38a0_3 hS6 hS7 hS8 hS37) (zAll_c (vn38a0_4 hS6 hS7 hS8 hS37) (zAll_c (vn38a0_5 hS6 hS7 hS8 hS37) (zAll_c (vn38a0_6 hS6 hS7 hS8 hS37) (zAll_c (vn38a0_7 hS6 hS7 hS8 hS37) (zAll_c (vn38a0_8 hS6 hS7 hS8 hS37) zAll_n)))))))))), trivial⟩)) h
theorem vn39_0 {S : Nat → zSpc}  {a : List Int} {g : rHp} : ∀ (ρ : Nat → Int) (γ : Nat → rHp), zO 4 S a g q39_0 ρ γ → zGl (fun i vs g1 => jn39 a g i vs g1) (sn39 a g) q39_0 ρ γ := by
  intro ρ γ h
  obtain ⟨ha, hg, hr, hf, hm, hc, hl⟩ := h
  have ha : a = [ρ 0, ρ 1, ρ 2, ρ 3] := ha
  subst ha
  subst hg
  obtain ⟨m0, -⟩ := hm
  have m0 : γ 0 15 0 14 = ρ 3 := m0
  obtain ⟨⟨-, c1⟩, c2⟩ := hc
  have c1 : γ 1 = rUp (γ 0) 66 0 (ρ 3) (ρ 2) := c1
  have c2 : γ 2 = rUp (γ 1) 65 0 (ρ 3) (ρ 1) := c2
  show jn39 [ρ 0, ρ 1, ρ 2, ρ 3] (γ 0) 0 [ρ 0, ρ 1, ρ 2, ρ 3, 0] (γ 2)
  have hD : dn39 [ρ 0, ρ 1, ρ 2] (γ 0) = .inl (0, [ρ 0, ρ 1, ρ 2, 0], γ 2) := by
    unfold dn39
    refine (zLet_eq (show _ = ρ 0 from rfl)).trans ?_
    refine (zLet_eq (show _ = ρ 1 from rfl)).trans ?_
    refine (zLet_eq (show _ = ρ 2 from rfl)).trans ?_
    refine (zLet_eq m0).trans ?_
    refine (zLet_eq c1.symm).trans ?_
    refine (zLet_eq c2.symm).trans ?_
    rfl
  exact zGoo_to hD
theorem vn39a0_0 {S : Nat → zSpc}  {a : List Int} {g : rHp} : ∀ (ρ : Nat → Int) (γ : Nat → rHp), jn39 a g 0 (zAg (zNA a39_ 0) ρ) (γ 1) → zO 4 S a g q39a0_0 ρ γ → zGl (fun i vs g1 => jn39 a g i vs g1) (sn39 a g) q39a0_0 ρ γ := by
  intro ρ γ hJ h
  obtain ⟨ha, hg, hr, hf, hm, hc, hl⟩ := h
  have ha : a = [ρ 0, ρ 1, ρ 2, ρ 3] := ha
  subst ha
  subst hg
  have hJ : jn39 [ρ 0, ρ 1, ρ 2, ρ 3] (γ 0) 0 [ρ 0, ρ 1, ρ 2, ρ 3, ρ 4] (γ 1) := hJ
  obtain ⟨f0, -⟩ := hf
  have f0 : (0 : Int) ≤ ρ 4 + -ρ 1 := f0
  have w_0 : ρ 4 ≥ ρ 1 := by omega
  obtain ⟨m0, -⟩ := hm
  have m0 : γ 0 15 0 14 = ρ 3 := m0
  obtain ⟨-, c2⟩ := hc
  have c2 : γ 2 = rUp (γ 1) 15 0 14 (ρ 3 + 1) := c2
  show sn39 [ρ 0, ρ 1, ρ 2, ρ 3] (γ 0) 0 (ρ 3) (γ 2)
  have hD : en39 (γ 0) (0, [ρ 0, ρ 1, ρ 2, ρ 4], γ 1) = .inr (0, ρ 3, γ 2) := by
    unfold en39
    refine (if_pos (show (0 : Nat) = 0 by decide)).trans ?_
    refine (zLet_eq (show _ = γ 1 from rfl)).trans ?_
    refine (zLet_eq (show _ = ρ 0 from rfl)).trans ?_
    refine (zLet_eq (show _ = ρ 1 from rfl)).trans ?_
    refine (zLet_eq (show _ = ρ 2 from rfl)).trans ?_
    refine (zLet_eq (show _ = ρ 4 from rfl)).trans ?_
    refine (zLet_eq m0).trans ?_
    refine (if_pos w_0).trans ?_
    refine (zLet_eq c2.symm).trans ?_
    rfl
  exact zGoo_aend hJ hD
theorem vn39a0_1 {S : Nat → zSpc}  {a : List Int} {g : rHp} : ∀ (ρ : Nat → Int) (γ : Nat → rHp), jn39 a g 0 (zAg (zNA a39_ 0) ρ) (γ 1) → zO 4 S a g q39a0_1 ρ γ → zGl (fun i vs g1 => jn39 a g i vs g1) (sn39 a g) q39a0_1 ρ γ := by
  intro ρ γ hJ h
  obtain ⟨ha, hg, hr, hf, hm, hc, hl⟩ := h
  have ha : a = [ρ 0, ρ 1, ρ 2, ρ 3] := ha
  subst ha
  subst hg
  have hJ : jn39 [ρ 0, ρ 1, ρ 2, ρ 3] (γ 0) 0 [ρ 0, ρ 1, ρ 2, ρ 3, ρ 4] (γ 1) := hJ
  obtain ⟨f0, -⟩ := hf
  have f0 : (0 : Int) ≤ -ρ 4 + ρ 1 + (-1) := f0
  have w_0 : ¬ (ρ 4 ≥ ρ 1) := by omega
  obtain ⟨m0, m1, -⟩ := hm
  have m0 : γ 0 15 0 14 = ρ 3 := m0
  have m1 : γ 0 59 0 (ρ 4 + ρ 0) = ρ 5 := m1
  obtain ⟨-, c2⟩ := hc
  have c2 : γ 2 = rUp (γ 1) 64 0 (ρ 4 + 12 * ρ 3) (ρ 5) := c2
  show jn39 [ρ 0, ρ 1, ρ 2, ρ 3] (γ 0) 0 [ρ 0, ρ 1, ρ 2, ρ 3, ρ 4 + 1] (γ 2)
  have hD : en39 (γ 0) (0, [ρ 0, ρ 1, ρ 2, ρ 4], γ 1) = .inl (0, [ρ 0, ρ 1, ρ 2, ρ 4 + 1], γ 2) := by
    unfold en39
    refine (if_pos (show (0 : Nat) = 0 by decide)).trans ?_
    refine (zLet_eq (show _ = γ 1 from rfl)).trans ?_
    refine (zLet_eq (show _ = ρ 0 from rfl)).trans ?_
    refine (zLet_eq (show _ = ρ 1 from rfl)).trans ?_
    refine (zLet_eq (show _ = ρ 2 from rfl)).trans ?_
    refine (zLet_eq (show _ = ρ 4 from rfl)).trans ?_
    refine (zLet_eq m0).trans ?_
    refine (if_neg w_0).trans ?_
    refine (zLet_eq m1).trans ?_
    refine (zLet_eq c2.symm).trans ?_
    rfl
  exact zGoo_ato hJ hD
theorem yn39 {S : Nat → zSpc}  : ∀ x g o v gz, zSem uW uT w39_.2.2.2.1 w39_.2.2.1.1.length S q39 (fun i => q39a.getD i []) (zNA a39_) x g o v gz → sn39 x g o v gz := by
  intro a g o v gz h
  exact zSem_all (l0 := q39) (las := q39a) (S := S) (J := (fun i vs g1 => jn39 a g i vs g1)) (P := sn39 a g) (fun _ => (show zAll _ [q39_0] from (zAll_c (vn39_0 ) zAll_n))) (fun _ => (show zAllI _ 0 [q39a0] from ⟨(show zAll _ [q39a0_0, q39a0_1] from (zAll_c (vn39a0_0 ) (zAll_c (vn39a0_1 ) zAll_n))), trivial⟩)) h
theorem vn40_0 {S : Nat → zSpc} (hS6 : ∀ x g o v gz, S 6 x g o v gz → sn6 x g o v gz) (hS7 : ∀ x g o v gz, S 7 x g o v gz → sn7 x g o v gz) (hS8 : ∀ x g o v gz, S 8 x g o v gz → sn8 x g o v gz) (hS19 : ∀ x g o v gz, S 19 x g o v gz → sn19 x g o v gz) (hS33 : ∀ x g o v gz, S 33 x g o v gz → sn33 x g o v gz) (hS34 : ∀ x g o v gz, S 34 x g o v gz → sn34 x g o v gz) {a : List Int} {g : rHp} : ∀ (ρ : Nat → Int) (γ : Nat → rHp), zO 16 S a g q40_0 ρ γ → zGl (fun _ _ _ => True) (sn40 a g) q40_0 ρ γ := by
  intro ρ γ h
  obtain ⟨ha, hg, hr, hf, hm, hc, hl⟩ := h
  have ha : a = [ρ 0, ρ 1, ρ 2, ρ 3, ρ 4, ρ 5, ρ 6, ρ 7, ρ 8, ρ 9, ρ 10, ρ 11, ρ 12, ρ 13, ρ 14, ρ 15] := ha
  subst ha
  subst hg
  obtain ⟨-, -, -, -, -, -, -, -, -, -, -, -, -, -, -, -, -, r17, r18, r19, -⟩ := hr
  have r17 : (60 : Int) ≤ ρ 17 ∧ ρ 17 ≤ 60 := r17
  have r18 : ((-128) : Int) ≤ ρ 18 ∧ ρ 18 ≤ 127 := r18
  have r19 : (0 : Int) ≤ ρ 19 ∧ ρ 19 ≤ 3 := r19
  obtain ⟨-, -, f2, -, -, -, -, -, -, -, f10, -⟩ := hf
  have f2 : (0 : Int) ≤ -ρ 16 + ρ 2 + (-1) := f2
  have f10 : (0 : Int) ≤ -ρ 16 + ρ 2 + (-2) := f10
  obtain ⟨w_0, w_1, w_2⟩ : (0 ≤ -ρ 16 + ρ 2 + (-1)) ∧ (ρ 17 = 60) ∧ (0 ≤ -ρ 16 + ρ 2 + (-2)) := ⟨by omega, by omega, by omega⟩
  obtain ⟨-, m1, -, -, -, -, m6, m7, -, m9, -, -, -, -, -, m15, m16, -⟩ := hm
  have m1 : γ 0 15 0 34 = ρ 2 := m1
  have m6 : γ 0 15 0 44 = ρ 7 := m6
  have m7 : γ 0 73 0 (ρ 7) = ρ 8 := m7
  have m9 : γ 0 81 0 (4 * ρ 8 + 32 * ρ 7) = ρ 10 := m9
  have m15 : γ 2 15 0 35 = ρ 16 := m15
  have m16 : γ 0 80 0 (4 * ρ 8 + 32 * ρ 7) = ρ 19 := m16
  obtain ⟨⟨⟨⟨-, c4⟩, c5⟩, -⟩, -⟩ := hc
  have c4 : γ 4 = rUp (γ 3) 15 0 35 (ρ 16 + 1) := c4
  have c5 : γ 5 = rUp (γ 4) 77 0 (ρ 8 + 8 * ρ 7) 2 := c5
  obtain ⟨l0, l1, l2, l3, l4, l5, l6, -⟩ := hl
  have l0 : sn33 [ρ 7, ρ 8] (γ 0) 0 (ρ 8 + 8 * ρ 7) (γ 1) := hS33 _ _ _ _ _ l0
  have l1 : sn7 [ρ 1, ρ 2] (γ 1) 0 0 (γ 2) := hS7 _ _ _ _ _ l1
  have l2 : sn6 [ρ 16, ρ 2] (γ 2) 0 (ρ 17) (γ 3) := hS6 _ _ _ _ _ l2
  have l3 : sn6 [ρ 16 + 1, ρ 2] (γ 5) 0 (ρ 18) (γ 6) := hS6 _ _ _ _ _ l3
  have l4 : ρ 18 ≠ 62 := l4
  have l5 : ρ 19 ≠ 1 := l5
  have l6 : sn34 [1, ρ 16 + 1, ρ 2, ρ 3, ρ 4, ρ 7, ρ 8, 2, ρ 10, ρ 11, ρ 12, ρ 13, ρ 14, ρ 15] (γ 6) 0 0 (γ 7) := hS34 _ _ _ _ _ l6
  obtain ⟨wl_0, wl_1⟩ : (ρ 18 ≠ 62) ∧ (ρ 19 ≠ 1) := ⟨by omega, by omega⟩
  show sn40 [ρ 0, ρ 1, ρ 2, ρ 3, ρ 4, ρ 5, ρ 6, ρ 7, ρ 8, ρ 9, ρ 10, ρ 11, ρ 12, ρ 13, ρ 14, ρ 15] (γ 0) 0 0 (γ 7)
  refine Eq.symm ?_
  show fn40 [ρ 0] (γ 0) = _
  unfold fn40
  refine (zLet_eq (show _ = ρ 0 from rfl)).trans ?_
  refine (zLet_eq m1).trans ?_
  refine (zLet_eq m6).trans ?_
  refine (zLet_eq m7).trans ?_
  refine (zLet_eq m9).trans ?_
  refine (zLet_eq (show fn33 [] (γ 0) = (0, ρ 8 + 8 * ρ 7, γ 1) from l0.symm)).trans ?_
  refine (zLet_eq (show _ = γ 1 from rfl)).trans ?_
  refine (zLet_eq (show fn7 [] (γ 1) = (0, 0, γ 2) from l1.symm)).trans ?_
  refine (zLet_eq (show _ = γ 2 from rfl)).trans ?_
  refine (zLet_eq m15).trans ?_
  refine (zLet_eq (show fn6 [ρ 16] (γ 2) = (0, ρ 17, γ 3) from l2.symm)).trans ?_
  refine (zLet_eq (show _ = γ 3 from rfl)).trans ?_
  refine (if_pos w_0).trans ?_
  refine (zLet_eq (show _ = ρ 17 from rfl)).trans ?_
  refine (if_pos w_1).trans ?_
  refine (zLet_eq c4.symm).trans ?_
  refine (zLet_eq c5.symm).trans ?_
  refine (zLet_eq (show fn6 [ρ 16 + 1] (γ 5) = (0, ρ 18, γ 6) from l3.symm)).trans ?_
  refine (zLet_eq (show _ = γ 6 from rfl)).trans ?_
  refine (if_pos w_2).trans ?_
  refine (zLet_eq (show _ = ρ 18 from rfl)).trans ?_
  refine (if_pos wl_0).trans ?_
  refine (zLet_eq m16).trans ?_
  refine (if_pos wl_1).trans ?_
  refine (zLet_eq (show fn34 [1] (γ 6) = (0, 0, γ 7) from l6.symm)).trans ?_
  refine (zLet_eq (show _ = γ 7 from rfl)).trans ?_
  refine (if_neg zQ0_).trans ?_
  rfl
theorem vn40_1 {S : Nat → zSpc} (hS6 : ∀ x g o v gz, S 6 x g o v gz → sn6 x g o v gz) (hS7 : ∀ x g o v gz, S 7 x g o v gz → sn7 x g o v gz) (hS8 : ∀ x g o v gz, S 8 x g o v gz → sn8 x g o v gz) (hS19 : ∀ x g o v gz, S 19 x g o v gz → sn19 x g o v gz) (hS33 : ∀ x g o v gz, S 33 x g o v gz → sn33 x g o v gz) (hS34 : ∀ x g o v gz, S 34 x g o v gz → sn34 x g o v gz) {a : List Int} {g : rHp} : ∀ (ρ : Nat → Int) (γ : Nat → rHp), zO 16 S a g q40_1 ρ γ → zGl (fun _ _ _ => True) (sn40 a g) q40_1 ρ γ := by
  intro ρ γ h
  obtain ⟨ha, hg, hr, hf, hm, hc, hl⟩ := h
  have ha : a = [ρ 0, ρ 1, ρ 2, ρ 3, ρ 4, ρ 5, ρ 6, ρ 7, ρ 8, ρ 9, ρ 10, ρ 11, ρ 12, ρ 13, ρ 14, ρ 15] := ha
  subst ha
  subst hg
  obtain ⟨-, -, -, -, -, -, -, -, -, -, -, -, -, -, -, -, -, r17, r18, r19, -⟩ := hr
  have r17 : (60 : Int) ≤ ρ 17 ∧ ρ 17 ≤ 60 := r17
  have r18 : ((-128) : Int) ≤ ρ 18 ∧ ρ 18 ≤ 127 := r18
  have r19 : (0 : Int) ≤ ρ 19 ∧ ρ 19 ≤ 3 := r19
  obtain ⟨-, -, f2, -, -, -, -, f7, -⟩ := hf
  have f2 : (0 : Int) ≤ -ρ 16 + ρ 2 + (-1) := f2
  have f7 : (0 : Int) ≤ -ρ 16 + ρ 2 + (-2) := f7
  obtain ⟨w_0, w_1, w_2⟩ : (0 ≤ -ρ 16 + ρ 2 + (-1)) ∧ (ρ 17 = 60) ∧ (0 ≤ -ρ 16 + ρ 2 + (-2)) := ⟨by omega, by omega, by omega⟩
  obtain ⟨-, m1, -, -, -, -, m6, m7, -, m9, -, -, -, -, -, m15, m16, -⟩ := hm
  have m1 : γ 0 15 0 34 = ρ 2 := m1
  have m6 : γ 0 15 0 44 = ρ 7 := m6
  have m7 : γ 0 73 0 (ρ 7) = ρ 8 := m7
  have m9 : γ 0 81 0 (4 * ρ 8 + 32 * ρ 7) = ρ 10 := m9
  have m15 : γ 2 15 0 35 = ρ 16 := m15
  have m16 : γ 0 80 0 (4 * ρ 8 + 32 * ρ 7) = ρ 19 := m16
  obtain ⟨⟨⟨⟨-, c4⟩, c5⟩, -⟩, -⟩ := hc
  have c4 : γ 4 = rUp (γ 3) 15 0 35 (ρ 16 + 1) := c4
  have c5 : γ 5 = rUp (γ 4) 77 0 (ρ 8 + 8 * ρ 7) 2 := c5
  obtain ⟨l0, l1, l2, l3, l4, l5, l6, -⟩ := hl
  have l0 : sn33 [ρ 7, ρ 8] (γ 0) 0 (ρ 8 + 8 * ρ 7) (γ 1) := hS33 _ _ _ _ _ l0
  have l1 : sn7 [ρ 1, ρ 2] (γ 1) 0 0 (γ 2) := hS7 _ _ _ _ _ l1
  have l2 : sn6 [ρ 16, ρ 2] (γ 2) 0 (ρ 17) (γ 3) := hS6 _ _ _ _ _ l2
  have l3 : sn6 [ρ 16 + 1, ρ 2] (γ 5) 0 (ρ 18) (γ 6) := hS6 _ _ _ _ _ l3
  have l4 : ρ 18 ≠ 62 := l4
  have l5 : ρ 19 ≠ 1 := l5
  have l6 : sn34 [1, ρ 16 + 1, ρ 2, ρ 3, ρ 4, ρ 7, ρ 8, 2, ρ 10, ρ 11, ρ 12, ρ 13, ρ 14, ρ 15] (γ 6) 0 1 (γ 7) := hS34 _ _ _ _ _ l6
  obtain ⟨wl_0, wl_1⟩ : (ρ 18 ≠ 62) ∧ (ρ 19 ≠ 1) := ⟨by omega, by omega⟩
  show sn40 [ρ 0, ρ 1, ρ 2, ρ 3, ρ 4, ρ 5, ρ 6, ρ 7, ρ 8, ρ 9, ρ 10, ρ 11, ρ 12, ρ 13, ρ 14, ρ 15] (γ 0) 0 1 (γ 7)
  refine Eq.symm ?_
  show fn40 [ρ 0] (γ 0) = _
  unfold fn40
  refine (zLet_eq (show _ = ρ 0 from rfl)).trans ?_
  refine (zLet_eq m1).trans ?_
  refine (zLet_eq m6).trans ?_
  refine (zLet_eq m7).trans ?_
  refine (zLet_eq m9).trans ?_
  refine (zLet_eq (show fn33 [] (γ 0) = (0, ρ 8 + 8 * ρ 7, γ 1) from l0.symm)).trans ?_
  refine (zLet_eq (show _ = γ 1 from rfl)).trans ?_
  refine (zLet_eq (show fn7 [] (γ 1) = (0, 0, γ 2) from l1.symm)).trans ?_
  refine (zLet_eq (show _ = γ 2 from rfl)).trans ?_
  refine (zLet_eq m15).trans ?_
  refine (zLet_eq (show fn6 [ρ 16] (γ 2) = (0, ρ 17, γ 3) from l2.symm)).trans ?_
  refine (zLet_eq (show _ = γ 3 from rfl)).trans ?_
  refine (if_pos w_0).trans ?_
  refine (zLet_eq (show _ = ρ 17 from rfl)).trans ?_
  refine (if_pos w_1).trans ?_
  refine (zLet_eq c4.symm).trans ?_
  refine (zLet_eq c5.symm).trans ?_
  refine (zLet_eq (show fn6 [ρ 16 + 1] (γ 5) = (0, ρ 18, γ 6) from l3.symm)).trans ?_
  refine (zLet_eq (show _ = γ 6 from rfl)).trans ?_
  refine (if_pos w_2).trans ?_
  refine (zLet_eq (show _ = ρ 18 from rfl)).trans ?_
  refine (if_pos wl_0).trans ?_
  refine (zLet_eq m16).trans ?_
  refine (if_pos wl_1).trans ?_
  refine (zLet_eq (show fn34 [1] (γ 6) = (0, 1, γ 7) from l6.symm)).trans ?_
  refine (zLet_eq (show _ = γ 7 from rfl)).trans ?_
  refine (if_pos zQ1_).trans ?_
  rfl
theorem vn40_2 {S : Nat → zSpc} (hS6 : ∀ x g o v gz, S 6 x g o v gz → sn6 x g o v gz) (hS7 : ∀ x g o v gz, S 7 x g o v gz → sn7 x g o v gz) (hS8 : ∀ x g o v gz, S 8 x g o v gz → sn8 x g o v gz) (hS19 : ∀ x g o v gz, S 19 x g o v gz → sn19 x g o v gz) (hS33 : ∀ x g o v gz, S 33 x g o v gz → sn33 x g o v gz) (hS34 : ∀ x g o v gz, S 34 x g o v gz → sn34 x g o v gz) {a : List Int} {g : rHp} : ∀ (ρ : Nat → Int) (γ : Nat → rHp), zO 16 S a g q40_2 ρ γ → zGl (fun _ _ _ => True) (sn40 a g) q40_2 ρ γ := by
  intro ρ γ h
  obtain ⟨ha, hg, hr, hf, hm, hc, hl⟩ := h
  have ha : a = [ρ 0, ρ 1, ρ 2, ρ 3, ρ 4, ρ 5, ρ 6, ρ 7, ρ 8, ρ 9, ρ 10, ρ 11, ρ 12, ρ 13, ρ 14, ρ 15] := ha
  subst ha
  subst hg
  obtain ⟨-, -, -, -, -, -, -, -, -, -, -, -, -, -, -, -, -, r17, r18, r19, -⟩ := hr
  have r17 : (60 : Int) ≤ ρ 17 ∧ ρ 17 ≤ 60 := r17
  have r18 : ((-128) : Int) ≤ ρ 18 ∧ ρ 18 ≤ 127 := r18
  have r19 : (1 : Int) ≤ ρ 19 ∧ ρ 19 ≤ 1 := r19
  obtain ⟨-, -, f2, -⟩ := hf
  have f2 : (0 : Int) ≤ -ρ 16 + ρ 2 + (-2) := f2
  obtain ⟨w_0, w_1, w_2, w_3⟩ : (0 ≤ -ρ 16 + ρ 2 + (-1)) ∧ (ρ 17 = 60) ∧ (0 ≤ -ρ 16 + ρ 2 + (-2)) ∧ (¬ (ρ 19 ≠ 1)) := ⟨by omega, by omega, by omega, by omega⟩
  obtain ⟨-, m1, -, -, -, -, m6, m7, -, m9, -, -, -, -, -, m15, m16, -⟩ := hm
  have m1 : γ 0 15 0 34 = ρ 2 := m1
  have m6 : γ 0 15 0 44 = ρ 7 := m6
  have m7 : γ 0 73 0 (ρ 7) = ρ 8 := m7
  have m9 : γ 0 81 0 (4 * ρ 8 + 32 * ρ 7) = ρ 10 := m9
  have m15 : γ 2 15 0 35 = ρ 16 := m15
  have m16 : γ 0 80 0 (4 * ρ 8 + 32 * ρ 7) = ρ 19 := m16
  obtain ⟨⟨⟨⟨⟨-, c4⟩, c5⟩, -⟩, -⟩, -⟩ := hc
  have c4 : γ 4 = rUp (γ 3) 15 0 35 (ρ 16 + 1) := c4
  have c5 : γ 5 = rUp (γ 4) 77 0 (ρ 8 + 8 * ρ 7) 2 := c5
  obtain ⟨l0, l1, l2, l3, l4, l5, l6, -⟩ := hl
  have l0 : sn33 [ρ 7, ρ 8] (γ 0) 0 (ρ 8 + 8 * ρ 7) (γ 1) := hS33 _ _ _ _ _ l0
  have l1 : sn7 [ρ 1, ρ 2] (γ 1) 0 0 (γ 2) := hS7 _ _ _ _ _ l1
  have l2 : sn6 [ρ 16, ρ 2] (γ 2) 0 (ρ 17) (γ 3) := hS6 _ _ _ _ _ l2
  have l3 : sn6 [ρ 16 + 1, ρ 2] (γ 5) 0 (ρ 18) (γ 6) := hS6 _ _ _ _ _ l3
  have l4 : ρ 18 ≠ 62 := l4
  have l5 : sn19 [ρ 10, ρ 15] (γ 6) 0 0 (γ 7) := hS19 _ _ _ _ _ l5
  have l6 : sn8 [ρ 0, ρ 2, ρ 11] (γ 7) 0 0 (γ 8) := hS8 _ _ _ _ _ l6
  have wl_0 : ρ 18 ≠ 62 := by omega
  show sn40 [ρ 0, ρ 1, ρ 2, ρ 3, ρ 4, ρ 5, ρ 6, ρ 7, ρ 8, ρ 9, ρ 10, ρ 11, ρ 12, ρ 13, ρ 14, ρ 15] (γ 0) 0 0 (γ 8)
  refine Eq.symm ?_
  show fn40 [ρ 0] (γ 0) = _
  unfold fn40
  refine (zLet_eq (show _ = ρ 0 from rfl)).trans ?_
  refine (zLet_eq m1).trans ?_
  refine (zLet_eq m6).trans ?_
  refine (zLet_eq m7).trans ?_
  refine (zLet_eq m9).trans ?_
  refine (zLet_eq (show fn33 [] (γ 0) = (0, ρ 8 + 8 * ρ 7, γ 1) from l0.symm)).trans ?_
  refine (zLet_eq (show _ = γ 1 from rfl)).trans ?_
  refine (zLet_eq (show fn7 [] (γ 1) = (0, 0, γ 2) from l1.symm)).trans ?_
  refine (zLet_eq (show _ = γ 2 from rfl)).trans ?_
  refine (zLet_eq m15).trans ?_
  refine (zLet_eq (show fn6 [ρ 16] (γ 2) = (0, ρ 17, γ 3) from l2.symm)).trans ?_
  refine (zLet_eq (show _ = γ 3 from rfl)).trans ?_
  refine (if_pos w_0).trans ?_
  refine (zLet_eq (show _ = ρ 17 from rfl)).trans ?_
  refine (if_pos w_1).trans ?_
  refine (zLet_eq c4.symm).trans ?_
  refine (zLet_eq c5.symm).trans ?_
  refine (zLet_eq (show fn6 [ρ 16 + 1] (γ 5) = (0, ρ 18, γ 6) from l3.symm)).trans ?_
  refine (zLet_eq (show _ = γ 6 from rfl)).trans ?_
  refine (if_pos w_2).trans ?_
  refine (zLet_eq (show _ = ρ 18 from rfl)).trans ?_
  refine (if_pos wl_0).trans ?_
  refine (zLet_eq m16).trans ?_
  refine (if_neg w_3).trans ?_
  refine (zLet_eq (show fn19 [ρ 10] (γ 6) = (0, 0, γ 7) from l5.symm)).trans ?_
  refine (zLet_eq (show _ = γ 7 from rfl)).trans ?_
  refine (if_neg zQ0_).trans ?_
  refine (zLet_eq (show fn8 [ρ 0] (γ 7) = (0, 0, γ 8) from l6.symm)).trans ?_
  refine (zLet_eq (show _ = γ 8 from rfl)).trans ?_
  rfl
theorem vn40_3 {S : Nat → zSpc} (hS6 : ∀ x g o v gz, S 6 x g o v gz → sn6 x g o v gz) (hS7 : ∀ x g o v gz, S 7 x g o v gz → sn7 x g o v gz) (hS8 : ∀ x g o v gz, S 8 x g o v gz → sn8 x g o v gz) (hS19 : ∀ x g o v gz, S 19 x g o v gz → sn19 x g o v gz) (hS33 : ∀ x g o v gz, S 33 x g o v gz → sn33 x g o v gz) (hS34 : ∀ x g o v gz, S 34 x g o v gz → sn34 x g o v gz) {a : List Int} {g : rHp} : ∀ (ρ : Nat → Int) (γ : Nat → rHp), zO 16 S a g q40_3 ρ γ → zGl (fun _ _ _ => True) (sn40 a g) q40_3 ρ γ := by
  intro ρ γ h
  obtain ⟨ha, hg, hr, hf, hm, hc, hl⟩ := h
  have ha : a = [ρ 0, ρ 1, ρ 2, ρ 3, ρ 4, ρ 5, ρ 6, ρ 7, ρ 8, ρ 9, ρ 10, ρ 11, ρ 12, ρ 13, ρ 14, ρ 15] := ha
  subst ha
  subst hg
  obtain ⟨-, -, -, -, -, -, -, -, -, -, -, -, -, -, -, -, -, r17, r18, r19, -⟩ := hr
  have r17 : (60 : Int) ≤ ρ 17 ∧ ρ 17 ≤ 60 := r17
  have r18 : ((-128) : Int) ≤ ρ 18 ∧ ρ 18 ≤ 127 := r18
  have r19 : (1 : Int) ≤ ρ 19 ∧ ρ 19 ≤ 1 := r19
  obtain ⟨-, -, f2, -, -, -, -, -, -, -, f10, -⟩ := hf
  have f2 : (0 : Int) ≤ -ρ 16 + ρ 2 + (-1) := f2
  have f10 : (0 : Int) ≤ -ρ 16 + ρ 2 + (-2) := f10
  obtain ⟨w_0, w_1, w_2, w_3⟩ : (0 ≤ -ρ 16 + ρ 2 + (-1)) ∧ (ρ 17 = 60) ∧ (0 ≤ -ρ 16 + ρ 2 + (-2)) ∧ (¬ (ρ 19 ≠ 1)) := ⟨by omega, by omega, by omega, by omega⟩
  obtain ⟨-, m1, -, -, -, -, m6, m7, -, m9, -, -, -, -, -, m15, m16, -⟩ := hm
  have m1 : γ 0 15 0 34 = ρ 2 := m1
  have m6 : γ 0 15 0 44 = ρ 7 := m6
  have m7 : γ 0 73 0 (ρ 7) = ρ 8 := m7
  have m9 : γ 0 81 0 (4 * ρ 8 + 32 * ρ 7) = ρ 10 := m9
  have m15 : γ 2 15 0 35 = ρ 16 := m15
  have m16 : γ 0 80 0 (4 * ρ 8 + 32 * ρ 7) = ρ 19 := m16
  obtain ⟨⟨⟨⟨⟨-, c4⟩, c5⟩, -⟩, -⟩, -⟩ := hc
  have c4 : γ 4 = rUp (γ 3) 15 0 35 (ρ 16 + 1) := c4
  have c5 : γ 5 = rUp (γ 4) 77 0 (ρ 8 + 8 * ρ 7) 2 := c5
  obtain ⟨l0, l1, l2, l3, l4, l5, l6, -⟩ := hl
  have l0 : sn33 [ρ 7, ρ 8] (γ 0) 0 (ρ 8 + 8 * ρ 7) (γ 1) := hS33 _ _ _ _ _ l0
  have l1 : sn7 [ρ 1, ρ 2] (γ 1) 0 0 (γ 2) := hS7 _ _ _ _ _ l1
  have l2 : sn6 [ρ 16, ρ 2] (γ 2) 0 (ρ 17) (γ 3) := hS6 _ _ _ _ _ l2
  have l3 : sn6 [ρ 16 + 1, ρ 2] (γ 5) 0 (ρ 18) (γ 6) := hS6 _ _ _ _ _ l3
  have l4 : ρ 18 ≠ 62 := l4
  have l5 : sn19 [ρ 10, ρ 15] (γ 6) 0 1 (γ 7) := hS19 _ _ _ _ _ l5
  have l6 : sn34 [1, ρ 16 + 1, ρ 2, ρ 3, ρ 4, ρ 7, ρ 8, 2, ρ 10, ρ 11, ρ 12, ρ 13, ρ 14, ρ 15] (γ 7) 0 0 (γ 8) := hS34 _ _ _ _ _ l6
  have wl_0 : ρ 18 ≠ 62 := by omega
  show sn40 [ρ 0, ρ 1, ρ 2, ρ 3, ρ 4, ρ 5, ρ 6, ρ 7, ρ 8, ρ 9, ρ 10, ρ 11, ρ 12, ρ 13, ρ 14, ρ 15] (γ 0) 0 0 (γ 8)
  refine Eq.symm ?_
  show fn40 [ρ 0] (γ 0) = _
  unfold fn40
  refine (zLet_eq (show _ = ρ 0 from rfl)).trans ?_
  refine (zLet_eq m1).trans ?_
  refine (zLet_eq m6).trans ?_
  refine (zLet_eq m7).trans ?_
  refine (zLet_eq m9).trans ?_
  refine (zLet_eq (show fn33 [] (γ 0) = (0, ρ 8 + 8 * ρ 7, γ 1) from l0.symm)).trans ?_
  refine (zLet_eq (show _ = γ 1 from rfl)).trans ?_
  refine (zLet_eq (show fn7 [] (γ 1) = (0, 0, γ 2) from l1.symm)).trans ?_
  refine (zLet_eq (show _ = γ 2 from rfl)).trans ?_
  refine (zLet_eq m15).trans ?_
  refine (zLet_eq (show fn6 [ρ 16] (γ 2) = (0, ρ 17, γ 3) from l2.symm)).trans ?_
  refine (zLet_eq (show _ = γ 3 from rfl)).trans ?_
  refine (if_pos w_0).trans ?_
  refine (zLet_eq (show _ = ρ 17 from rfl)).trans ?_
  refine (if_pos w_1).trans ?_
  refine (zLet_eq c4.symm).trans ?_
  refine (zLet_eq c5.symm).trans ?_
  refine (zLet_eq (show fn6 [ρ 16 + 1] (γ 5) = (0, ρ 18, γ 6) from l3.symm)).trans ?_
  refine (zLet_eq (show _ = γ 6 from rfl)).trans ?_
  refine (if_pos w_2).trans ?_
  refine (zLet_eq (show _ = ρ 18 from rfl)).trans ?_
  refine (if_pos wl_0).trans ?_
  refine (zLet_eq m16).trans ?_
  refine (if_neg w_3).trans ?_
  refine (zLet_eq (show fn19 [ρ 10] (γ 6) = (0, 1, γ 7) from l5.symm)).trans ?_
  refine (zLet_eq (show _ = γ 7 from rfl)).trans ?_
  refine (if_pos zQ1_).trans ?_
  refine (zLet_eq (show fn34 [1] (γ 7) = (0, 0, γ 8) from l6.symm)).trans ?_
  refine (zLet_eq (show _ = γ 8 from rfl)).trans ?_
  refine (if_neg zQ0_).trans ?_
  rfl
theorem vn40_4 {S : Nat → zSpc} (hS6 : ∀ x g o v gz, S 6 x g o v gz → sn6 x g o v gz) (hS7 : ∀ x g o v gz, S 7 x g o v gz → sn7 x g o v gz) (hS8 : ∀ x g o v gz, S 8 x g o v gz → sn8 x g o v gz) (hS19 : ∀ x g o v gz, S 19 x g o v gz → sn19 x g o v gz) (hS33 : ∀ x g o v gz, S 33 x g o v gz → sn33 x g o v gz) (hS34 : ∀ x g o v gz, S 34 x g o v gz → sn34 x g o v gz) {a : List Int} {g : rHp} : ∀ (ρ : Nat → Int) (γ : Nat → rHp), zO 16 S a g q40_4 ρ γ → zGl (fun _ _ _ => True) (sn40 a g) q40_4 ρ γ := by
  intro ρ γ h
  obtain ⟨ha, hg, hr, hf, hm, hc, hl⟩ := h
  have ha : a = [ρ 0, ρ 1, ρ 2, ρ 3, ρ 4, ρ 5, ρ 6, ρ 7, ρ 8, ρ 9, ρ 10, ρ 11, ρ 12, ρ 13, ρ 14, ρ 15] := ha
  subst ha
  subst hg
  obtain ⟨-, -, -, -, -, -, -, -, -, -, -, -, -, -, -, -, -, r17, r18, r19, -⟩ := hr
  have r17 : (60 : Int) ≤ ρ 17 ∧ ρ 17 ≤ 60 := r17
  have r18 : ((-128) : Int) ≤ ρ 18 ∧ ρ 18 ≤ 127 := r18
  have r19 : (1 : Int) ≤ ρ 19 ∧ ρ 19 ≤ 1 := r19
  obtain ⟨-, -, f2, -, -, -, -, f7, -⟩ := hf
  have f2 : (0 : Int) ≤ -ρ 16 + ρ 2 + (-1) := f2
  have f7 : (0 : Int) ≤ -ρ 16 + ρ 2 + (-2) := f7
  obtain ⟨w_0, w_1, w_2, w_3⟩ : (0 ≤ -ρ 16 + ρ 2 + (-1)) ∧ (ρ 17 = 60) ∧ (0 ≤ -ρ 16 + ρ 2 + (-2)) ∧ (¬ (ρ 19 ≠ 1)) := ⟨by omega, by omega, by omega, by omega⟩
  obtain ⟨-, m1, -, -, -, -, m6, m7, -, m9, -, -, -, -, -, m15, m16, -⟩ := hm
  have m1 : γ 0 15 0 34 = ρ 2 := m1
  have m6 : γ 0 15 0 44 = ρ 7 := m6
  have m7 : γ 0 73 0 (ρ 7) = ρ 8 := m7
  have m9 : γ 0 81 0 (4 * ρ 8 + 32 * ρ 7) = ρ 10 := m9
  have m15 : γ 2 15 0 35 = ρ 16 := m15
  have m16 : γ 0 80 0 (4 * ρ 8 + 32 * ρ 7) = ρ 19 := m16
  obtain ⟨⟨⟨⟨⟨-, c4⟩, c5⟩, -⟩, -⟩, -⟩ := hc
  have c4 : γ 4 = rUp (γ 3) 15 0 35 (ρ 16 + 1) := c4
  have c5 : γ 5 = rUp (γ 4) 77 0 (ρ 8 + 8 * ρ 7) 2 := c5
  obtain ⟨l0, l1, l2, l3, l4, l5, l6, -⟩ := hl
  have l0 : sn33 [ρ 7, ρ 8] (γ 0) 0 (ρ 8 + 8 * ρ 7) (γ 1) := hS33 _ _ _ _ _ l0
  have l1 : sn7 [ρ 1, ρ 2] (γ 1) 0 0 (γ 2) := hS7 _ _ _ _ _ l1
  have l2 : sn6 [ρ 16, ρ 2] (γ 2) 0 (ρ 17) (γ 3) := hS6 _ _ _ _ _ l2
  have l3 : sn6 [ρ 16 + 1, ρ 2] (γ 5) 0 (ρ 18) (γ 6) := hS6 _ _ _ _ _ l3
  have l4 : ρ 18 ≠ 62 := l4
  have l5 : sn19 [ρ 10, ρ 15] (γ 6) 0 1 (γ 7) := hS19 _ _ _ _ _ l5
  have l6 : sn34 [1, ρ 16 + 1, ρ 2, ρ 3, ρ 4, ρ 7, ρ 8, 2, ρ 10, ρ 11, ρ 12, ρ 13, ρ 14, ρ 15] (γ 7) 0 1 (γ 8) := hS34 _ _ _ _ _ l6
  have wl_0 : ρ 18 ≠ 62 := by omega
  show sn40 [ρ 0, ρ 1, ρ 2, ρ 3, ρ 4, ρ 5, ρ 6, ρ 7, ρ 8, ρ 9, ρ 10, ρ 11, ρ 12, ρ 13, ρ 14, ρ 15] (γ 0) 0 1 (γ 8)
  refine Eq.symm ?_
  show fn40 [ρ 0] (γ 0) = _
  unfold fn40
  refine (zLet_eq (show _ = ρ 0 from rfl)).trans ?_
  refine (zLet_eq m1).trans ?_
  refine (zLet_eq m6).trans ?_
  refine (zLet_eq m7).trans ?_
  refine (zLet_eq m9).trans ?_
  refine (zLet_eq (show fn33 [] (γ 0) = (0, ρ 8 + 8 * ρ 7, γ 1) from l0.symm)).trans ?_
  refine (zLet_eq (show _ = γ 1 from rfl)).trans ?_
  refine (zLet_eq (show fn7 [] (γ 1) = (0, 0, γ 2) from l1.symm)).trans ?_
  refine (zLet_eq (show _ = γ 2 from rfl)).trans ?_
  refine (zLet_eq m15).trans ?_
  refine (zLet_eq (show fn6 [ρ 16] (γ 2) = (0, ρ 17, γ 3) from l2.symm)).trans ?_
  refine (zLet_eq (show _ = γ 3 from rfl)).trans ?_
  refine (if_pos w_0).trans ?_
  refine (zLet_eq (show _ = ρ 17 from rfl)).trans ?_
  refine (if_pos w_1).trans ?_
  refine (zLet_eq c4.symm).trans ?_
  refine (zLet_eq c5.symm).trans ?_
  refine (zLet_eq (show fn6 [ρ 16 + 1] (γ 5) = (0, ρ 18, γ 6) from l3.symm)).trans ?_
  refine (zLet_eq (show _ = γ 6 from rfl)).trans ?_
  refine (if_pos w_2).trans ?_
  refine (zLet_eq (show _ = ρ 18 from rfl)).trans ?_
  refine (if_pos wl_0).trans ?_
  refine (zLet_eq m16).trans ?_
  refine (if_neg w_3).trans ?_
  refine (zLet_eq (show fn19 [ρ 10] (γ 6) = (0, 1, γ 7) from l5.symm)).trans ?_
  refine (zLet_eq (show _ = γ 7 from rfl)).trans ?_
  refine (if_pos zQ1_).trans ?_
  refine (zLet_eq (show fn34 [1] (γ 7) = (0, 1, γ 8) from l6.symm)).trans ?_
  refine (zLet_eq (show _ = γ 8 from rfl)).trans ?_
  refine (if_pos zQ1_).trans ?_
  rfl
theorem vn40_5 {S : Nat → zSpc} (hS6 : ∀ x g o v gz, S 6 x g o v gz → sn6 x g o v gz) (hS7 : ∀ x g o v gz, S 7 x g o v gz → sn7 x g o v gz) (hS8 : ∀ x g o v gz, S 8 x g o v gz → sn8 x g o v gz) (hS19 : ∀ x g o v gz, S 19 x g o v gz → sn19 x g o v gz) (hS33 : ∀ x g o v gz, S 33 x g o v gz → sn33 x g o v gz) (hS34 : ∀ x g o v gz, S 34 x g o v gz → sn34 x g o v gz) {a : List Int} {g : rHp} : ∀ (ρ : Nat → Int) (γ : Nat → rHp), zO 16 S a g q40_5 ρ γ → zGl (fun _ _ _ => True) (sn40 a g) q40_5 ρ γ := by
  intro ρ γ h
  obtain ⟨ha, hg, hr, hf, hm, hc, hl⟩ := h
  have ha : a = [ρ 0, ρ 1, ρ 2, ρ 3, ρ 4, ρ 5, ρ 6, ρ 7, ρ 8, ρ 9, ρ 10, ρ 11, ρ 12, ρ 13, ρ 14, ρ 15] := ha
  subst ha
  subst hg
  obtain ⟨-, -, -, -, -, -, -, -, -, -, -, -, -, -, -, -, -, r17, r18, r19, -⟩ := hr
  have r17 : (60 : Int) ≤ ρ 17 ∧ ρ 17 ≤ 60 := r17
  have r18 : (62 : Int) ≤ ρ 18 ∧ ρ 18 ≤ 62 := r18
  have r19 : (0 : Int) ≤ ρ 19 ∧ ρ 19 ≤ 3 := r19
  obtain ⟨-, -, f2, -⟩ := hf
  have f2 : (0 : Int) ≤ -ρ 16 + ρ 2 + (-2) := f2
  obtain ⟨w_0, w_1, w_2, w_3⟩ : (0 ≤ -ρ 16 + ρ 2 + (-1)) ∧ (ρ 17 = 60) ∧ (0 ≤ -ρ 16 + ρ 2 + (-2)) ∧ (¬ (ρ 18 ≠ 62)) := ⟨by omega, by omega, by omega, by omega⟩
  obtain ⟨-, m1, -, -, -, -, m6, m7, -, m9, -, -, -, -, -, m15, m16, -⟩ := hm
  have m1 : γ 0 15 0 34 = ρ 2 := m1
  have m6 : γ 0 15 0 44 = ρ 7 := m6
  have m7 : γ 0 73 0 (ρ 7) = ρ 8 := m7
  have m9 : γ 0 81 0 (4 * ρ 8 + 32 * ρ 7) = ρ 10 := m9
  have m15 : γ 2 15 0 35 = ρ 16 := m15
  have m16 : γ 0 80 0 (4 * ρ 8 + 32 * ρ 7) = ρ 19 := m16
  obtain ⟨⟨⟨⟨⟨⟨-, c4⟩, c5⟩, -⟩, c7⟩, c8⟩, -⟩ := hc
  have c4 : γ 4 = rUp (γ 3) 15 0 35 (ρ 16 + 1) := c4
  have c5 : γ 5 = rUp (γ 4) 77 0 (ρ 8 + 8 * ρ 7) 2 := c5
  have c7 : γ 7 = rUp (γ 6) 15 0 35 (ρ 16 + 2) := c7
  have c8 : γ 8 = rUp (γ 7) 77 0 (ρ 8 + 8 * ρ 7) 4 := c8
  obtain ⟨l0, l1, l2, l3, l4, l5, -⟩ := hl
  have l0 : sn33 [ρ 7, ρ 8] (γ 0) 0 (ρ 8 + 8 * ρ 7) (γ 1) := hS33 _ _ _ _ _ l0
  have l1 : sn7 [ρ 1, ρ 2] (γ 1) 0 0 (γ 2) := hS7 _ _ _ _ _ l1
  have l2 : sn6 [ρ 16, ρ 2] (γ 2) 0 (ρ 17) (γ 3) := hS6 _ _ _ _ _ l2
  have l3 : sn6 [ρ 16 + 1, ρ 2] (γ 5) 0 (ρ 18) (γ 6) := hS6 _ _ _ _ _ l3
  have l4 : ρ 19 ≠ 1 := l4
  have l5 : sn34 [1, ρ 16 + 2, ρ 2, ρ 3, ρ 4, ρ 7, ρ 8, 4, ρ 10, ρ 11, ρ 12, ρ 13, ρ 14, ρ 15] (γ 8) 0 0 (γ 9) := hS34 _ _ _ _ _ l5
  have wl_0 : ρ 19 ≠ 1 := by omega
  show sn40 [ρ 0, ρ 1, ρ 2, ρ 3, ρ 4, ρ 5, ρ 6, ρ 7, ρ 8, ρ 9, ρ 10, ρ 11, ρ 12, ρ 13, ρ 14, ρ 15] (γ 0) 0 0 (γ 9)
  refine Eq.symm ?_
  show fn40 [ρ 0] (γ 0) = _
  unfold fn40
  refine (zLet_eq (show _ = ρ 0 from rfl)).trans ?_
  refine (zLet_eq m1).trans ?_
  refine (zLet_eq m6).trans ?_
  refine (zLet_eq m7).trans ?_
  refine (zLet_eq m9).trans ?_
  refine (zLet_eq (show fn33 [] (γ 0) = (0, ρ 8 + 8 * ρ 7, γ 1) from l0.symm)).trans ?_
  refine (zLet_eq (show _ = γ 1 from rfl)).trans ?_
  refine (zLet_eq (show fn7 [] (γ 1) = (0, 0, γ 2) from l1.symm)).trans ?_
  refine (zLet_eq (show _ = γ 2 from rfl)).trans ?_
  refine (zLet_eq m15).trans ?_
  refine (zLet_eq (show fn6 [ρ 16] (γ 2) = (0, ρ 17, γ 3) from l2.symm)).trans ?_
  refine (zLet_eq (show _ = γ 3 from rfl)).trans ?_
  refine (if_pos w_0).trans ?_
  refine (zLet_eq (show _ = ρ 17 from rfl)).trans ?_
  refine (if_pos w_1).trans ?_
  refine (zLet_eq c4.symm).trans ?_
  refine (zLet_eq c5.symm).trans ?_
  refine (zLet_eq (show fn6 [ρ 16 + 1] (γ 5) = (0, ρ 18, γ 6) from l3.symm)).trans ?_
  refine (zLet_eq (show _ = γ 6 from rfl)).trans ?_
  refine (if_pos w_2).trans ?_
  refine (zLet_eq (show _ = ρ 18 from rfl)).trans ?_
  refine (if_neg w_3).trans ?_
  refine (zLet_eq c7.symm).trans ?_
  refine (zLet_eq c8.symm).trans ?_
  refine (zLet_eq m16).trans ?_
  refine (if_pos wl_0).trans ?_
  refine (zLet_eq (show fn34 [1] (γ 8) = (0, 0, γ 9) from l5.symm)).trans ?_
  refine (zLet_eq (show _ = γ 9 from rfl)).trans ?_
  refine (if_neg zQ0_).trans ?_
  rfl
theorem vn40_6 {S : Nat → zSpc} (hS6 : ∀ x g o v gz, S 6 x g o v gz → sn6 x g o v gz) (hS7 : ∀ x g o v gz, S 7 x g o v gz → sn7 x g o v gz) (hS8 : ∀ x g o v gz, S 8 x g o v gz → sn8 x g o v gz) (hS19 : ∀ x g o v gz, S 19 x g o v gz → sn19 x g o v gz) (hS33 : ∀ x g o v gz, S 33 x g o v gz → sn33 x g o v gz) (hS34 : ∀ x g o v gz, S 34 x g o v gz → sn34 x g o v gz) {a : List Int} {g : rHp} : ∀ (ρ : Nat → Int) (γ : Nat → rHp), zO 16 S a g q40_6 ρ γ → zGl (fun _ _ _ => True) (sn40 a g) q40_6 ρ γ := by
  intro ρ γ h
  obtain ⟨ha, hg, hr, hf, hm, hc, hl⟩ := h
  have ha : a = [ρ 0, ρ 1, ρ 2, ρ 3, ρ 4, ρ 5, ρ 6, ρ 7, ρ 8, ρ 9, ρ 10, ρ 11, ρ 12, ρ 13, ρ 14, ρ 15] := ha
  subst ha
  subst hg
  obtain ⟨-, -, -, -, -, -, -, -, -, -, -, -, -, -, -, -, -, r17, r18, r19, -⟩ := hr
  have r17 : (60 : Int) ≤ ρ 17 ∧ ρ 17 ≤ 60 := r17
  have r18 : (62 : Int) ≤ ρ 18 ∧ ρ 18 ≤ 62 := r18
  have r19 : (0 : Int) ≤ ρ 19 ∧ ρ 19 ≤ 3 := r19
  obtain ⟨-, -, f2, -⟩ := hf
  have f2 : (0 : Int) ≤ -ρ 16 + ρ 2 + (-2) := f2
  obtain ⟨w_0, w_1, w_2, w_3⟩ : (0 ≤ -ρ 16 + ρ 2 + (-1)) ∧ (ρ 17 = 60) ∧ (0 ≤ -ρ 16 + ρ 2 + (-2)) ∧ (¬ (ρ 18 ≠ 62)) := ⟨by omega, by omega, by omega, by omega⟩
  obtain ⟨-, m1, -, -, -, -, m6, m7, -, m9, -, -, -, -, -, m15, m16, -⟩ := hm
  have m1 : γ 0 15 0 34 = ρ 2 := m1
  have m6 : γ 0 15 0 44 = ρ 7 := m6
  have m7 : γ 0 73 0 (ρ 7) = ρ 8 := m7
  have m9 : γ 0 81 0 (4 * ρ 8 + 32 * ρ 7) = ρ 10 := m9
  have m15 : γ 2 15 0 35 = ρ 16 := m15
  have m16 : γ 0 80 0 (4 * ρ 8 + 32 * ρ 7) = ρ 19 := m16
  obtain ⟨⟨⟨⟨⟨⟨-, c4⟩, c5⟩, -⟩, c7⟩, c8⟩, -⟩ := hc
  have c4 : γ 4 = rUp (γ 3) 15 0 35 (ρ 16 + 1) := c4
  have c5 : γ 5 = rUp (γ 4) 77 0 (ρ 8 + 8 * ρ 7) 2 := c5
  have c7 : γ 7 = rUp (γ 6) 15 0 35 (ρ 16 + 2) := c7
  have c8 : γ 8 = rUp (γ 7) 77 0 (ρ 8 + 8 * ρ 7) 4 := c8
  obtain ⟨l0, l1, l2, l3, l4, l5, -⟩ := hl
  have l0 : sn33 [ρ 7, ρ 8] (γ 0) 0 (ρ 8 + 8 * ρ 7) (γ 1) := hS33 _ _ _ _ _ l0
  have l1 : sn7 [ρ 1, ρ 2] (γ 1) 0 0 (γ 2) := hS7 _ _ _ _ _ l1
  have l2 : sn6 [ρ 16, ρ 2] (γ 2) 0 (ρ 17) (γ 3) := hS6 _ _ _ _ _ l2
  have l3 : sn6 [ρ 16 + 1, ρ 2] (γ 5) 0 (ρ 18) (γ 6) := hS6 _ _ _ _ _ l3
  have l4 : ρ 19 ≠ 1 := l4
  have l5 : sn34 [1, ρ 16 + 2, ρ 2, ρ 3, ρ 4, ρ 7, ρ 8, 4, ρ 10, ρ 11, ρ 12, ρ 13, ρ 14, ρ 15] (γ 8) 0 1 (γ 9) := hS34 _ _ _ _ _ l5
  have wl_0 : ρ 19 ≠ 1 := by omega
  show sn40 [ρ 0, ρ 1, ρ 2, ρ 3, ρ 4, ρ 5, ρ 6, ρ 7, ρ 8, ρ 9, ρ 10, ρ 11, ρ 12, ρ 13, ρ 14, ρ 15] (γ 0) 0 1 (γ 9)
  refine Eq.symm ?_
  show fn40 [ρ 0] (γ 0) = _
  unfold fn40
  refine (zLet_eq (show _ = ρ 0 from rfl)).trans ?_
  refine (zLet_eq m1).trans ?_
  refine (zLet_eq m6).trans ?_
  refine (zLet_eq m7).trans ?_
  refine (zLet_eq m9).trans ?_
  refine (zLet_eq (show fn33 [] (γ 0) = (0, ρ 8 + 8 * ρ 7, γ 1) from l0.symm)).trans ?_
  refine (zLet_eq (show _ = γ 1 from rfl)).trans ?_
  refine (zLet_eq (show fn7 [] (γ 1) = (0, 0, γ 2) from l1.symm)).trans ?_
  refine (zLet_eq (show _ = γ 2 from rfl)).trans ?_
  refine (zLet_eq m15).trans ?_
  refine (zLet_eq (show fn6 [ρ 16] (γ 2) = (0, ρ 17, γ 3) from l2.symm)).trans ?_
  refine (zLet_eq (show _ = γ 3 from rfl)).trans ?_
  refine (if_pos w_0).trans ?_
  refine (zLet_eq (show _ = ρ 17 from rfl)).trans ?_
  refine (if_pos w_1).trans ?_
  refine (zLet_eq c4.symm).trans ?_
  refine (zLet_eq c5.symm).trans ?_
  refine (zLet_eq (show fn6 [ρ 16 + 1] (γ 5) = (0, ρ 18, γ 6) from l3.symm)).trans ?_
  refine (zLet_eq (show _ = γ 6 from rfl)).trans ?_
  refine (if_pos w_2).trans ?_
  refine (zLet_eq (show _ = ρ 18 from rfl)).trans ?_
  refine (if_neg w_3).trans ?_
  refine (zLet_eq c7.symm).trans ?_
  refine (zLet_eq c8.symm).trans ?_
  refine (zLet_eq m16).trans ?_
  refine (if_pos wl_0).trans ?_
  refine (zLet_eq (show fn34 [1] (γ 8) = (0, 1, γ 9) from l5.symm)).trans ?_
  refine (zLet_eq (show _ = γ 9 from rfl)).trans ?_
  refine (if_pos zQ1_).trans ?_
  rfl
theorem vn40_7 {S : Nat → zSpc} (hS6 : ∀ x g o v gz, S 6 x g o v gz → sn6 x g o v gz) (hS7 : ∀ x g o v gz, S 7 x g o v gz → sn7 x g o v gz) (hS8 : ∀ x g o v gz, S 8 x g o v gz → sn8 x g o v gz) (hS19 : ∀ x g o v gz, S 19 x g o v gz → sn19 x g o v gz) (hS33 : ∀ x g o v gz, S 33 x g o v gz → sn33 x g o v gz) (hS34 : ∀ x g o v gz, S 34 x g o v gz → sn34 x g o v gz) {a : List Int} {g : rHp} : ∀ (ρ : Nat → Int) (γ : Nat → rHp), zO 16 S a g q40_7 ρ γ → zGl (fun _ _ _ => True) (sn40 a g) q40_7 ρ γ := by
  intro ρ γ h
  obtain ⟨ha, hg, hr, hf, hm, hc, hl⟩ := h
  have ha : a = [ρ 0, ρ 1, ρ 2, ρ 3, ρ 4, ρ 5, ρ 6, ρ 7, ρ 8, ρ 9, ρ 10, ρ 11, ρ 12, ρ 13, ρ 14, ρ 15] := ha
  subst ha
  subst hg
  obtain ⟨-, -, -, -, -, -, -, -, -, -, -, -, -, -, -, -, -, r17, r18, r19, -⟩ := hr
  have r17 : (60 : Int) ≤ ρ 17 ∧ ρ 17 ≤ 60 := r17
  have r18 : (62 : Int) ≤ ρ 18 ∧ ρ 18 ≤ 62 := r18
  have r19 : (1 : Int) ≤ ρ 19 ∧ ρ 19 ≤ 1 := r19
  obtain ⟨-, -, f2, -⟩ := hf
  have f2 : (0 : Int) ≤ -ρ 16 + ρ 2 + (-2) := f2
  obtain ⟨w_0, w_1, w_2, w_3, w_4⟩ : (0 ≤ -ρ 16 + ρ 2 + (-1)) ∧ (ρ 17 = 60) ∧ (0 ≤ -ρ 16 + ρ 2 + (-2)) ∧ (¬ (ρ 18 ≠ 62)) ∧ (¬ (ρ 19 ≠ 1)) := ⟨by omega, by omega, by omega, by omega, by omega⟩
  obtain ⟨-, m1, -, -, -, -, m6, m7, -, m9, -, -, -, -, -, m15, m16, -⟩ := hm
  have m1 : γ 0 15 0 34 = ρ 2 := m1
  have m6 : γ 0 15 0 44 = ρ 7 := m6
  have m7 : γ 0 73 0 (ρ 7) = ρ 8 := m7
  have m9 : γ 0 81 0 (4 * ρ 8 + 32 * ρ 7) = ρ 10 := m9
  have m15 : γ 2 15 0 35 = ρ 16 := m15
  have m16 : γ 0 80 0 (4 * ρ 8 + 32 * ρ 7) = ρ 19 := m16
  obtain ⟨⟨⟨⟨⟨⟨⟨-, c4⟩, c5⟩, -⟩, c7⟩, c8⟩, -⟩, -⟩ := hc
  have c4 : γ 4 = rUp (γ 3) 15 0 35 (ρ 16 + 1) := c4
  have c5 : γ 5 = rUp (γ 4) 77 0 (ρ 8 + 8 * ρ 7) 2 := c5
  have c7 : γ 7 = rUp (γ 6) 15 0 35 (ρ 16 + 2) := c7
  have c8 : γ 8 = rUp (γ 7) 77 0 (ρ 8 + 8 * ρ 7) 4 := c8
  obtain ⟨l0, l1, l2, l3, l4, l5, -⟩ := hl
  have l0 : sn33 [ρ 7, ρ 8] (γ 0) 0 (ρ 8 + 8 * ρ 7) (γ 1) := hS33 _ _ _ _ _ l0
  have l1 : sn7 [ρ 1, ρ 2] (γ 1) 0 0 (γ 2) := hS7 _ _ _ _ _ l1
  have l2 : sn6 [ρ 16, ρ 2] (γ 2) 0 (ρ 17) (γ 3) := hS6 _ _ _ _ _ l2
  have l3 : sn6 [ρ 16 + 1, ρ 2] (γ 5) 0 (ρ 18) (γ 6) := hS6 _ _ _ _ _ l3
  have l4 : sn19 [ρ 10, ρ 15] (γ 8) 0 0 (γ 9) := hS19 _ _ _ _ _ l4
  have l5 : sn8 [ρ 0, ρ 2, ρ 11] (γ 9) 0 0 (γ 10) := hS8 _ _ _ _ _ l5
  show sn40 [ρ 0, ρ 1, ρ 2, ρ 3, ρ 4, ρ 5, ρ 6, ρ 7, ρ 8, ρ 9, ρ 10, ρ 11, ρ 12, ρ 13, ρ 14, ρ 15] (γ 0) 0 0 (γ 10)
  refine Eq.symm ?_
  show fn40 [ρ 0] (γ 0) = _
  unfold fn40
  refine (zLet_eq (show _ = ρ 0 from rfl)).trans ?_
  refine (zLet_eq m1).trans ?_
  refine (zLet_eq m6).trans ?_
  refine (zLet_eq m7).trans ?_
  refine (zLet_eq m9).trans ?_
  refine (zLet_eq (show fn33 [] (γ 0) = (0, ρ 8 + 8 * ρ 7, γ 1) from l0.symm)).trans ?_
  refine (zLet_eq (show _ = γ 1 from rfl)).trans ?_
  refine (zLet_eq (show fn7 [] (γ 1) = (0, 0, γ 2) from l1.symm)).trans ?_
  refine (zLet_eq (show _ = γ 2 from rfl)).trans ?_
  refine (zLet_eq m15).trans ?_
  refine (zLet_eq (show fn6 [ρ 16] (γ 2) = (0, ρ 17, γ 3) from l2.symm)).trans ?_
  refine (zLet_eq (show _ = γ 3 from rfl)).trans ?_
  refine (if_pos w_0).trans ?_
  refine (zLet_eq (show _ = ρ 17 from rfl)).trans ?_
  refine (if_pos w_1).trans ?_
  refine (zLet_eq c4.symm).trans ?_
  refine (zLet_eq c5.symm).trans ?_
  refine (zLet_eq (show fn6 [ρ 16 + 1] (γ 5) = (0, ρ 18, γ 6) from l3.symm)).trans ?_
  refine (zLet_eq (show _ = γ 6 from rfl)).trans ?_
  refine (if_pos w_2).trans ?_
  refine (zLet_eq (show _ = ρ 18 from rfl)).trans ?_
  refine (if_neg w_3).trans ?_
  refine (zLet_eq c7.symm).trans ?_
  refine (zLet_eq c8.symm).trans ?_
  refine (zLet_eq m16).trans ?_
  refine (if_neg w_4).trans ?_
  refine (zLet_eq (show fn19 [ρ 10] (γ 8) = (0, 0, γ 9) from l4.symm)).trans ?_
  refine (zLet_eq (show _ = γ 9 from rfl)).trans ?_
  refine (if_neg zQ0_).trans ?_
  refine (zLet_eq (show fn8 [ρ 0] (γ 9) = (0, 0, γ 10) from l5.symm)).trans ?_
  refine (zLet_eq (show _ = γ 10 from rfl)).trans ?_
  rfl
theorem vn40_8 {S : Nat → zSpc} (hS6 : ∀ x g o v gz, S 6 x g o v gz → sn6 x g o v gz) (hS7 : ∀ x g o v gz, S 7 x g o v gz → sn7 x g o v gz) (hS8 : ∀ x g o v gz, S 8 x g o v gz → sn8 x g o v gz) (hS19 : ∀ x g o v gz, S 19 x g o v gz → sn19 x g o v gz) (hS33 : ∀ x g o v gz, S 33 x g o v gz → sn33 x g o v gz) (hS34 : ∀ x g o v gz, S 34 x g o v gz → sn34 x g o v gz) {a : List Int} {g : rHp} : ∀ (ρ : Nat → Int) (γ : Nat → rHp), zO 16 S a g q40_8 ρ γ → zGl (fun _ _ _ => True) (sn40 a g) q40_8 ρ γ := by
  intro ρ γ h
  obtain ⟨ha, hg, hr, hf, hm, hc, hl⟩ := h
  have ha : a = [ρ 0, ρ 1, ρ 2, ρ 3, ρ 4, ρ 5, ρ 6, ρ 7, ρ 8, ρ 9, ρ 10, ρ 11, ρ 12, ρ 13, ρ 14, ρ 15] := ha
  subst ha
  subst hg
  obtain ⟨-, -, -, -, -, -, -, -, -, -, -, -, -, -, -, -, -, r17, r18, r19, -⟩ := hr
  have r17 : (60 : Int) ≤ ρ 17 ∧ ρ 17 ≤ 60 := r17
  have r18 : (62 : Int) ≤ ρ 18 ∧ ρ 18 ≤ 62 := r18
  have r19 : (1 : Int) ≤ ρ 19 ∧ ρ 19 ≤ 1 := r19
  obtain ⟨-, -, f2, -⟩ := hf
  have f2 : (0 : Int) ≤ -ρ 16 + ρ 2 + (-2) := f2
  obtain ⟨w_0, w_1, w_2, w_3, w_4⟩ : (0 ≤ -ρ 16 + ρ 2 + (-1)) ∧ (ρ 17 = 60) ∧ (0 ≤ -ρ 16 + ρ 2 + (-2)) ∧ (¬ (ρ 18 ≠ 62)) ∧ (¬ (ρ 19 ≠ 1)) := ⟨by omega, by omega, by omega, by omega, by omega⟩
  obtain ⟨-, m1, -, -, -, -, m6, m7, -, m9, -, -, -, -, -, m15, m16, -⟩ := hm
  have m1 : γ 0 15 0 34 = ρ 2 := m1
  have m6 : γ 0 15 0 44 = ρ 7 := m6
  have m7 : γ 0 73 0 (ρ 7) = ρ 8 := m7
  have m9 : γ 0 81 0 (4 * ρ 8 + 32 * ρ 7) = ρ 10 := m9
  have m15 : γ 2 15 0 35 = ρ 16 := m15
  have m16 : γ 0 80 0 (4 * ρ 8 + 32 * ρ 7) = ρ 19 := m16
  obtain ⟨⟨⟨⟨⟨⟨⟨-, c4⟩, c5⟩, -⟩, c7⟩, c8⟩, -⟩, -⟩ := hc
  have c4 : γ 4 = rUp (γ 3) 15 0 35 (ρ 16 + 1) := c4
  have c5 : γ 5 = rUp (γ 4) 77 0 (ρ 8 + 8 * ρ 7) 2 := c5
  have c7 : γ 7 = rUp (γ 6) 15 0 35 (ρ 16 + 2) := c7
  have c8 : γ 8 = rUp (γ 7) 77 0 (ρ 8 + 8 * ρ 7) 4 := c8
  obtain ⟨l0, l1, l2, l3, l4, l5, -⟩ := hl
  have l0 : sn33 [ρ 7, ρ 8] (γ 0) 0 (ρ 8 + 8 * ρ 7) (γ 1) := hS33 _ _ _ _ _ l0
  have l1 : sn7 [ρ 1, ρ 2] (γ 1) 0 0 (γ 2) := hS7 _ _ _ _ _ l1
  have l2 : sn6 [ρ 16, ρ 2] (γ 2) 0 (ρ 17) (γ 3) := hS6 _ _ _ _ _ l2
  have l3 : sn6 [ρ 16 + 1, ρ 2] (γ 5) 0 (ρ 18) (γ 6) := hS6 _ _ _ _ _ l3
  have l4 : sn19 [ρ 10, ρ 15] (γ 8) 0 1 (γ 9) := hS19 _ _ _ _ _ l4
  have l5 : sn34 [1, ρ 16 + 2, ρ 2, ρ 3, ρ 4, ρ 7, ρ 8, 4, ρ 10, ρ 11, ρ 12, ρ 13, ρ 14, ρ 15] (γ 9) 0 0 (γ 10) := hS34 _ _ _ _ _ l5
  show sn40 [ρ 0, ρ 1, ρ 2, ρ 3, ρ 4, ρ 5, ρ 6, ρ 7, ρ 8, ρ 9, ρ 10, ρ 11, ρ 12, ρ 13, ρ 14, ρ 15] (γ 0) 0 0 (γ 10)
  refine Eq.symm ?_
  show fn40 [ρ 0] (γ 0) = _
  unfold fn40
  refine (zLet_eq (show _ = ρ 0 from rfl)).trans ?_
  refine (zLet_eq m1).trans ?_
  refine (zLet_eq m6).trans ?_
  refine (zLet_eq m7).trans ?_
  refine (zLet_eq m9).trans ?_
  refine (zLet_eq (show fn33 [] (γ 0) = (0, ρ 8 + 8 * ρ 7, γ 1) from l0.symm)).trans ?_
  refine (zLet_eq (show _ = γ 1 from rfl)).trans ?_
  refine (zLet_eq (show fn7 [] (γ 1) = (0, 0, γ 2) from l1.symm)).trans ?_
  refine (zLet_eq (show _ = γ 2 from rfl)).trans ?_
  refine (zLet_eq m15).trans ?_
  refine (zLet_eq (show fn6 [ρ 16] (γ 2) = (0, ρ 17, γ 3) from l2.symm)).trans ?_
  refine (zLet_eq (show _ = γ 3 from rfl)).trans ?_
  refine (if_pos w_0).trans ?_
  refine (zLet_eq (show _ = ρ 17 from rfl)).trans ?_
  refine (if_pos w_1).trans ?_
  refine (zLet_eq c4.symm).trans ?_
  refine (zLet_eq c5.symm).trans ?_
  refine (zLet_eq (show fn6 [ρ 16 + 1] (γ 5) = (0, ρ 18, γ 6) from l3.symm)).trans ?_
  refine (zLet_eq (show _ = γ 6 from rfl)).trans ?_
  refine (if_pos w_2).trans ?_
  refine (zLet_eq (show _ = ρ 18 from rfl)).trans ?_
  refine (if_neg w_3).trans ?_
  refine (zLet_eq c7.symm).trans ?_
  refine (zLet_eq c8.symm).trans ?_
  refine (zLet_eq m16).trans ?_
  refine (if_neg w_4).trans ?_
  refine (zLet_eq (show fn19 [ρ 10] (γ 8) = (0, 1, γ 9) from l4.symm)).trans ?_
  refine (zLet_eq (show _ = γ 9 from rfl)).trans ?_
  refine (if_pos zQ1_).trans ?_
  refine (zLet_eq (show fn34 [1] (γ 9) = (0, 0, γ 10) from l5.symm)).trans ?_
  refine (zLet_eq (show _ = γ 10 from rfl)).trans ?_
  refine (if_neg zQ0_).trans ?_
  rfl
theorem vn40_9 {S : Nat → zSpc} (hS6 : ∀ x g o v gz, S 6 x g o v gz → sn6 x g o v gz) (hS7 : ∀ x g o v gz, S 7 x g o v gz → sn7 x g o v gz) (hS8 : ∀ x g o v gz, S 8 x g o v gz → sn8 x g o v gz) (hS19 : ∀ x g o v gz, S 19 x g o v gz → sn19 x g o v gz) (hS33 : ∀ x g o v gz, S 33 x g o v gz → sn33 x g o v gz) (hS34 : ∀ x g o v gz, S 34 x g o v gz → sn34 x g o v gz) {a : List Int} {g : rHp} : ∀ (ρ : Nat → Int) (γ : Nat → rHp), zO 16 S a g q40_9 ρ γ → zGl (fun _ _ _ => True) (sn40 a g) q40_9 ρ γ := by
  intro ρ γ h
  obtain ⟨ha, hg, hr, hf, hm, hc, hl⟩ := h
  have ha : a = [ρ 0, ρ 1, ρ 2, ρ 3, ρ 4, ρ 5, ρ 6, ρ 7, ρ 8, ρ 9, ρ 10, ρ 11, ρ 12, ρ 13, ρ 14, ρ 15] := ha
  subst ha
  subst hg
  obtain ⟨-, -, -, -, -, -, -, -, -, -, -, -, -, -, -, -, -, r17, r18, r19, -⟩ := hr
  have r17 : (60 : Int) ≤ ρ 17 ∧ ρ 17 ≤ 60 := r17
  have r18 : (62 : Int) ≤ ρ 18 ∧ ρ 18 ≤ 62 := r18
  have r19 : (1 : Int) ≤ ρ 19 ∧ ρ 19 ≤ 1 := r19
  obtain ⟨-, -, f2, -⟩ := hf
  have f2 : (0 : Int) ≤ -ρ 16 + ρ 2 + (-2) := f2
  obtain ⟨w_0, w_1, w_2, w_3, w_4⟩ : (0 ≤ -ρ 16 + ρ 2 + (-1)) ∧ (ρ 17 = 60) ∧ (0 ≤ -ρ 16 + ρ 2 + (-2)) ∧ (¬ (ρ 18 ≠ 62)) ∧ (¬ (ρ 19 ≠ 1)) := ⟨by omega, by omega, by omega, by omega, by omega⟩
  obtain ⟨-, m1, -, -, -, -, m6, m7, -, m9, -, -, -, -, -, m15, m16, -⟩ := hm
  have m1 : γ 0 15 0 34 = ρ 2 := m1
  have m6 : γ 0 15 0 44 = ρ 7 := m6
  have m7 : γ 0 73 0 (ρ 7) = ρ 8 := m7
  have m9 : γ 0 81 0 (4 * ρ 8 + 32 * ρ 7) = ρ 10 := m9
  have m15 : γ 2 15 0 35 = ρ 16 := m15
  have m16 : γ 0 80 0 (4 * ρ 8 + 32 * ρ 7) = ρ 19 := m16
  obtain ⟨⟨⟨⟨⟨⟨⟨-, c4⟩, c5⟩, -⟩, c7⟩, c8⟩, -⟩, -⟩ := hc
  have c4 : γ 4 = rUp (γ 3) 15 0 35 (ρ 16 + 1) := c4
  have c5 : γ 5 = rUp (γ 4) 77 0 (ρ 8 + 8 * ρ 7) 2 := c5
  have c7 : γ 7 = rUp (γ 6) 15 0 35 (ρ 16 + 2) := c7
  have c8 : γ 8 = rUp (γ 7) 77 0 (ρ 8 + 8 * ρ 7) 4 := c8
  obtain ⟨l0, l1, l2, l3, l4, l5, -⟩ := hl
  have l0 : sn33 [ρ 7, ρ 8] (γ 0) 0 (ρ 8 + 8 * ρ 7) (γ 1) := hS33 _ _ _ _ _ l0
  have l1 : sn7 [ρ 1, ρ 2] (γ 1) 0 0 (γ 2) := hS7 _ _ _ _ _ l1
  have l2 : sn6 [ρ 16, ρ 2] (γ 2) 0 (ρ 17) (γ 3) := hS6 _ _ _ _ _ l2
  have l3 : sn6 [ρ 16 + 1, ρ 2] (γ 5) 0 (ρ 18) (γ 6) := hS6 _ _ _ _ _ l3
  have l4 : sn19 [ρ 10, ρ 15] (γ 8) 0 1 (γ 9) := hS19 _ _ _ _ _ l4
  have l5 : sn34 [1, ρ 16 + 2, ρ 2, ρ 3, ρ 4, ρ 7, ρ 8, 4, ρ 10, ρ 11, ρ 12, ρ 13, ρ 14, ρ 15] (γ 9) 0 1 (γ 10) := hS34 _ _ _ _ _ l5
  show sn40 [ρ 0, ρ 1, ρ 2, ρ 3, ρ 4, ρ 5, ρ 6, ρ 7, ρ 8, ρ 9, ρ 10, ρ 11, ρ 12, ρ 13, ρ 14, ρ 15] (γ 0) 0 1 (γ 10)
  refine Eq.symm ?_
  show fn40 [ρ 0] (γ 0) = _
  unfold fn40
  refine (zLet_eq (show _ = ρ 0 from rfl)).trans ?_
  refine (zLet_eq m1).trans ?_
  refine (zLet_eq m6).trans ?_
  refine (zLet_eq m7).trans ?_
  refine (zLet_eq m9).trans ?_
  refine (zLet_eq (show fn33 [] (γ 0) = (0, ρ 8 + 8 * ρ 7, γ 1) from l0.symm)).trans ?_
  refine (zLet_eq (show _ = γ 1 from rfl)).trans ?_
  refine (zLet_eq (show fn7 [] (γ 1) = (0, 0, γ 2) from l1.symm)).trans ?_
  refine (zLet_eq (show _ = γ 2 from rfl)).trans ?_
  refine (zLet_eq m15).trans ?_
  refine (zLet_eq (show fn6 [ρ 16] (γ 2) = (0, ρ 17, γ 3) from l2.symm)).trans ?_
  refine (zLet_eq (show _ = γ 3 from rfl)).trans ?_
  refine (if_pos w_0).trans ?_
  refine (zLet_eq (show _ = ρ 17 from rfl)).trans ?_
  refine (if_pos w_1).trans ?_
  refine (zLet_eq c4.symm).trans ?_
  refine (zLet_eq c5.symm).trans ?_
  refine (zLet_eq (show fn6 [ρ 16 + 1] (γ 5) = (0, ρ 18, γ 6) from l3.symm)).trans ?_
  refine (zLet_eq (show _ = γ 6 from rfl)).trans ?_
  refine (if_pos w_2).trans ?_
  refine (zLet_eq (show _ = ρ 18 from rfl)).trans ?_
  refine (if_neg w_3).trans ?_
  refine (zLet_eq c7.symm).trans ?_
  refine (zLet_eq c8.symm).trans ?_
  refine (zLet_eq m16).trans ?_
  refine (if_neg w_4).trans ?_
  refine (zLet_eq (show fn19 [ρ 10] (γ 8) = (0, 1, γ 9) from l4.symm)).trans ?_
  refine (zLet_eq (show _ = γ 9 from rfl)).trans ?_
  refine (if_pos zQ1_).trans ?_
  refine (zLet_eq (show fn34 [1] (γ 9) = (0, 1, γ 10) from l5.symm)).trans ?_
  refine (zLet_eq (show _ = γ 10 from rfl)).trans ?_
  refine (if_pos zQ1_).trans ?_
  rfl
theorem vn40_10 {S : Nat → zSpc} (hS6 : ∀ x g o v gz, S 6 x g o v gz → sn6 x g o v gz) (hS7 : ∀ x g o v gz, S 7 x g o v gz → sn7 x g o v gz) (hS8 : ∀ x g o v gz, S 8 x g o v gz → sn8 x g o v gz) (hS19 : ∀ x g o v gz, S 19 x g o v gz → sn19 x g o v gz) (hS33 : ∀ x g o v gz, S 33 x g o v gz → sn33 x g o v gz) (hS34 : ∀ x g o v gz, S 34 x g o v gz → sn34 x g o v gz) {a : List Int} {g : rHp} : ∀ (ρ : Nat → Int) (γ : Nat → rHp), zO 16 S a g q40_10 ρ γ → zGl (fun _ _ _ => True) (sn40 a g) q40_10 ρ γ := by
  intro ρ γ h
  obtain ⟨ha, hg, hr, hf, hm, hc, hl⟩ := h
  have ha : a = [ρ 0, ρ 1, ρ 2, ρ 3, ρ 4, ρ 5, ρ 6, ρ 7, ρ 8, ρ 9, ρ 10, ρ 11, ρ 12, ρ 13, ρ 14, ρ 15] := ha
  subst ha
  subst hg
  obtain ⟨-, -, -, -, -, -, -, -, -, -, -, -, -, -, -, -, -, r17, r18, -⟩ := hr
  have r17 : (60 : Int) ≤ ρ 17 ∧ ρ 17 ≤ 60 := r17
  have r18 : (0 : Int) ≤ ρ 18 ∧ ρ 18 ≤ 3 := r18
  obtain ⟨-, -, f2, -, -, -, -, -, -, -, f10, -⟩ := hf
  have f2 : (0 : Int) ≤ -ρ 16 + ρ 2 + (-1) := f2
  have f10 : (0 : Int) ≤ ρ 16 + -ρ 2 + 1 := f10
  obtain ⟨w_0, w_1, w_2⟩ : (0 ≤ -ρ 16 + ρ 2 + (-1)) ∧ (ρ 17 = 60) ∧ (¬ (0 ≤ -ρ 16 + ρ 2 + (-2))) := ⟨by omega, by omega, by omega⟩
  obtain ⟨-, m1, -, -, -, -, m6, m7, -, m9, -, -, -, -, -, m15, m16, -⟩ := hm
  have m1 : γ 0 15 0 34 = ρ 2 := m1
  have m6 : γ 0 15 0 44 = ρ 7 := m6
  have m7 : γ 0 73 0 (ρ 7) = ρ 8 := m7
  have m9 : γ 0 81 0 (4 * ρ 8 + 32 * ρ 7) = ρ 10 := m9
  have m15 : γ 2 15 0 35 = ρ 16 := m15
  have m16 : γ 0 80 0 (4 * ρ 8 + 32 * ρ 7) = ρ 18 := m16
  obtain ⟨⟨⟨⟨-, c4⟩, c5⟩, -⟩, -⟩ := hc
  have c4 : γ 4 = rUp (γ 3) 15 0 35 (ρ 16 + 1) := c4
  have c5 : γ 5 = rUp (γ 4) 77 0 (ρ 8 + 8 * ρ 7) 2 := c5
  obtain ⟨l0, l1, l2, l3, l4, l5, -⟩ := hl
  have l0 : sn33 [ρ 7, ρ 8] (γ 0) 0 (ρ 8 + 8 * ρ 7) (γ 1) := hS33 _ _ _ _ _ l0
  have l1 : sn7 [ρ 1, ρ 2] (γ 1) 0 0 (γ 2) := hS7 _ _ _ _ _ l1
  have l2 : sn6 [ρ 16, ρ 2] (γ 2) 0 (ρ 17) (γ 3) := hS6 _ _ _ _ _ l2
  have l3 : sn6 [ρ 16 + 1, ρ 2] (γ 5) 0 (-1) (γ 6) := hS6 _ _ _ _ _ l3
  have l4 : ρ 18 ≠ 1 := l4
  have l5 : sn34 [1, ρ 16 + 1, ρ 2, ρ 3, ρ 4, ρ 7, ρ 8, 2, ρ 10, ρ 11, ρ 12, ρ 13, ρ 14, ρ 15] (γ 6) 0 0 (γ 7) := hS34 _ _ _ _ _ l5
  have wl_0 : ρ 18 ≠ 1 := by omega
  show sn40 [ρ 0, ρ 1, ρ 2, ρ 3, ρ 4, ρ 5, ρ 6, ρ 7, ρ 8, ρ 9, ρ 10, ρ 11, ρ 12, ρ 13, ρ 14, ρ 15] (γ 0) 0 0 (γ 7)
  refine Eq.symm ?_
  show fn40 [ρ 0] (γ 0) = _
  unfold fn40
  refine (zLet_eq (show _ = ρ 0 from rfl)).trans ?_
  refine (zLet_eq m1).trans ?_
  refine (zLet_eq m6).trans ?_
  refine (zLet_eq m7).trans ?_
  refine (zLet_eq m9).trans ?_
  refine (zLet_eq (show fn33 [] (γ 0) = (0, ρ 8 + 8 * ρ 7, γ 1) from l0.symm)).trans ?_
  refine (zLet_eq (show _ = γ 1 from rfl)).trans ?_
  refine (zLet_eq (show fn7 [] (γ 1) = (0, 0, γ 2) from l1.symm)).trans ?_
  refine (zLet_eq (show _ = γ 2 from rfl)).trans ?_
  refine (zLet_eq m15).trans ?_
  refine (zLet_eq (show fn6 [ρ 16] (γ 2) = (0, ρ 17, γ 3) from l2.symm)).trans ?_
  refine (zLet_eq (show _ = γ 3 from rfl)).trans ?_
  refine (if_pos w_0).trans ?_
  refine (zLet_eq (show _ = ρ 17 from rfl)).trans ?_
  refine (if_pos w_1).trans ?_
  refine (zLet_eq c4.symm).trans ?_
  refine (zLet_eq c5.symm).trans ?_
  refine (zLet_eq (show fn6 [ρ 16 + 1] (γ 5) = (0, (-1), γ 6) from l3.symm)).trans ?_
  refine (zLet_eq (show _ = γ 6 from rfl)).trans ?_
  refine (if_neg w_2).trans ?_
  refine (zLet_eq m16).trans ?_
  refine (if_pos wl_0).trans ?_
  refine (zLet_eq (show fn34 [1] (γ 6) = (0, 0, γ 7) from l5.symm)).trans ?_
  refine (zLet_eq (show _ = γ 7 from rfl)).trans ?_
  rfl
theorem vn40_11 {S : Nat → zSpc} (hS6 : ∀ x g o v gz, S 6 x g o v gz → sn6 x g o v gz) (hS7 : ∀ x g o v gz, S 7 x g o v gz → sn7 x g o v gz) (hS8 : ∀ x g o v gz, S 8 x g o v gz → sn8 x g o v gz) (hS19 : ∀ x g o v gz, S 19 x g o v gz → sn19 x g o v gz) (hS33 : ∀ x g o v gz, S 33 x g o v gz → sn33 x g o v gz) (hS34 : ∀ x g o v gz, S 34 x g o v gz → sn34 x g o v gz) {a : List Int} {g : rHp} : ∀ (ρ : Nat → Int) (γ : Nat → rHp), zO 16 S a g q40_11 ρ γ → zGl (fun _ _ _ => True) (sn40 a g) q40_11 ρ γ := by
  intro ρ γ h
  obtain ⟨ha, hg, hr, hf, hm, hc, hl⟩ := h
  have ha : a = [ρ 0, ρ 1, ρ 2, ρ 3, ρ 4, ρ 5, ρ 6, ρ 7, ρ 8, ρ 9, ρ 10, ρ 11, ρ 12, ρ 13, ρ 14, ρ 15] := ha
  subst ha
  subst hg
  obtain ⟨-, -, -, -, -, -, -, -, -, -, -, -, -, -, -, -, -, r17, r18, -⟩ := hr
  have r17 : (60 : Int) ≤ ρ 17 ∧ ρ 17 ≤ 60 := r17
  have r18 : (1 : Int) ≤ ρ 18 ∧ ρ 18 ≤ 1 := r18
  obtain ⟨-, -, f2, f3, -⟩ := hf
  have f2 : (0 : Int) ≤ ρ 16 + -ρ 2 + 1 := f2
  have f3 : (0 : Int) ≤ -ρ 16 + ρ 2 + (-1) := f3
  obtain ⟨w_0, w_1, w_2, w_3⟩ : (0 ≤ -ρ 16 + ρ 2 + (-1)) ∧ (ρ 17 = 60) ∧ (¬ (0 ≤ -ρ 16 + ρ 2 + (-2))) ∧ (¬ (ρ 18 ≠ 1)) := ⟨by omega, by omega, by omega, by omega⟩
  obtain ⟨-, m1, -, -, -, -, m6, m7, -, m9, -, -, -, -, -, m15, m16, -⟩ := hm
  have m1 : γ 0 15 0 34 = ρ 2 := m1
  have m6 : γ 0 15 0 44 = ρ 7 := m6
  have m7 : γ 0 73 0 (ρ 7) = ρ 8 := m7
  have m9 : γ 0 81 0 (4 * ρ 8 + 32 * ρ 7) = ρ 10 := m9
  have m15 : γ 2 15 0 35 = ρ 16 := m15
  have m16 : γ 0 80 0 (4 * ρ 8 + 32 * ρ 7) = ρ 18 := m16
  obtain ⟨⟨⟨⟨⟨-, c4⟩, c5⟩, -⟩, -⟩, -⟩ := hc
  have c4 : γ 4 = rUp (γ 3) 15 0 35 (ρ 16 + 1) := c4
  have c5 : γ 5 = rUp (γ 4) 77 0 (ρ 8 + 8 * ρ 7) 2 := c5
  obtain ⟨l0, l1, l2, l3, l4, l5, -⟩ := hl
  have l0 : sn33 [ρ 7, ρ 8] (γ 0) 0 (ρ 8 + 8 * ρ 7) (γ 1) := hS33 _ _ _ _ _ l0
  have l1 : sn7 [ρ 1, ρ 2] (γ 1) 0 0 (γ 2) := hS7 _ _ _ _ _ l1
  have l2 : sn6 [ρ 16, ρ 2] (γ 2) 0 (ρ 17) (γ 3) := hS6 _ _ _ _ _ l2
  have l3 : sn6 [ρ 16 + 1, ρ 2] (γ 5) 0 (-1) (γ 6) := hS6 _ _ _ _ _ l3
  have l4 : sn19 [ρ 10, ρ 15] (γ 6) 0 0 (γ 7) := hS19 _ _ _ _ _ l4
  have l5 : sn8 [ρ 0, ρ 2, ρ 11] (γ 7) 0 0 (γ 8) := hS8 _ _ _ _ _ l5
  show sn40 [ρ 0, ρ 1, ρ 2, ρ 3, ρ 4, ρ 5, ρ 6, ρ 7, ρ 8, ρ 9, ρ 10, ρ 11, ρ 12, ρ 13, ρ 14, ρ 15] (γ 0) 0 0 (γ 8)
  refine Eq.symm ?_
  show fn40 [ρ 0] (γ 0) = _
  unfold fn40
  refine (zLet_eq (show _ = ρ 0 from rfl)).trans ?_
  refine (zLet_eq m1).trans ?_
  refine (zLet_eq m6).trans ?_
  refine (zLet_eq m7).trans ?_
  refine (zLet_eq m9).trans ?_
  refine (zLet_eq (show fn33 [] (γ 0) = (0, ρ 8 + 8 * ρ 7, γ 1) from l0.symm)).trans ?_
  refine (zLet_eq (show _ = γ 1 from rfl)).trans ?_
  refine (zLet_eq (show fn7 [] (γ 1) = (0, 0, γ 2) from l1.symm)).trans ?_
  refine (zLet_eq (show _ = γ 2 from rfl)).trans ?_
  refine (zLet_eq m15).trans ?_
  refine (zLet_eq (show fn6 [ρ 16] (γ 2) = (0, ρ 17, γ 3) from l2.symm)).trans ?_
  refine (zLet_eq (show _ = γ 3 from rfl)).trans ?_
  refine (if_pos w_0).trans ?_
  refine (zLet_eq (show _ = ρ 17 from rfl)).trans ?_
  refine (if_pos w_1).trans ?_
  refine (zLet_eq c4.symm).trans ?_
  refine (zLet_eq c5.symm).trans ?_
  refine (zLet_eq (show fn6 [ρ 16 + 1] (γ 5) = (0, (-1), γ 6) from l3.symm)).trans ?_
  refine (zLet_eq (show _ = γ 6 from rfl)).trans ?_
  refine (if_neg w_2).trans ?_
  refine (zLet_eq m16).trans ?_
  refine (if_neg w_3).trans ?_
  refine (zLet_eq (show fn19 [ρ 10] (γ 6) = (0, 0, γ 7) from l4.symm)).trans ?_
  refine (zLet_eq (show _ = γ 7 from rfl)).trans ?_
  refine (if_neg zQ0_).trans ?_
  refine (zLet_eq (show fn8 [ρ 0] (γ 7) = (0, 0, γ 8) from l5.symm)).trans ?_
  refine (zLet_eq (show _ = γ 8 from rfl)).trans ?_
  rfl
theorem vn40_12 {S : Nat → zSpc} (hS6 : ∀ x g o v gz, S 6 x g o v gz → sn6 x g o v gz) (hS7 : ∀ x g o v gz, S 7 x g o v gz → sn7 x g o v gz) (hS8 : ∀ x g o v gz, S 8 x g o v gz → sn8 x g o v gz) (hS19 : ∀ x g o v gz, S 19 x g o v gz → sn19 x g o v gz) (hS33 : ∀ x g o v gz, S 33 x g o v gz → sn33 x g o v gz) (hS34 : ∀ x g o v gz, S 34 x g o v gz → sn34 x g o v gz) {a : List Int} {g : rHp} : ∀ (ρ : Nat → Int) (γ : Nat → rHp), zO 16 S a g q40_12 ρ γ → zGl (fun _ _ _ => True) (sn40 a g) q40_12 ρ γ := by
  intro ρ γ h
  obtain ⟨ha, hg, hr, hf, hm, hc, hl⟩ := h
  have ha : a = [ρ 0, ρ 1, ρ 2, ρ 3, ρ 4, ρ 5, ρ 6, ρ 7, ρ 8, ρ 9, ρ 10, ρ 11, ρ 12, ρ 13, ρ 14, ρ 15] := ha
  subst ha
  subst hg
  obtain ⟨-, -, -, -, -, -, -, -, -, -, -, -, -, -, -, -, -, r17, r18, -⟩ := hr
  have r17 : (60 : Int) ≤ ρ 17 ∧ ρ 17 ≤ 60 := r17
  have r18 : (1 : Int) ≤ ρ 18 ∧ ρ 18 ≤ 1 := r18
  obtain ⟨-, -, f2, -, -, -, -, -, -, -, f10, -⟩ := hf
  have f2 : (0 : Int) ≤ -ρ 16 + ρ 2 + (-1) := f2
  have f10 : (0 : Int) ≤ ρ 16 + -ρ 2 + 1 := f10
  obtain ⟨w_0, w_1, w_2, w_3⟩ : (0 ≤ -ρ 16 + ρ 2 + (-1)) ∧ (ρ 17 = 60) ∧ (¬ (0 ≤ -ρ 16 + ρ 2 + (-2))) ∧ (¬ (ρ 18 ≠ 1)) := ⟨by omega, by omega, by omega, by omega⟩
  obtain ⟨-, m1, -, -, -, -, m6, m7, -, m9, -, -, -, -, -, m15, m16, -⟩ := hm
  have m1 : γ 0 15 0 34 = ρ 2 := m1
  have m6 : γ 0 15 0 44 = ρ 7 := m6
  have m7 : γ 0 73 0 (ρ 7) = ρ 8 := m7
  have m9 : γ 0 81 0 (4 * ρ 8 + 32 * ρ 7) = ρ 10 := m9
  have m15 : γ 2 15 0 35 = ρ 16 := m15
  have m16 : γ 0 80 0 (4 * ρ 8 + 32 * ρ 7) = ρ 18 := m16
  obtain ⟨⟨⟨⟨⟨-, c4⟩, c5⟩, -⟩, -⟩, -⟩ := hc
  have c4 : γ 4 = rUp (γ 3) 15 0 35 (ρ 16 + 1) := c4
  have c5 : γ 5 = rUp (γ 4) 77 0 (ρ 8 + 8 * ρ 7) 2 := c5
  obtain ⟨l0, l1, l2, l3, l4, l5, -⟩ := hl
  have l0 : sn33 [ρ 7, ρ 8] (γ 0) 0 (ρ 8 + 8 * ρ 7) (γ 1) := hS33 _ _ _ _ _ l0
  have l1 : sn7 [ρ 1, ρ 2] (γ 1) 0 0 (γ 2) := hS7 _ _ _ _ _ l1
  have l2 : sn6 [ρ 16, ρ 2] (γ 2) 0 (ρ 17) (γ 3) := hS6 _ _ _ _ _ l2
  have l3 : sn6 [ρ 16 + 1, ρ 2] (γ 5) 0 (-1) (γ 6) := hS6 _ _ _ _ _ l3
  have l4 : sn19 [ρ 10, ρ 15] (γ 6) 0 1 (γ 7) := hS19 _ _ _ _ _ l4
  have l5 : sn34 [1, ρ 16 + 1, ρ 2, ρ 3, ρ 4, ρ 7, ρ 8, 2, ρ 10, ρ 11, ρ 12, ρ 13, ρ 14, ρ 15] (γ 7) 0 0 (γ 8) := hS34 _ _ _ _ _ l5
  show sn40 [ρ 0, ρ 1, ρ 2, ρ 3, ρ 4, ρ 5, ρ 6, ρ 7, ρ 8, ρ 9, ρ 10, ρ 11, ρ 12, ρ 13, ρ 14, ρ 15] (γ 0) 0 0 (γ 8)
  refine Eq.symm ?_
  show fn40 [ρ 0] (γ 0) = _
  unfold fn40
  refine (zLet_eq (show _ = ρ 0 from rfl)).trans ?_
  refine (zLet_eq m1).trans ?_
  refine (zLet_eq m6).trans ?_
  refine (zLet_eq m7).trans ?_
  refine (zLet_eq m9).trans ?_
  refine (zLet_eq (show fn33 [] (γ 0) = (0, ρ 8 + 8 * ρ 7, γ 1) from l0.symm)).trans ?_
  refine (zLet_eq (show _ = γ 1 from rfl)).trans ?_
  refine (zLet_eq (show fn7 [] (γ 1) = (0, 0, γ 2) from l1.symm)).trans ?_
  refine (zLet_eq (show _ = γ 2 from rfl)).trans ?_
  refine (zLet_eq m15).trans ?_
  refine (zLet_eq (show fn6 [ρ 16] (γ 2) = (0, ρ 17, γ 3) from l2.symm)).trans ?_
  refine (zLet_eq (show _ = γ 3 from rfl)).trans ?_
  refine (if_pos w_0).trans ?_
  refine (zLet_eq (show _ = ρ 17 from rfl)).trans ?_
  refine (if_pos w_1).trans ?_
  refine (zLet_eq c4.symm).trans ?_
  refine (zLet_eq c5.symm).trans ?_
  refine (zLet_eq (show fn6 [ρ 16 + 1] (γ 5) = (0, (-1), γ 6) from l3.symm)).trans ?_
  refine (zLet_eq (show _ = γ 6 from rfl)).trans ?_
  refine (if_neg w_2).trans ?_
  refine (zLet_eq m16).trans ?_
  refine (if_neg w_3).trans ?_
  refine (zLet_eq (show fn19 [ρ 10] (γ 6) = (0, 1, γ 7) from l4.symm)).trans ?_
  refine (zLet_eq (show _ = γ 7 from rfl)).trans ?_
  refine (if_pos zQ1_).trans ?_
  refine (zLet_eq (show fn34 [1] (γ 7) = (0, 0, γ 8) from l5.symm)).trans ?_
  refine (zLet_eq (show _ = γ 8 from rfl)).trans ?_
  rfl
theorem vn40_13 {S : Nat → zSpc} (hS6 : ∀ x g o v gz, S 6 x g o v gz → sn6 x g o v gz) (hS7 : ∀ x g o v gz, S 7 x g o v gz → sn7 x g o v gz) (hS8 : ∀ x g o v gz, S 8 x g o v gz → sn8 x g o v gz) (hS19 : ∀ x g o v gz, S 19 x g o v gz → sn19 x g o v gz) (hS33 : ∀ x g o v gz, S 33 x g o v gz → sn33 x g o v gz) (hS34 : ∀ x g o v gz, S 34 x g o v gz → sn34 x g o v gz) {a : List Int} {g : rHp} : ∀ (ρ : Nat → Int) (γ : Nat → rHp), zO 16 S a g q40_13 ρ γ → zGl (fun _ _ _ => True) (sn40 a g) q40_13 ρ γ := by
  intro ρ γ h
  obtain ⟨ha, hg, hr, hf, hm, hc, hl⟩ := h
  have ha : a = [ρ 0, ρ 1, ρ 2, ρ 3, ρ 4, ρ 5, ρ 6, ρ 7, ρ 8, ρ 9, ρ 10, ρ 11, ρ 12, ρ 13, ρ 14, ρ 15] := ha
  subst ha
  subst hg
  obtain ⟨-, -, -, -, -, -, -, -, -, -, -, -, -, -, -, -, -, r17, r18, -⟩ := hr
  have r17 : (61 : Int) ≤ ρ 17 ∧ ρ 17 ≤ 61 := r17
  have r18 : (0 : Int) ≤ ρ 18 ∧ ρ 18 ≤ 3 := r18
  obtain ⟨-, -, f2, -⟩ := hf
  have f2 : (0 : Int) ≤ -ρ 16 + ρ 2 + (-1) := f2
  obtain ⟨w_0, w_1, w_2⟩ : (0 ≤ -ρ 16 + ρ 2 + (-1)) ∧ (¬ (ρ 17 = 60)) ∧ (ρ 17 = 61) := ⟨by omega, by omega, by omega⟩
  obtain ⟨-, m1, -, -, -, -, m6, m7, -, m9, -, -, -, -, -, m15, m16, -⟩ := hm
  have m1 : γ 0 15 0 34 = ρ 2 := m1
  have m6 : γ 0 15 0 44 = ρ 7 := m6
  have m7 : γ 0 73 0 (ρ 7) = ρ 8 := m7
  have m9 : γ 0 81 0 (4 * ρ 8 + 32 * ρ 7) = ρ 10 := m9
  have m15 : γ 2 15 0 35 = ρ 16 := m15
  have m16 : γ 0 80 0 (4 * ρ 8 + 32 * ρ 7) = ρ 18 := m16
  obtain ⟨⟨⟨-, c4⟩, c5⟩, -⟩ := hc
  have c4 : γ 4 = rUp (γ 3) 15 0 35 (ρ 16 + 1) := c4
  have c5 : γ 5 = rUp (γ 4) 77 0 (ρ 8 + 8 * ρ 7) 3 := c5
  obtain ⟨l0, l1, l2, l3, l4, l5, -⟩ := hl
  have l0 : sn33 [ρ 7, ρ 8] (γ 0) 0 (ρ 8 + 8 * ρ 7) (γ 1) := hS33 _ _ _ _ _ l0
  have l1 : sn7 [ρ 1, ρ 2] (γ 1) 0 0 (γ 2) := hS7 _ _ _ _ _ l1
  have l2 : sn6 [ρ 16, ρ 2] (γ 2) 0 (ρ 17) (γ 3) := hS6 _ _ _ _ _ l2
  have l3 : ρ 17 ≠ 60 := l3
  have l4 : ρ 18 ≠ 1 := l4
  have l5 : sn34 [1, ρ 16 + 1, ρ 2, ρ 3, ρ 4, ρ 7, ρ 8, 3, ρ 10, ρ 11, ρ 12, ρ 13, ρ 14, ρ 15] (γ 5) 0 0 (γ 6) := hS34 _ _ _ _ _ l5
  have wl_0 : ρ 18 ≠ 1 := by omega
  show sn40 [ρ 0, ρ 1, ρ 2, ρ 3, ρ 4, ρ 5, ρ 6, ρ 7, ρ 8, ρ 9, ρ 10, ρ 11, ρ 12, ρ 13, ρ 14, ρ 15] (γ 0) 0 0 (γ 6)
  refine Eq.symm ?_
  show fn40 [ρ 0] (γ 0) = _
  unfold fn40
  refine (zLet_eq (show _ = ρ 0 from rfl)).trans ?_
  refine (zLet_eq m1).trans ?_
  refine (zLet_eq m6).trans ?_
  refine (zLet_eq m7).trans ?_
  refine (zLet_eq m9).trans ?_
  refine (zLet_eq (show fn33 [] (γ 0) = (0, ρ 8 + 8 * ρ 7, γ 1) from l0.symm)).trans ?_
  refine (zLet_eq (show _ = γ 1 from rfl)).trans ?_
  refine (zLet_eq (show fn7 [] (γ 1) = (0, 0, γ 2) from l1.symm)).trans ?_
  refine (zLet_eq (show _ = γ 2 from rfl)).trans ?_
  refine (zLet_eq m15).trans ?_
  refine (zLet_eq (show fn6 [ρ 16] (γ 2) = (0, ρ 17, γ 3) from l2.symm)).trans ?_
  refine (zLet_eq (show _ = γ 3 from rfl)).trans ?_
  refine (if_pos w_0).trans ?_
  refine (zLet_eq (show _ = ρ 17 from rfl)).trans ?_
  refine (if_neg w_1).trans ?_
  refine (if_pos w_2).trans ?_
  refine (zLet_eq c4.symm).trans ?_
  refine (zLet_eq c5.symm).trans ?_
  refine (zLet_eq m16).trans ?_
  refine (if_pos wl_0).trans ?_
  refine (zLet_eq (show fn34 [1] (γ 5) = (0, 0, γ 6) from l5.symm)).trans ?_
  refine (zLet_eq (show _ = γ 6 from rfl)).trans ?_
  refine (if_neg zQ0_).trans ?_
  rfl
theorem vn40_14 {S : Nat → zSpc} (hS6 : ∀ x g o v gz, S 6 x g o v gz → sn6 x g o v gz) (hS7 : ∀ x g o v gz, S 7 x g o v gz → sn7 x g o v gz) (hS8 : ∀ x g o v gz, S 8 x g o v gz → sn8 x g o v gz) (hS19 : ∀ x g o v gz, S 19 x g o v gz → sn19 x g o v gz) (hS33 : ∀ x g o v gz, S 33 x g o v gz → sn33 x g o v gz) (hS34 : ∀ x g o v gz, S 34 x g o v gz → sn34 x g o v gz) {a : List Int} {g : rHp} : ∀ (ρ : Nat → Int) (γ : Nat → rHp), zO 16 S a g q40_14 ρ γ → zGl (fun _ _ _ => True) (sn40 a g) q40_14 ρ γ := by
  intro ρ γ h
  obtain ⟨ha, hg, hr, hf, hm, hc, hl⟩ := h
  have ha : a = [ρ 0, ρ 1, ρ 2, ρ 3, ρ 4, ρ 5, ρ 6, ρ 7, ρ 8, ρ 9, ρ 10, ρ 11, ρ 12, ρ 13, ρ 14, ρ 15] := ha
  subst ha
  subst hg
  obtain ⟨-, -, -, -, -, -, -, -, -, -, -, -, -, -, -, -, -, r17, r18, -⟩ := hr
  have r17 : (61 : Int) ≤ ρ 17 ∧ ρ 17 ≤ 61 := r17
  have r18 : (0 : Int) ≤ ρ 18 ∧ ρ 18 ≤ 3 := r18
  obtain ⟨-, -, f2, -⟩ := hf
  have f2 : (0 : Int) ≤ -ρ 16 + ρ 2 + (-1) := f2
  obtain ⟨w_0, w_1, w_2⟩ : (0 ≤ -ρ 16 + ρ 2 + (-1)) ∧ (¬ (ρ 17 = 60)) ∧ (ρ 17 = 61) := ⟨by omega, by omega, by omega⟩
  obtain ⟨-, m1, -, -, -, -, m6, m7, -, m9, -, -, -, -, -, m15, m16, -⟩ := hm
  have m1 : γ 0 15 0 34 = ρ 2 := m1
  have m6 : γ 0 15 0 44 = ρ 7 := m6
  have m7 : γ 0 73 0 (ρ 7) = ρ 8 := m7
  have m9 : γ 0 81 0 (4 * ρ 8 + 32 * ρ 7) = ρ 10 := m9
  have m15 : γ 2 15 0 35 = ρ 16 := m15
  have m16 : γ 0 80 0 (4 * ρ 8 + 32 * ρ 7) = ρ 18 := m16
  obtain ⟨⟨⟨-, c4⟩, c5⟩, -⟩ := hc
  have c4 : γ 4 = rUp (γ 3) 15 0 35 (ρ 16 + 1) := c4
  have c5 : γ 5 = rUp (γ 4) 77 0 (ρ 8 + 8 * ρ 7) 3 := c5
  obtain ⟨l0, l1, l2, l3, l4, l5, -⟩ := hl
  have l0 : sn33 [ρ 7, ρ 8] (γ 0) 0 (ρ 8 + 8 * ρ 7) (γ 1) := hS33 _ _ _ _ _ l0
  have l1 : sn7 [ρ 1, ρ 2] (γ 1) 0 0 (γ 2) := hS7 _ _ _ _ _ l1
  have l2 : sn6 [ρ 16, ρ 2] (γ 2) 0 (ρ 17) (γ 3) := hS6 _ _ _ _ _ l2
  have l3 : ρ 17 ≠ 60 := l3
  have l4 : ρ 18 ≠ 1 := l4
  have l5 : sn34 [1, ρ 16 + 1, ρ 2, ρ 3, ρ 4, ρ 7, ρ 8, 3, ρ 10, ρ 11, ρ 12, ρ 13, ρ 14, ρ 15] (γ 5) 0 1 (γ 6) := hS34 _ _ _ _ _ l5
  have wl_0 : ρ 18 ≠ 1 := by omega
  show sn40 [ρ 0, ρ 1, ρ 2, ρ 3, ρ 4, ρ 5, ρ 6, ρ 7, ρ 8, ρ 9, ρ 10, ρ 11, ρ 12, ρ 13, ρ 14, ρ 15] (γ 0) 0 1 (γ 6)
  refine Eq.symm ?_
  show fn40 [ρ 0] (γ 0) = _
  unfold fn40
  refine (zLet_eq (show _ = ρ 0 from rfl)).trans ?_
  refine (zLet_eq m1).trans ?_
  refine (zLet_eq m6).trans ?_
  refine (zLet_eq m7).trans ?_
  refine (zLet_eq m9).trans ?_
  refine (zLet_eq (show fn33 [] (γ 0) = (0, ρ 8 + 8 * ρ 7, γ 1) from l0.symm)).trans ?_
  refine (zLet_eq (show _ = γ 1 from rfl)).trans ?_
  refine (zLet_eq (show fn7 [] (γ 1) = (0, 0, γ 2) from l1.symm)).trans ?_
  refine (zLet_eq (show _ = γ 2 from rfl)).trans ?_
  refine (zLet_eq m15).trans ?_
  refine (zLet_eq (show fn6 [ρ 16] (γ 2) = (0, ρ 17, γ 3) from l2.symm)).trans ?_
  refine (zLet_eq (show _ = γ 3 from rfl)).trans ?_
  refine (if_pos w_0).trans ?_
  refine (zLet_eq (show _ = ρ 17 from rfl)).trans ?_
  refine (if_neg w_1).trans ?_
  refine (if_pos w_2).trans ?_
  refine (zLet_eq c4.symm).trans ?_
  refine (zLet_eq c5.symm).trans ?_
  refine (zLet_eq m16).trans ?_
  refine (if_pos wl_0).trans ?_
  refine (zLet_eq (show fn34 [1] (γ 5) = (0, 1, γ 6) from l5.symm)).trans ?_
  refine (zLet_eq (show _ = γ 6 from rfl)).trans ?_
  refine (if_pos zQ1_).trans ?_
  rfl
theorem vn40_15 {S : Nat → zSpc} (hS6 : ∀ x g o v gz, S 6 x g o v gz → sn6 x g o v gz) (hS7 : ∀ x g o v gz, S 7 x g o v gz → sn7 x g o v gz) (hS8 : ∀ x g o v gz, S 8 x g o v gz → sn8 x g o v gz) (hS19 : ∀ x g o v gz, S 19 x g o v gz → sn19 x g o v gz) (hS33 : ∀ x g o v gz, S 33 x g o v gz → sn33 x g o v gz) (hS34 : ∀ x g o v gz, S 34 x g o v gz → sn34 x g o v gz) {a : List Int} {g : rHp} : ∀ (ρ : Nat → Int) (γ : Nat → rHp), zO 16 S a g q40_15 ρ γ → zGl (fun _ _ _ => True) (sn40 a g) q40_15 ρ γ := by
  intro ρ γ h
  obtain ⟨ha, hg, hr, hf, hm, hc, hl⟩ := h
  have ha : a = [ρ 0, ρ 1, ρ 2, ρ 3, ρ 4, ρ 5, ρ 6, ρ 7, ρ 8, ρ 9, ρ 10, ρ 11, ρ 12, ρ 13, ρ 14, ρ 15] := ha
  subst ha
  subst hg
  obtain ⟨-, -, -, -, -, -, -, -, -, -, -, -, -, -, -, -, -, r17, r18, -⟩ := hr
  have r17 : (61 : Int) ≤ ρ 17 ∧ ρ 17 ≤ 61 := r17
  have r18 : (1 : Int) ≤ ρ 18 ∧ ρ 18 ≤ 1 := r18
  obtain ⟨-, -, f2, -⟩ := hf
  have f2 : (0 : Int) ≤ -ρ 16 + ρ 2 + (-1) := f2
  obtain ⟨w_0, w_1, w_2, w_3⟩ : (0 ≤ -ρ 16 + ρ 2 + (-1)) ∧ (¬ (ρ 17 = 60)) ∧ (ρ 17 = 61) ∧ (¬ (ρ 18 ≠ 1)) := ⟨by omega, by omega, by omega, by omega⟩
  obtain ⟨-, m1, -, -, -, -, m6, m7, -, m9, -, -, -, -, -, m15, m16, -⟩ := hm
  have m1 : γ 0 15 0 34 = ρ 2 := m1
  have m6 : γ 0 15 0 44 = ρ 7 := m6
  have m7 : γ 0 73 0 (ρ 7) = ρ 8 := m7
  have m9 : γ 0 81 0 (4 * ρ 8 + 32 * ρ 7) = ρ 10 := m9
  have m15 : γ 2 15 0 35 = ρ 16 := m15
  have m16 : γ 0 80 0 (4 * ρ 8 + 32 * ρ 7) = ρ 18 := m16
  obtain ⟨⟨⟨⟨-, c4⟩, c5⟩, -⟩, -⟩ := hc
  have c4 : γ 4 = rUp (γ 3) 15 0 35 (ρ 16 + 1) := c4
  have c5 : γ 5 = rUp (γ 4) 77 0 (ρ 8 + 8 * ρ 7) 3 := c5
  obtain ⟨l0, l1, l2, l3, l4, l5, -⟩ := hl
  have l0 : sn33 [ρ 7, ρ 8] (γ 0) 0 (ρ 8 + 8 * ρ 7) (γ 1) := hS33 _ _ _ _ _ l0
  have l1 : sn7 [ρ 1, ρ 2] (γ 1) 0 0 (γ 2) := hS7 _ _ _ _ _ l1
  have l2 : sn6 [ρ 16, ρ 2] (γ 2) 0 (ρ 17) (γ 3) := hS6 _ _ _ _ _ l2
  have l3 : ρ 17 ≠ 60 := l3
  have l4 : sn19 [ρ 10, ρ 15] (γ 5) 0 0 (γ 6) := hS19 _ _ _ _ _ l4
  have l5 : sn8 [ρ 0, ρ 2, ρ 11] (γ 6) 0 0 (γ 7) := hS8 _ _ _ _ _ l5
  show sn40 [ρ 0, ρ 1, ρ 2, ρ 3, ρ 4, ρ 5, ρ 6, ρ 7, ρ 8, ρ 9, ρ 10, ρ 11, ρ 12, ρ 13, ρ 14, ρ 15] (γ 0) 0 0 (γ 7)
  refine Eq.symm ?_
  show fn40 [ρ 0] (γ 0) = _
  unfold fn40
  refine (zLet_eq (show _ = ρ 0 from rfl)).trans ?_
  refine (zLet_eq m1).trans ?_
  refine (zLet_eq m6).trans ?_
  refine (zLet_eq m7).trans ?_
  refine (zLet_eq m9).trans ?_
  refine (zLet_eq (show fn33 [] (γ 0) = (0, ρ 8 + 8 * ρ 7, γ 1) from l0.symm)).trans ?_
  refine (zLet_eq (show _ = γ 1 from rfl)).trans ?_
  refine (zLet_eq (show fn7 [] (γ 1) = (0, 0, γ 2) from l1.symm)).trans ?_
  refine (zLet_eq (show _ = γ 2 from rfl)).trans ?_
  refine (zLet_eq m15).trans ?_
  refine (zLet_eq (show fn6 [ρ 16] (γ 2) = (0, ρ 17, γ 3) from l2.symm)).trans ?_
  refine (zLet_eq (show _ = γ 3 from rfl)).trans ?_
  refine (if_pos w_0).trans ?_
  refine (zLet_eq (show _ = ρ 17 from rfl)).trans ?_
  refine (if_neg w_1).trans ?_
  refine (if_pos w_2).trans ?_
  refine (zLet_eq c4.symm).trans ?_
  refine (zLet_eq c5.symm).trans ?_
  refine (zLet_eq m16).trans ?_
  refine (if_neg w_3).trans ?_
  refine (zLet_eq (show fn19 [ρ 10] (γ 5) = (0, 0, γ 6) from l4.symm)).trans ?_
  refine (zLet_eq (show _ = γ 6 from rfl)).trans ?_
  refine (if_neg zQ0_).trans ?_
  refine (zLet_eq (show fn8 [ρ 0] (γ 6) = (0, 0, γ 7) from l5.symm)).trans ?_
  refine (zLet_eq (show _ = γ 7 from rfl)).trans ?_
  rfl
theorem vn40_16 {S : Nat → zSpc} (hS6 : ∀ x g o v gz, S 6 x g o v gz → sn6 x g o v gz) (hS7 : ∀ x g o v gz, S 7 x g o v gz → sn7 x g o v gz) (hS8 : ∀ x g o v gz, S 8 x g o v gz → sn8 x g o v gz) (hS19 : ∀ x g o v gz, S 19 x g o v gz → sn19 x g o v gz) (hS33 : ∀ x g o v gz, S 33 x g o v gz → sn33 x g o v gz) (hS34 : ∀ x g o v gz, S 34 x g o v gz → sn34 x g o v gz) {a : List Int} {g : rHp} : ∀ (ρ : Nat → Int) (γ : Nat → rHp), zO 16 S a g q40_16 ρ γ → zGl (fun _ _ _ => True) (sn40 a g) q40_16 ρ γ := by
  intro ρ γ h
  obtain ⟨ha, hg, hr, hf, hm, hc, hl⟩ := h
  have ha : a = [ρ 0, ρ 1, ρ 2, ρ 3, ρ 4, ρ 5, ρ 6, ρ 7, ρ 8, ρ 9, ρ 10, ρ 11, ρ 12, ρ 13, ρ 14, ρ 15] := ha
  subst ha
  subst hg
  obtain ⟨-, -, -, -, -, -, -, -, -, -, -, -, -, -, -, -, -, r17, r18, -⟩ := hr
  have r17 : (61 : Int) ≤ ρ 17 ∧ ρ 17 ≤ 61 := r17
  have r18 : (1 : Int) ≤ ρ 18 ∧ ρ 18 ≤ 1 := r18
  obtain ⟨-, -, f2, -⟩ := hf
  have f2 : (0 : Int) ≤ -ρ 16 + ρ 2 + (-1) := f2
  obtain ⟨w_0, w_1, w_2, w_3⟩ : (0 ≤ -ρ 16 + ρ 2 + (-1)) ∧ (¬ (ρ 17 = 60)) ∧ (ρ 17 = 61) ∧ (¬ (ρ 18 ≠ 1)) := ⟨by omega, by omega, by omega, by omega⟩
  obtain ⟨-, m1, -, -, -, -, m6, m7, -, m9, -, -, -, -, -, m15, m16, -⟩ := hm
  have m1 : γ 0 15 0 34 = ρ 2 := m1
  have m6 : γ 0 15 0 44 = ρ 7 := m6
  have m7 : γ 0 73 0 (ρ 7) = ρ 8 := m7
  have m9 : γ 0 81 0 (4 * ρ 8 + 32 * ρ 7) = ρ 10 := m9
  have m15 : γ 2 15 0 35 = ρ 16 := m15
  have m16 : γ 0 80 0 (4 * ρ 8 + 32 * ρ 7) = ρ 18 := m16
  obtain ⟨⟨⟨⟨-, c4⟩, c5⟩, -⟩, -⟩ := hc
  have c4 : γ 4 = rUp (γ 3) 15 0 35 (ρ 16 + 1) := c4
  have c5 : γ 5 = rUp (γ 4) 77 0 (ρ 8 + 8 * ρ 7) 3 := c5
  obtain ⟨l0, l1, l2, l3, l4, l5, -⟩ := hl
  have l0 : sn33 [ρ 7, ρ 8] (γ 0) 0 (ρ 8 + 8 * ρ 7) (γ 1) := hS33 _ _ _ _ _ l0
  have l1 : sn7 [ρ 1, ρ 2] (γ 1) 0 0 (γ 2) := hS7 _ _ _ _ _ l1
  have l2 : sn6 [ρ 16, ρ 2] (γ 2) 0 (ρ 17) (γ 3) := hS6 _ _ _ _ _ l2
  have l3 : ρ 17 ≠ 60 := l3
  have l4 : sn19 [ρ 10, ρ 15] (γ 5) 0 1 (γ 6) := hS19 _ _ _ _ _ l4
  have l5 : sn34 [1, ρ 16 + 1, ρ 2, ρ 3, ρ 4, ρ 7, ρ 8, 3, ρ 10, ρ 11, ρ 12, ρ 13, ρ 14, ρ 15] (γ 6) 0 0 (γ 7) := hS34 _ _ _ _ _ l5
  show sn40 [ρ 0, ρ 1, ρ 2, ρ 3, ρ 4, ρ 5, ρ 6, ρ 7, ρ 8, ρ 9, ρ 10, ρ 11, ρ 12, ρ 13, ρ 14, ρ 15] (γ 0) 0 0 (γ 7)
  refine Eq.symm ?_
  show fn40 [ρ 0] (γ 0) = _
  unfold fn40
  refine (zLet_eq (show _ = ρ 0 from rfl)).trans ?_
  refine (zLet_eq m1).trans ?_
  refine (zLet_eq m6).trans ?_
  refine (zLet_eq m7).trans ?_
  refine (zLet_eq m9).trans ?_
  refine (zLet_eq (show fn33 [] (γ 0) = (0, ρ 8 + 8 * ρ 7, γ 1) from l0.symm)).trans ?_
  refine (zLet_eq (show _ = γ 1 from rfl)).trans ?_
  refine (zLet_eq (show fn7 [] (γ 1) = (0, 0, γ 2) from l1.symm)).trans ?_
  refine (zLet_eq (show _ = γ 2 from rfl)).trans ?_
  refine (zLet_eq m15).trans ?_
  refine (zLet_eq (show fn6 [ρ 16] (γ 2) = (0, ρ 17, γ 3) from l2.symm)).trans ?_
  refine (zLet_eq (show _ = γ 3 from rfl)).trans ?_
  refine (if_pos w_0).trans ?_
  refine (zLet_eq (show _ = ρ 17 from rfl)).trans ?_
  refine (if_neg w_1).trans ?_
  refine (if_pos w_2).trans ?_
  refine (zLet_eq c4.symm).trans ?_
  refine (zLet_eq c5.symm).trans ?_
  refine (zLet_eq m16).trans ?_
  refine (if_neg w_3).trans ?_
  refine (zLet_eq (show fn19 [ρ 10] (γ 5) = (0, 1, γ 6) from l4.symm)).trans ?_
  refine (zLet_eq (show _ = γ 6 from rfl)).trans ?_
  refine (if_pos zQ1_).trans ?_
  refine (zLet_eq (show fn34 [1] (γ 6) = (0, 0, γ 7) from l5.symm)).trans ?_
  refine (zLet_eq (show _ = γ 7 from rfl)).trans ?_
  refine (if_neg zQ0_).trans ?_
  rfl
theorem vn40_17 {S : Nat → zSpc} (hS6 : ∀ x g o v gz, S 6 x g o v gz → sn6 x g o v gz) (hS7 : ∀ x g o v gz, S 7 x g o v gz → sn7 x g o v gz) (hS8 : ∀ x g o v gz, S 8 x g o v gz → sn8 x g o v gz) (hS19 : ∀ x g o v gz, S 19 x g o v gz → sn19 x g o v gz) (hS33 : ∀ x g o v gz, S 33 x g o v gz → sn33 x g o v gz) (hS34 : ∀ x g o v gz, S 34 x g o v gz → sn34 x g o v gz) {a : List Int} {g : rHp} : ∀ (ρ : Nat → Int) (γ : Nat → rHp), zO 16 S a g q40_17 ρ γ → zGl (fun _ _ _ => True) (sn40 a g) q40_17 ρ γ := by
  intro ρ γ h
  obtain ⟨ha, hg, hr, hf, hm, hc, hl⟩ := h
  have ha : a = [ρ 0, ρ 1, ρ 2, ρ 3, ρ 4, ρ 5, ρ 6, ρ 7, ρ 8, ρ 9, ρ 10, ρ 11, ρ 12, ρ 13, ρ 14, ρ 15] := ha
  subst ha
  subst hg
  obtain ⟨-, -, -, -, -, -, -, -, -, -, -, -, -, -, -, -, -, r17, r18, -⟩ := hr
  have r17 : (61 : Int) ≤ ρ 17 ∧ ρ 17 ≤ 61 := r17
  have r18 : (1 : Int) ≤ ρ 18 ∧ ρ 18 ≤ 1 := r18
  obtain ⟨-, -, f2, -⟩ := hf
  have f2 : (0 : Int) ≤ -ρ 16 + ρ 2 + (-1) := f2
  obtain ⟨w_0, w_1, w_2, w_3⟩ : (0 ≤ -ρ 16 + ρ 2 + (-1)) ∧ (¬ (ρ 17 = 60)) ∧ (ρ 17 = 61) ∧ (¬ (ρ 18 ≠ 1)) := ⟨by omega, by omega, by omega, by omega⟩
  obtain ⟨-, m1, -, -, -, -, m6, m7, -, m9, -, -, -, -, -, m15, m16, -⟩ := hm
  have m1 : γ 0 15 0 34 = ρ 2 := m1
  have m6 : γ 0 15 0 44 = ρ 7 := m6
  have m7 : γ 0 73 0 (ρ 7) = ρ 8 := m7
  have m9 : γ 0 81 0 (4 * ρ 8 + 32 * ρ 7) = ρ 10 := m9
  have m15 : γ 2 15 0 35 = ρ 16 := m15
  have m16 : γ 0 80 0 (4 * ρ 8 + 32 * ρ 7) = ρ 18 := m16
  obtain ⟨⟨⟨⟨-, c4⟩, c5⟩, -⟩, -⟩ := hc
  have c4 : γ 4 = rUp (γ 3) 15 0 35 (ρ 16 + 1) := c4
  have c5 : γ 5 = rUp (γ 4) 77 0 (ρ 8 + 8 * ρ 7) 3 := c5
  obtain ⟨l0, l1, l2, l3, l4, l5, -⟩ := hl
  have l0 : sn33 [ρ 7, ρ 8] (γ 0) 0 (ρ 8 + 8 * ρ 7) (γ 1) := hS33 _ _ _ _ _ l0
  have l1 : sn7 [ρ 1, ρ 2] (γ 1) 0 0 (γ 2) := hS7 _ _ _ _ _ l1
  have l2 : sn6 [ρ 16, ρ 2] (γ 2) 0 (ρ 17) (γ 3) := hS6 _ _ _ _ _ l2
  have l3 : ρ 17 ≠ 60 := l3
  have l4 : sn19 [ρ 10, ρ 15] (γ 5) 0 1 (γ 6) := hS19 _ _ _ _ _ l4
  have l5 : sn34 [1, ρ 16 + 1, ρ 2, ρ 3, ρ 4, ρ 7, ρ 8, 3, ρ 10, ρ 11, ρ 12, ρ 13, ρ 14, ρ 15] (γ 6) 0 1 (γ 7) := hS34 _ _ _ _ _ l5
  show sn40 [ρ 0, ρ 1, ρ 2, ρ 3, ρ 4, ρ 5, ρ 6, ρ 7, ρ 8, ρ 9, ρ 10, ρ 11, ρ 12, ρ 13, ρ 14, ρ 15] (γ 0) 0 1 (γ 7)
  refine Eq.symm ?_
  show fn40 [ρ 0] (γ 0) = _
  unfold fn40
  refine (zLet_eq (show _ = ρ 0 from rfl)).trans ?_
  refine (zLet_eq m1).trans ?_
  refine (zLet_eq m6).trans ?_
  refine (zLet_eq m7).trans ?_
  refine (zLet_eq m9).trans ?_
  refine (zLet_eq (show fn33 [] (γ 0) = (0, ρ 8 + 8 * ρ 7, γ 1) from l0.symm)).trans ?_
  refine (zLet_eq (show _ = γ 1 from rfl)).trans ?_
  refine (zLet_eq (show fn7 [] (γ 1) = (0, 0, γ 2) from l1.symm)).trans ?_
  refine (zLet_eq (show _ = γ 2 from rfl)).trans ?_
  refine (zLet_eq m15).trans ?_
  refine (zLet_eq (show fn6 [ρ 16] (γ 2) = (0, ρ 17, γ 3) from l2.symm)).trans ?_
  refine (zLet_eq (show _ = γ 3 from rfl)).trans ?_
  refine (if_pos w_0).trans ?_
  refine (zLet_eq (show _ = ρ 17 from rfl)).trans ?_
  refine (if_neg w_1).trans ?_
  refine (if_pos w_2).trans ?_
  refine (zLet_eq c4.symm).trans ?_
  refine (zLet_eq c5.symm).trans ?_
  refine (zLet_eq m16).trans ?_
  refine (if_neg w_3).trans ?_
  refine (zLet_eq (show fn19 [ρ 10] (γ 5) = (0, 1, γ 6) from l4.symm)).trans ?_
  refine (zLet_eq (show _ = γ 6 from rfl)).trans ?_
  refine (if_pos zQ1_).trans ?_
  refine (zLet_eq (show fn34 [1] (γ 6) = (0, 1, γ 7) from l5.symm)).trans ?_
  refine (zLet_eq (show _ = γ 7 from rfl)).trans ?_
  refine (if_pos zQ1_).trans ?_
  rfl
theorem vn40_18 {S : Nat → zSpc} (hS6 : ∀ x g o v gz, S 6 x g o v gz → sn6 x g o v gz) (hS7 : ∀ x g o v gz, S 7 x g o v gz → sn7 x g o v gz) (hS8 : ∀ x g o v gz, S 8 x g o v gz → sn8 x g o v gz) (hS19 : ∀ x g o v gz, S 19 x g o v gz → sn19 x g o v gz) (hS33 : ∀ x g o v gz, S 33 x g o v gz → sn33 x g o v gz) (hS34 : ∀ x g o v gz, S 34 x g o v gz → sn34 x g o v gz) {a : List Int} {g : rHp} : ∀ (ρ : Nat → Int) (γ : Nat → rHp), zO 16 S a g q40_18 ρ γ → zGl (fun _ _ _ => True) (sn40 a g) q40_18 ρ γ := by
  intro ρ γ h
  obtain ⟨ha, hg, hr, hf, hm, hc, hl⟩ := h
  have ha : a = [ρ 0, ρ 1, ρ 2, ρ 3, ρ 4, ρ 5, ρ 6, ρ 7, ρ 8, ρ 9, ρ 10, ρ 11, ρ 12, ρ 13, ρ 14, ρ 15] := ha
  subst ha
  subst hg
  obtain ⟨-, -, -, -, -, -, -, -, -, -, -, -, -, -, -, -, -, r17, -⟩ := hr
  have r17 : ((-128) : Int) ≤ ρ 17 ∧ ρ 17 ≤ 127 := r17
  obtain ⟨-, -, f2, -⟩ := hf
  have f2 : (0 : Int) ≤ -ρ 16 + ρ 2 + (-1) := f2
  have w_0 : 0 ≤ -ρ 16 + ρ 2 + (-1) := by omega
  obtain ⟨-, m1, -, -, -, -, m6, m7, -, m9, -, -, -, -, -, m15, -⟩ := hm
  have m1 : γ 0 15 0 34 = ρ 2 := m1
  have m6 : γ 0 15 0 44 = ρ 7 := m6
  have m7 : γ 0 73 0 (ρ 7) = ρ 8 := m7
  have m9 : γ 0 81 0 (4 * ρ 8 + 32 * ρ 7) = ρ 10 := m9
  have m15 : γ 2 15 0 35 = ρ 16 := m15
  obtain ⟨l0, l1, l2, l3, l4, l5, -⟩ := hl
  have l0 : sn33 [ρ 7, ρ 8] (γ 0) 0 (ρ 8 + 8 * ρ 7) (γ 1) := hS33 _ _ _ _ _ l0
  have l1 : sn7 [ρ 1, ρ 2] (γ 1) 0 0 (γ 2) := hS7 _ _ _ _ _ l1
  have l2 : sn6 [ρ 16, ρ 2] (γ 2) 0 (ρ 17) (γ 3) := hS6 _ _ _ _ _ l2
  have l3 : ρ 17 ≠ 60 := l3
  have l4 : ρ 17 ≠ 61 := l4
  have l5 : sn8 [ρ 16, ρ 2, ρ 11] (γ 3) 0 0 (γ 4) := hS8 _ _ _ _ _ l5
  obtain ⟨wl_0, wl_1⟩ : (¬ (ρ 17 = 60)) ∧ (¬ (ρ 17 = 61)) := ⟨by omega, by omega⟩
  show sn40 [ρ 0, ρ 1, ρ 2, ρ 3, ρ 4, ρ 5, ρ 6, ρ 7, ρ 8, ρ 9, ρ 10, ρ 11, ρ 12, ρ 13, ρ 14, ρ 15] (γ 0) 0 0 (γ 4)
  refine Eq.symm ?_
  show fn40 [ρ 0] (γ 0) = _
  unfold fn40
  refine (zLet_eq (show _ = ρ 0 from rfl)).trans ?_
  refine (zLet_eq m1).trans ?_
  refine (zLet_eq m6).trans ?_
  refine (zLet_eq m7).trans ?_
  refine (zLet_eq m9).trans ?_
  refine (zLet_eq (show fn33 [] (γ 0) = (0, ρ 8 + 8 * ρ 7, γ 1) from l0.symm)).trans ?_
  refine (zLet_eq (show _ = γ 1 from rfl)).trans ?_
  refine (zLet_eq (show fn7 [] (γ 1) = (0, 0, γ 2) from l1.symm)).trans ?_
  refine (zLet_eq (show _ = γ 2 from rfl)).trans ?_
  refine (zLet_eq m15).trans ?_
  refine (zLet_eq (show fn6 [ρ 16] (γ 2) = (0, ρ 17, γ 3) from l2.symm)).trans ?_
  refine (zLet_eq (show _ = γ 3 from rfl)).trans ?_
  refine (if_pos w_0).trans ?_
  refine (zLet_eq (show _ = ρ 17 from rfl)).trans ?_
  refine (if_neg wl_0).trans ?_
  refine (if_neg wl_1).trans ?_
  refine (zLet_eq (show fn8 [ρ 16] (γ 3) = (0, 0, γ 4) from l5.symm)).trans ?_
  refine (zLet_eq (show _ = γ 4 from rfl)).trans ?_
  rfl
theorem vn40_19 {S : Nat → zSpc} (hS6 : ∀ x g o v gz, S 6 x g o v gz → sn6 x g o v gz) (hS7 : ∀ x g o v gz, S 7 x g o v gz → sn7 x g o v gz) (hS8 : ∀ x g o v gz, S 8 x g o v gz → sn8 x g o v gz) (hS19 : ∀ x g o v gz, S 19 x g o v gz → sn19 x g o v gz) (hS33 : ∀ x g o v gz, S 33 x g o v gz → sn33 x g o v gz) (hS34 : ∀ x g o v gz, S 34 x g o v gz → sn34 x g o v gz) {a : List Int} {g : rHp} : ∀ (ρ : Nat → Int) (γ : Nat → rHp), zO 16 S a g q40_19 ρ γ → zGl (fun _ _ _ => True) (sn40 a g) q40_19 ρ γ := by
  intro ρ γ h
  obtain ⟨ha, hg, hr, hf, hm, hc, hl⟩ := h
  have ha : a = [ρ 0, ρ 1, ρ 2, ρ 3, ρ 4, ρ 5, ρ 6, ρ 7, ρ 8, ρ 9, ρ 10, ρ 11, ρ 12, ρ 13, ρ 14, ρ 15] := ha
  subst ha
  subst hg
  obtain ⟨-, -, f2, -⟩ := hf
  have f2 : (0 : Int) ≤ ρ 16 + -ρ 2 := f2
  have w_0 : ¬ (0 ≤ -ρ 16 + ρ 2 + (-1)) := by omega
  obtain ⟨-, m1, -, -, -, -, m6, m7, -, m9, -, -, -, -, -, m15, -⟩ := hm
  have m1 : γ 0 15 0 34 = ρ 2 := m1
  have m6 : γ 0 15 0 44 = ρ 7 := m6
  have m7 : γ 0 73 0 (ρ 7) = ρ 8 := m7
  have m9 : γ 0 81 0 (4 * ρ 8 + 32 * ρ 7) = ρ 10 := m9
  have m15 : γ 2 15 0 35 = ρ 16 := m15
  obtain ⟨l0, l1, l2, l3, -⟩ := hl
  have l0 : sn33 [ρ 7, ρ 8] (γ 0) 0 (ρ 8 + 8 * ρ 7) (γ 1) := hS33 _ _ _ _ _ l0
  have l1 : sn7 [ρ 1, ρ 2] (γ 1) 0 0 (γ 2) := hS7 _ _ _ _ _ l1
  have l2 : sn6 [ρ 16, ρ 2] (γ 2) 0 (-1) (γ 3) := hS6 _ _ _ _ _ l2
  have l3 : sn8 [ρ 16, ρ 2, ρ 11] (γ 3) 0 0 (γ 4) := hS8 _ _ _ _ _ l3
  show sn40 [ρ 0, ρ 1, ρ 2, ρ 3, ρ 4, ρ 5, ρ 6, ρ 7, ρ 8, ρ 9, ρ 10, ρ 11, ρ 12, ρ 13, ρ 14, ρ 15] (γ 0) 0 0 (γ 4)
  refine Eq.symm ?_
  show fn40 [ρ 0] (γ 0) = _
  unfold fn40
  refine (zLet_eq (show _ = ρ 0 from rfl)).trans ?_
  refine (zLet_eq m1).trans ?_
  refine (zLet_eq m6).trans ?_
  refine (zLet_eq m7).trans ?_
  refine (zLet_eq m9).trans ?_
  refine (zLet_eq (show fn33 [] (γ 0) = (0, ρ 8 + 8 * ρ 7, γ 1) from l0.symm)).trans ?_
  refine (zLet_eq (show _ = γ 1 from rfl)).trans ?_
  refine (zLet_eq (show fn7 [] (γ 1) = (0, 0, γ 2) from l1.symm)).trans ?_
  refine (zLet_eq (show _ = γ 2 from rfl)).trans ?_
  refine (zLet_eq m15).trans ?_
  refine (zLet_eq (show fn6 [ρ 16] (γ 2) = (0, (-1), γ 3) from l2.symm)).trans ?_
  refine (zLet_eq (show _ = γ 3 from rfl)).trans ?_
  refine (if_neg w_0).trans ?_
  refine (zLet_eq (show fn8 [ρ 16] (γ 3) = (0, 0, γ 4) from l3.symm)).trans ?_
  refine (zLet_eq (show _ = γ 4 from rfl)).trans ?_
  rfl
theorem yn40 {S : Nat → zSpc} (hS6 : ∀ x g o v gz, S 6 x g o v gz → sn6 x g o v gz) (hS7 : ∀ x g o v gz, S 7 x g o v gz → sn7 x g o v gz) (hS8 : ∀ x g o v gz, S 8 x g o v gz → sn8 x g o v gz) (hS19 : ∀ x g o v gz, S 19 x g o v gz → sn19 x g o v gz) (hS33 : ∀ x g o v gz, S 33 x g o v gz → sn33 x g o v gz) (hS34 : ∀ x g o v gz, S 34 x g o v gz → sn34 x g o v gz) : ∀ x g o v gz, zSem uW uT w40_.2.2.2.1 w40_.2.2.1.1.length S q40 (fun i => q40a.getD i []) (zNA a40_) x g o v gz → sn40 x g o v gz := by
  intro a g o v gz h
  exact zSem_all (l0 := q40) (las := q40a) (S := S) (J := (fun _ _ _ => True)) (P := sn40 a g) (fun _ => (show zAll _ [q40_0, q40_1, q40_2, q40_3, q40_4, q40_5, q40_6, q40_7, q40_8, q40_9, q40_10, q40_11, q40_12, q40_13, q40_14, q40_15, q40_16, q40_17, q40_18, q40_19] from (zAll_c (vn40_0 hS6 hS7 hS8 hS19 hS33 hS34) (zAll_c (vn40_1 hS6 hS7 hS8 hS19 hS33 hS34) (zAll_c (vn40_2 hS6 hS7 hS8 hS19 hS33 hS34) (zAll_c (vn40_3 hS6 hS7 hS8 hS19 hS33 hS34) (zAll_c (vn40_4 hS6 hS7 hS8 hS19 hS33 hS34) (zAll_c (vn40_5 hS6 hS7 hS8 hS19 hS33 hS34) (zAll_c (vn40_6 hS6 hS7 hS8 hS19 hS33 hS34) (zAll_c (vn40_7 hS6 hS7 hS8 hS19 hS33 hS34) (zAll_c (vn40_8 hS6 hS7 hS8 hS19 hS33 hS34) (zAll_c (vn40_9 hS6 hS7 hS8 hS19 hS33 hS34) (zAll_c (vn40_10 hS6 hS7 hS8 hS19 hS33 hS34) (zAll_c (vn40_11 hS6 hS7 hS8 hS19 hS33 hS34) (zAll_c (vn40_12 hS6 hS7 hS8 hS19 hS33 hS34) (zAll_c (vn40_13 hS6 hS7 hS8 hS19 hS33 hS34) (zAll_c (vn40_14 hS6 hS7 hS8 hS19 hS33 hS34) (zAll_c (vn40_15 hS6 hS7 hS8 hS19 hS33 hS34) (zAll_c (vn40_16 hS6 hS7 hS8 hS19 hS33 hS34) (zAll_c (vn40_17 hS6 hS7 hS8 hS19 hS33 hS34) (zAll_c (vn40_18 hS6 hS7 hS8 hS19 hS33 hS34) (zAll_c (vn40_19 hS6 hS7 hS8 hS19 hS33 hS34) zAll_n)))))))))))))))))))))) (fun _ => (show zAllI _ 0 [] from trivial)) h
